section
-- ===== PART A: goes FIRST, ahead of the names: the tables' words, and 'selects' of the private methods out of them =====
/-- a private method of a class that the tables say can be made, by its rows of tables_1 -/
def lw_okq (q : MethodName × Nat) : Prop := (q.1.cls ≠ "java/lang/invoke/MethodHandle" ∧ q.1.cls ≠ "java/lang/invoke/VarHandle") ∧ Cond.instantiable q.1.cls q.2 ∈ tables_1 ∧ Cond.privateMethod q.1 ∈ tables_1 ∧ Cond.instanceMethod q.1 ∈ tables_1
theorem lw_p0 : lw_okq (⟨"ReactionDesk", "rewind", "(I)V"⟩, 6) := ⟨⟨by decide +kernel, by decide +kernel⟩, List.mem_of_getElem? (i := 16) (by decide +kernel), List.mem_of_getElem? (i := 144) (by decide +kernel), List.mem_of_getElem? (i := 145) (by decide +kernel)⟩
theorem lw_p1 : lw_okq (⟨"ReactionDesk$Reaction", "rewind", "()V"⟩, 9) := ⟨⟨by decide +kernel, by decide +kernel⟩, List.mem_of_getElem? (i := 83) (by decide +kernel), List.mem_of_getElem? (i := 148) (by decide +kernel), List.mem_of_getElem? (i := 149) (by decide +kernel)⟩
theorem lw_p2 : lw_okq (⟨"ReactionDesk$Program", "forget", "()I"⟩, 15) := ⟨⟨by decide +kernel, by decide +kernel⟩, List.mem_of_getElem? (i := 24) (by decide +kernel), List.mem_of_getElem? (i := 152) (by decide +kernel), List.mem_of_getElem? (i := 153) (by decide +kernel)⟩
theorem lw_p3 : lw_okq (⟨"ReactionDesk$Program", "isWhole", "()Z"⟩, 15) := ⟨⟨by decide +kernel, by decide +kernel⟩, List.mem_of_getElem? (i := 24) (by decide +kernel), List.mem_of_getElem? (i := 175) (by decide +kernel), List.mem_of_getElem? (i := 176) (by decide +kernel)⟩
theorem lw_p4 : lw_okq (⟨"java/lang/Throwable", "fillInStackTrace", "(I)Ljava/lang/Throwable;"⟩, 6) := ⟨⟨by decide +kernel, by decide +kernel⟩, List.mem_of_getElem? (i := 217) (by decide +kernel), List.mem_of_getElem? (i := 215) (by decide +kernel), List.mem_of_getElem? (i := 216) (by decide +kernel)⟩
theorem lw_p5 : lw_okq (⟨"ReactionDesk$Program", "allows", "(II)Z"⟩, 15) := ⟨⟨by decide +kernel, by decide +kernel⟩, List.mem_of_getElem? (i := 24) (by decide +kernel), List.mem_of_getElem? (i := 247) (by decide +kernel), List.mem_of_getElem? (i := 248) (by decide +kernel)⟩
theorem lw_p6 : lw_okq (⟨"ReactionDesk$Program", "trapsAround", "()I"⟩, 15) := ⟨⟨by decide +kernel, by decide +kernel⟩, List.mem_of_getElem? (i := 24) (by decide +kernel), List.mem_of_getElem? (i := 251) (by decide +kernel), List.mem_of_getElem? (i := 252) (by decide +kernel)⟩
theorem lw_p7 : lw_okq (⟨"ReactionDesk$Program", "sortOf", "(I)I"⟩, 15) := ⟨⟨by decide +kernel, by decide +kernel⟩, List.mem_of_getElem? (i := 24) (by decide +kernel), List.mem_of_getElem? (i := 255) (by decide +kernel), List.mem_of_getElem? (i := 256) (by decide +kernel)⟩
theorem lw_p8 : lw_okq (⟨"ReactionDesk$Program", "has", "(I)Z"⟩, 15) := ⟨⟨by decide +kernel, by decide +kernel⟩, List.mem_of_getElem? (i := 24) (by decide +kernel), List.mem_of_getElem? (i := 259) (by decide +kernel), List.mem_of_getElem? (i := 260) (by decide +kernel)⟩
theorem lw_p9 : lw_okq (⟨"ReactionDesk$Program", "hasRoomFor", "(I)Z"⟩, 15) := ⟨⟨by decide +kernel, by decide +kernel⟩, List.mem_of_getElem? (i := 24) (by decide +kernel), List.mem_of_getElem? (i := 279) (by decide +kernel), List.mem_of_getElem? (i := 280) (by decide +kernel)⟩
theorem lw_p10 : lw_okq (⟨"ReactionDesk$Program", "nextWeight", "()I"⟩, 15) := ⟨⟨by decide +kernel, by decide +kernel⟩, List.mem_of_getElem? (i := 24) (by decide +kernel), List.mem_of_getElem? (i := 283) (by decide +kernel), List.mem_of_getElem? (i := 284) (by decide +kernel)⟩
theorem lw_p11 : lw_okq (⟨"ReactionDesk$Program", "weightOf", "(I)I"⟩, 15) := ⟨⟨by decide +kernel, by decide +kernel⟩, List.mem_of_getElem? (i := 24) (by decide +kernel), List.mem_of_getElem? (i := 287) (by decide +kernel), List.mem_of_getElem? (i := 288) (by decide +kernel)⟩
theorem lw_p12 : lw_okq (⟨"ReactionDesk$Program", "add", "(II)V"⟩, 15) := ⟨⟨by decide +kernel, by decide +kernel⟩, List.mem_of_getElem? (i := 24) (by decide +kernel), List.mem_of_getElem? (i := 291) (by decide +kernel), List.mem_of_getElem? (i := 292) (by decide +kernel)⟩
theorem lw_p13 : lw_okq (⟨"ReactionDesk$Program", "numberPause", "(I)V"⟩, 15) := ⟨⟨by decide +kernel, by decide +kernel⟩, List.mem_of_getElem? (i := 24) (by decide +kernel), List.mem_of_getElem? (i := 297) (by decide +kernel), List.mem_of_getElem? (i := 298) (by decide +kernel)⟩
theorem lw_p14 : lw_okq (⟨"ReactionDesk$Program", "attach", "(I)V"⟩, 15) := ⟨⟨by decide +kernel, by decide +kernel⟩, List.mem_of_getElem? (i := 24) (by decide +kernel), List.mem_of_getElem? (i := 301) (by decide +kernel), List.mem_of_getElem? (i := 302) (by decide +kernel)⟩
theorem lw_p15 : lw_okq (⟨"ReactionDesk$Program", "openUp", "(II)V"⟩, 15) := ⟨⟨by decide +kernel, by decide +kernel⟩, List.mem_of_getElem? (i := 24) (by decide +kernel), List.mem_of_getElem? (i := 305) (by decide +kernel), List.mem_of_getElem? (i := 306) (by decide +kernel)⟩
def lw_privs_1 : List (MethodName × Nat) := [(⟨"ReactionDesk", "rewind", "(I)V"⟩, 6), (⟨"ReactionDesk$Reaction", "rewind", "()V"⟩, 9), (⟨"ReactionDesk$Program", "forget", "()I"⟩, 15), (⟨"ReactionDesk$Program", "isWhole", "()Z"⟩, 15), (⟨"java/lang/Throwable", "fillInStackTrace", "(I)Ljava/lang/Throwable;"⟩, 6), (⟨"ReactionDesk$Program", "allows", "(II)Z"⟩, 15), (⟨"ReactionDesk$Program", "trapsAround", "()I"⟩, 15), (⟨"ReactionDesk$Program", "sortOf", "(I)I"⟩, 15), (⟨"ReactionDesk$Program", "has", "(I)Z"⟩, 15), (⟨"ReactionDesk$Program", "hasRoomFor", "(I)Z"⟩, 15), (⟨"ReactionDesk$Program", "nextWeight", "()I"⟩, 15), (⟨"ReactionDesk$Program", "weightOf", "(I)I"⟩, 15), (⟨"ReactionDesk$Program", "add", "(II)V"⟩, 15), (⟨"ReactionDesk$Program", "numberPause", "(I)V"⟩, 15), (⟨"ReactionDesk$Program", "attach", "(I)V"⟩, 15), (⟨"ReactionDesk$Program", "openUp", "(II)V"⟩, 15)]
theorem lw_r1 : ∀ q ∈ lw_privs_1, lw_okq q := List.forall_mem_cons.mpr ⟨lw_p0, List.forall_mem_cons.mpr ⟨lw_p1, List.forall_mem_cons.mpr ⟨lw_p2, List.forall_mem_cons.mpr ⟨lw_p3, List.forall_mem_cons.mpr ⟨lw_p4, List.forall_mem_cons.mpr ⟨lw_p5, List.forall_mem_cons.mpr ⟨lw_p6, List.forall_mem_cons.mpr ⟨lw_p7, List.forall_mem_cons.mpr ⟨lw_p8, List.forall_mem_cons.mpr ⟨lw_p9, List.forall_mem_cons.mpr ⟨lw_p10, List.forall_mem_cons.mpr ⟨lw_p11, List.forall_mem_cons.mpr ⟨lw_p12, List.forall_mem_cons.mpr ⟨lw_p13, List.forall_mem_cons.mpr ⟨lw_p14, List.forall_mem_cons.mpr ⟨lw_p15, fun _ h => absurd h List.not_mem_nil⟩⟩⟩⟩⟩⟩⟩⟩⟩⟩⟩⟩⟩⟩⟩⟩
theorem lw_p16 : lw_okq (⟨"ReactionDesk$Program", "closeFull", "()V"⟩, 15) := ⟨⟨by decide +kernel, by decide +kernel⟩, List.mem_of_getElem? (i := 24) (by decide +kernel), List.mem_of_getElem? (i := 309) (by decide +kernel), List.mem_of_getElem? (i := 310) (by decide +kernel)⟩
theorem lw_p17 : lw_okq (⟨"ReactionDesk$Program", "firstLoopAtOnce", "()I"⟩, 15) := ⟨⟨by decide +kernel, by decide +kernel⟩, List.mem_of_getElem? (i := 24) (by decide +kernel), List.mem_of_getElem? (i := 321) (by decide +kernel), List.mem_of_getElem? (i := 322) (by decide +kernel)⟩
theorem lw_p18 : lw_okq (⟨"ReactionDesk$Program", "findStartCodes", "(I)I"⟩, 15) := ⟨⟨by decide +kernel, by decide +kernel⟩, List.mem_of_getElem? (i := 24) (by decide +kernel), List.mem_of_getElem? (i := 325) (by decide +kernel), List.mem_of_getElem? (i := 326) (by decide +kernel)⟩
theorem lw_p19 : lw_okq (⟨"ReactionDesk$Program", "startCodesOf", "(I)I"⟩, 15) := ⟨⟨by decide +kernel, by decide +kernel⟩, List.mem_of_getElem? (i := 24) (by decide +kernel), List.mem_of_getElem? (i := 329) (by decide +kernel), List.mem_of_getElem? (i := 330) (by decide +kernel)⟩
theorem lw_p20 : lw_okq (⟨"ReactionDesk$Program", "secondOf", "(I)I"⟩, 15) := ⟨⟨by decide +kernel, by decide +kernel⟩, List.mem_of_getElem? (i := 24) (by decide +kernel), List.mem_of_getElem? (i := 333) (by decide +kernel), List.mem_of_getElem? (i := 334) (by decide +kernel)⟩
theorem lw_p21 : lw_okq (⟨"ReactionDesk$Program", "operandOf", "(I)I"⟩, 15) := ⟨⟨by decide +kernel, by decide +kernel⟩, List.mem_of_getElem? (i := 24) (by decide +kernel), List.mem_of_getElem? (i := 337) (by decide +kernel), List.mem_of_getElem? (i := 338) (by decide +kernel)⟩
theorem lw_p22 : lw_okq (⟨"ReactionDesk$Reaction", "isFound", "(I)Z"⟩, 9) := ⟨⟨by decide +kernel, by decide +kernel⟩, List.mem_of_getElem? (i := 83) (by decide +kernel), List.mem_of_getElem? (i := 373) (by decide +kernel), List.mem_of_getElem? (i := 374) (by decide +kernel)⟩
theorem lw_p23 : lw_okq (⟨"ReactionDesk$Reaction", "forgetLocals", "()V"⟩, 9) := ⟨⟨by decide +kernel, by decide +kernel⟩, List.mem_of_getElem? (i := 83) (by decide +kernel), List.mem_of_getElem? (i := 377) (by decide +kernel), List.mem_of_getElem? (i := 378) (by decide +kernel)⟩
theorem lw_p24 : lw_okq (⟨"ReactionDesk$Reaction", "run", "(IIZ)J"⟩, 9) := ⟨⟨by decide +kernel, by decide +kernel⟩, List.mem_of_getElem? (i := 83) (by decide +kernel), List.mem_of_getElem? (i := 381) (by decide +kernel), List.mem_of_getElem? (i := 382) (by decide +kernel)⟩
theorem lw_p25 : lw_okq (⟨"ReactionDesk$Reaction", "runTrap", "(IIZ)J"⟩, 9) := ⟨⟨by decide +kernel, by decide +kernel⟩, List.mem_of_getElem? (i := 83) (by decide +kernel), List.mem_of_getElem? (i := 386) (by decide +kernel), List.mem_of_getElem? (i := 387) (by decide +kernel)⟩
theorem lw_p26 : lw_okq (⟨"ReactionDesk$Program", "pausesIn", "(I)I"⟩, 15) := ⟨⟨by decide +kernel, by decide +kernel⟩, List.mem_of_getElem? (i := 24) (by decide +kernel), List.mem_of_getElem? (i := 396) (by decide +kernel), List.mem_of_getElem? (i := 397) (by decide +kernel)⟩
theorem lw_p27 : lw_okq (⟨"ReactionDesk$Reaction", "runLocal", "(IIZ)J"⟩, 9) := ⟨⟨by decide +kernel, by decide +kernel⟩, List.mem_of_getElem? (i := 83) (by decide +kernel), List.mem_of_getElem? (i := 422) (by decide +kernel), List.mem_of_getElem? (i := 423) (by decide +kernel)⟩
theorem lw_p28 : lw_okq (⟨"ReactionDesk$Program", "weightBefore", "(I)I"⟩, 15) := ⟨⟨by decide +kernel, by decide +kernel⟩, List.mem_of_getElem? (i := 24) (by decide +kernel), List.mem_of_getElem? (i := 427) (by decide +kernel), List.mem_of_getElem? (i := 428) (by decide +kernel)⟩
theorem lw_p29 : lw_okq (⟨"ReactionDesk$Reaction", "runWithStatus", "(IIZ)J"⟩, 9) := ⟨⟨by decide +kernel, by decide +kernel⟩, List.mem_of_getElem? (i := 83) (by decide +kernel), List.mem_of_getElem? (i := 431) (by decide +kernel), List.mem_of_getElem? (i := 432) (by decide +kernel)⟩
theorem lw_p30 : lw_okq (⟨"ReactionDesk$Reaction", "statusAt", "(I)I"⟩, 9) := ⟨⟨by decide +kernel, by decide +kernel⟩, List.mem_of_getElem? (i := 83) (by decide +kernel), List.mem_of_getElem? (i := 435) (by decide +kernel), List.mem_of_getElem? (i := 436) (by decide +kernel)⟩
theorem lw_p31 : lw_okq (⟨"ReactionDesk$Reaction", "learnLocal", "(IIJ)Z"⟩, 9) := ⟨⟨by decide +kernel, by decide +kernel⟩, List.mem_of_getElem? (i := 83) (by decide +kernel), List.mem_of_getElem? (i := 439) (by decide +kernel), List.mem_of_getElem? (i := 440) (by decide +kernel)⟩
def lw_privs_2 : List (MethodName × Nat) := [(⟨"ReactionDesk$Program", "closeFull", "()V"⟩, 15), (⟨"ReactionDesk$Program", "firstLoopAtOnce", "()I"⟩, 15), (⟨"ReactionDesk$Program", "findStartCodes", "(I)I"⟩, 15), (⟨"ReactionDesk$Program", "startCodesOf", "(I)I"⟩, 15), (⟨"ReactionDesk$Program", "secondOf", "(I)I"⟩, 15), (⟨"ReactionDesk$Program", "operandOf", "(I)I"⟩, 15), (⟨"ReactionDesk$Reaction", "isFound", "(I)Z"⟩, 9), (⟨"ReactionDesk$Reaction", "forgetLocals", "()V"⟩, 9), (⟨"ReactionDesk$Reaction", "run", "(IIZ)J"⟩, 9), (⟨"ReactionDesk$Reaction", "runTrap", "(IIZ)J"⟩, 9), (⟨"ReactionDesk$Program", "pausesIn", "(I)I"⟩, 15), (⟨"ReactionDesk$Reaction", "runLocal", "(IIZ)J"⟩, 9), (⟨"ReactionDesk$Program", "weightBefore", "(I)I"⟩, 15), (⟨"ReactionDesk$Reaction", "runWithStatus", "(IIZ)J"⟩, 9), (⟨"ReactionDesk$Reaction", "statusAt", "(I)I"⟩, 9), (⟨"ReactionDesk$Reaction", "learnLocal", "(IIJ)Z"⟩, 9)]
theorem lw_r2 : ∀ q ∈ lw_privs_2, lw_okq q := List.forall_mem_cons.mpr ⟨lw_p16, List.forall_mem_cons.mpr ⟨lw_p17, List.forall_mem_cons.mpr ⟨lw_p18, List.forall_mem_cons.mpr ⟨lw_p19, List.forall_mem_cons.mpr ⟨lw_p20, List.forall_mem_cons.mpr ⟨lw_p21, List.forall_mem_cons.mpr ⟨lw_p22, List.forall_mem_cons.mpr ⟨lw_p23, List.forall_mem_cons.mpr ⟨lw_p24, List.forall_mem_cons.mpr ⟨lw_p25, List.forall_mem_cons.mpr ⟨lw_p26, List.forall_mem_cons.mpr ⟨lw_p27, List.forall_mem_cons.mpr ⟨lw_p28, List.forall_mem_cons.mpr ⟨lw_p29, List.forall_mem_cons.mpr ⟨lw_p30, List.forall_mem_cons.mpr ⟨lw_p31, fun _ h => absurd h List.not_mem_nil⟩⟩⟩⟩⟩⟩⟩⟩⟩⟩⟩⟩⟩⟩⟩⟩
theorem lw_p32 : lw_okq (⟨"ReactionDesk$Reaction", "learnStatus", "(II)V"⟩, 9) := ⟨⟨by decide +kernel, by decide +kernel⟩, List.mem_of_getElem? (i := 83) (by decide +kernel), List.mem_of_getElem? (i := 446) (by decide +kernel), List.mem_of_getElem? (i := 447) (by decide +kernel)⟩
theorem lw_p33 : lw_okq (⟨"ReactionDesk$Reaction", "resume", "(IZ)J"⟩, 9) := ⟨⟨by decide +kernel, by decide +kernel⟩, List.mem_of_getElem? (i := 83) (by decide +kernel), List.mem_of_getElem? (i := 455) (by decide +kernel), List.mem_of_getElem? (i := 456) (by decide +kernel)⟩
theorem lw_p34 : lw_okq (⟨"ReactionDesk$Reaction", "isSelectedIn", "(I)Z"⟩, 9) := ⟨⟨by decide +kernel, by decide +kernel⟩, List.mem_of_getElem? (i := 83) (by decide +kernel), List.mem_of_getElem? (i := 460) (by decide +kernel), List.mem_of_getElem? (i := 461) (by decide +kernel)⟩
theorem lw_p35 : lw_okq (⟨"ReactionDesk$Reaction", "resumeSuspend", "(IZ)J"⟩, 9) := ⟨⟨by decide +kernel, by decide +kernel⟩, List.mem_of_getElem? (i := 83) (by decide +kernel), List.mem_of_getElem? (i := 464) (by decide +kernel), List.mem_of_getElem? (i := 465) (by decide +kernel)⟩
theorem lw_p36 : lw_okq (⟨"ReactionDesk$Reaction", "tested", "(I)I"⟩, 9) := ⟨⟨by decide +kernel, by decide +kernel⟩, List.mem_of_getElem? (i := 83) (by decide +kernel), List.mem_of_getElem? (i := 468) (by decide +kernel), List.mem_of_getElem? (i := 469) (by decide +kernel)⟩
theorem lw_p37 : lw_okq (⟨"ReactionDesk$Reaction", "andThen", "(JII)J"⟩, 9) := ⟨⟨by decide +kernel, by decide +kernel⟩, List.mem_of_getElem? (i := 83) (by decide +kernel), List.mem_of_getElem? (i := 480) (by decide +kernel), List.mem_of_getElem? (i := 481) (by decide +kernel)⟩
theorem lw_p38 : lw_okq (⟨"ReactionDesk$Reaction", "resumeBranch", "(IZ)J"⟩, 9) := ⟨⟨by decide +kernel, by decide +kernel⟩, List.mem_of_getElem? (i := 83) (by decide +kernel), List.mem_of_getElem? (i := 496) (by decide +kernel), List.mem_of_getElem? (i := 497) (by decide +kernel)⟩
theorem lw_p39 : lw_okq (⟨"ReactionDesk$Reaction", "begin", "(IIZ)J"⟩, 9) := ⟨⟨by decide +kernel, by decide +kernel⟩, List.mem_of_getElem? (i := 83) (by decide +kernel), List.mem_of_getElem? (i := 507) (by decide +kernel), List.mem_of_getElem? (i := 508) (by decide +kernel)⟩
theorem lw_p40 : lw_okq (⟨"ReactionDesk$Reaction", "beginPresent", "(IIZ)J"⟩, 9) := ⟨⟨by decide +kernel, by decide +kernel⟩, List.mem_of_getElem? (i := 83) (by decide +kernel), List.mem_of_getElem? (i := 512) (by decide +kernel), List.mem_of_getElem? (i := 513) (by decide +kernel)⟩
theorem lw_p41 : lw_okq (⟨"ReactionDesk$Reaction", "learnSignals", "()V"⟩, 9) := ⟨⟨by decide +kernel, by decide +kernel⟩, List.mem_of_getElem? (i := 83) (by decide +kernel), List.mem_of_getElem? (i := 516) (by decide +kernel), List.mem_of_getElem? (i := 517) (by decide +kernel)⟩
theorem lw_p42 : lw_okq (⟨"ReactionDesk$Reaction", "mustCodes", "()I"⟩, 9) := ⟨⟨by decide +kernel, by decide +kernel⟩, List.mem_of_getElem? (i := 83) (by decide +kernel), List.mem_of_getElem? (i := 521) (by decide +kernel), List.mem_of_getElem? (i := 522) (by decide +kernel)⟩
theorem lw_p43 : lw_okq (⟨"ReactionDesk$Reaction", "settle", "()V"⟩, 9) := ⟨⟨by decide +kernel, by decide +kernel⟩, List.mem_of_getElem? (i := 83) (by decide +kernel), List.mem_of_getElem? (i := 525) (by decide +kernel), List.mem_of_getElem? (i := 526) (by decide +kernel)⟩
theorem lw_p44 : lw_okq (⟨"ReactionDesk$Reaction", "ends", "()Z"⟩, 9) := ⟨⟨by decide +kernel, by decide +kernel⟩, List.mem_of_getElem? (i := 83) (by decide +kernel), List.mem_of_getElem? (i := 529) (by decide +kernel), List.mem_of_getElem? (i := 530) (by decide +kernel)⟩
theorem lw_p45 : lw_okq (⟨"ReactionDeskModel", "isSaid", "(II)Z"⟩, 29) := ⟨⟨by decide +kernel, by decide +kernel⟩, List.mem_of_getElem? (i := 581) (by decide +kernel), List.mem_of_getElem? (i := 684) (by decide +kernel), List.mem_of_getElem? (i := 685) (by decide +kernel)⟩
theorem lw_p46 : lw_okq (⟨"ReactionDeskModel", "trapsHere", "()I"⟩, 29) := ⟨⟨by decide +kernel, by decide +kernel⟩, List.mem_of_getElem? (i := 581) (by decide +kernel), List.mem_of_getElem? (i := 688) (by decide +kernel), List.mem_of_getElem? (i := 689) (by decide +kernel)⟩
theorem lw_p47 : lw_okq (⟨"ReactionDeskModel", "fails", "(ZZ)Z"⟩, 29) := ⟨⟨by decide +kernel, by decide +kernel⟩, List.mem_of_getElem? (i := 581) (by decide +kernel), List.mem_of_getElem? (i := 692) (by decide +kernel), List.mem_of_getElem? (i := 693) (by decide +kernel)⟩
def lw_privs_3 : List (MethodName × Nat) := [(⟨"ReactionDesk$Reaction", "learnStatus", "(II)V"⟩, 9), (⟨"ReactionDesk$Reaction", "resume", "(IZ)J"⟩, 9), (⟨"ReactionDesk$Reaction", "isSelectedIn", "(I)Z"⟩, 9), (⟨"ReactionDesk$Reaction", "resumeSuspend", "(IZ)J"⟩, 9), (⟨"ReactionDesk$Reaction", "tested", "(I)I"⟩, 9), (⟨"ReactionDesk$Reaction", "andThen", "(JII)J"⟩, 9), (⟨"ReactionDesk$Reaction", "resumeBranch", "(IZ)J"⟩, 9), (⟨"ReactionDesk$Reaction", "begin", "(IIZ)J"⟩, 9), (⟨"ReactionDesk$Reaction", "beginPresent", "(IIZ)J"⟩, 9), (⟨"ReactionDesk$Reaction", "learnSignals", "()V"⟩, 9), (⟨"ReactionDesk$Reaction", "mustCodes", "()I"⟩, 9), (⟨"ReactionDesk$Reaction", "settle", "()V"⟩, 9), (⟨"ReactionDesk$Reaction", "ends", "()Z"⟩, 9), (⟨"ReactionDeskModel", "isSaid", "(II)Z"⟩, 29), (⟨"ReactionDeskModel", "trapsHere", "()I"⟩, 29), (⟨"ReactionDeskModel", "fails", "(ZZ)Z"⟩, 29)]
theorem lw_r3 : ∀ q ∈ lw_privs_3, lw_okq q := List.forall_mem_cons.mpr ⟨lw_p32, List.forall_mem_cons.mpr ⟨lw_p33, List.forall_mem_cons.mpr ⟨lw_p34, List.forall_mem_cons.mpr ⟨lw_p35, List.forall_mem_cons.mpr ⟨lw_p36, List.forall_mem_cons.mpr ⟨lw_p37, List.forall_mem_cons.mpr ⟨lw_p38, List.forall_mem_cons.mpr ⟨lw_p39, List.forall_mem_cons.mpr ⟨lw_p40, List.forall_mem_cons.mpr ⟨lw_p41, List.forall_mem_cons.mpr ⟨lw_p42, List.forall_mem_cons.mpr ⟨lw_p43, List.forall_mem_cons.mpr ⟨lw_p44, List.forall_mem_cons.mpr ⟨lw_p45, List.forall_mem_cons.mpr ⟨lw_p46, List.forall_mem_cons.mpr ⟨lw_p47, fun _ h => absurd h List.not_mem_nil⟩⟩⟩⟩⟩⟩⟩⟩⟩⟩⟩⟩⟩⟩⟩⟩
theorem lw_p48 : lw_okq (⟨"ReactionDeskModel", "rest", "(I)V"⟩, 29) := ⟨⟨by decide +kernel, by decide +kernel⟩, List.mem_of_getElem? (i := 581) (by decide +kernel), List.mem_of_getElem? (i := 703) (by decide +kernel), List.mem_of_getElem? (i := 704) (by decide +kernel)⟩
theorem lw_p49 : lw_okq (⟨"ReactionDeskModel", "codes", "(I)I"⟩, 29) := ⟨⟨by decide +kernel, by decide +kernel⟩, List.mem_of_getElem? (i := 581) (by decide +kernel), List.mem_of_getElem? (i := 707) (by decide +kernel), List.mem_of_getElem? (i := 708) (by decide +kernel)⟩
theorem lw_p50 : lw_okq (⟨"ReactionDeskModel", "react", "(I)I"⟩, 29) := ⟨⟨by decide +kernel, by decide +kernel⟩, List.mem_of_getElem? (i := 581) (by decide +kernel), List.mem_of_getElem? (i := 725) (by decide +kernel), List.mem_of_getElem? (i := 726) (by decide +kernel)⟩
theorem lw_p51 : lw_okq (⟨"ReactionDeskModel", "run", "(IZZ)I"⟩, 29) := ⟨⟨by decide +kernel, by decide +kernel⟩, List.mem_of_getElem? (i := 581) (by decide +kernel), List.mem_of_getElem? (i := 729) (by decide +kernel), List.mem_of_getElem? (i := 730) (by decide +kernel)⟩
theorem lw_p52 : lw_okq (⟨"ReactionDeskModel", "simple", "(IZ)I"⟩, 29) := ⟨⟨by decide +kernel, by decide +kernel⟩, List.mem_of_getElem? (i := 581) (by decide +kernel), List.mem_of_getElem? (i := 733) (by decide +kernel), List.mem_of_getElem? (i := 734) (by decide +kernel)⟩
theorem lw_p53 : lw_okq (⟨"ReactionDeskModel", "present", "(IZZ)I"⟩, 29) := ⟨⟨by decide +kernel, by decide +kernel⟩, List.mem_of_getElem? (i := 581) (by decide +kernel), List.mem_of_getElem? (i := 740) (by decide +kernel), List.mem_of_getElem? (i := 741) (by decide +kernel)⟩
theorem lw_p54 : lw_okq (⟨"ReactionDeskModel", "has", "(I)Z"⟩, 29) := ⟨⟨by decide +kernel, by decide +kernel⟩, List.mem_of_getElem? (i := 581) (by decide +kernel), List.mem_of_getElem? (i := 744) (by decide +kernel), List.mem_of_getElem? (i := 745) (by decide +kernel)⟩
theorem lw_p55 : lw_okq (⟨"ReactionDeskModel", "test", "(I)I"⟩, 29) := ⟨⟨by decide +kernel, by decide +kernel⟩, List.mem_of_getElem? (i := 581) (by decide +kernel), List.mem_of_getElem? (i := 748) (by decide +kernel), List.mem_of_getElem? (i := 749) (by decide +kernel)⟩
theorem lw_p56 : lw_okq (⟨"ReactionDeskModel", "suspend", "(IZZ)I"⟩, 29) := ⟨⟨by decide +kernel, by decide +kernel⟩, List.mem_of_getElem? (i := 581) (by decide +kernel), List.mem_of_getElem? (i := 755) (by decide +kernel), List.mem_of_getElem? (i := 756) (by decide +kernel)⟩
theorem lw_p57 : lw_okq (⟨"ReactionDeskModel", "behind", "(IIIZZ)I"⟩, 29) := ⟨⟨by decide +kernel, by decide +kernel⟩, List.mem_of_getElem? (i := 581) (by decide +kernel), List.mem_of_getElem? (i := 759) (by decide +kernel), List.mem_of_getElem? (i := 760) (by decide +kernel)⟩
theorem lw_p58 : lw_okq (⟨"ReactionDeskModel", "parallel", "(IZZ)I"⟩, 29) := ⟨⟨by decide +kernel, by decide +kernel⟩, List.mem_of_getElem? (i := 581) (by decide +kernel), List.mem_of_getElem? (i := 766) (by decide +kernel), List.mem_of_getElem? (i := 767) (by decide +kernel)⟩
theorem lw_p59 : lw_okq (⟨"ReactionDeskModel", "side", "(IZZ)I"⟩, 29) := ⟨⟨by decide +kernel, by decide +kernel⟩, List.mem_of_getElem? (i := 581) (by decide +kernel), List.mem_of_getElem? (i := 770) (by decide +kernel), List.mem_of_getElem? (i := 771) (by decide +kernel)⟩
theorem lw_p60 : lw_okq (⟨"ReactionDeskModel", "trap", "(IZZ)I"⟩, 29) := ⟨⟨by decide +kernel, by decide +kernel⟩, List.mem_of_getElem? (i := 581) (by decide +kernel), List.mem_of_getElem? (i := 774) (by decide +kernel), List.mem_of_getElem? (i := 775) (by decide +kernel)⟩
theorem lw_p61 : lw_okq (⟨"ReactionDeskModel", "local", "(IZZ)I"⟩, 29) := ⟨⟨by decide +kernel, by decide +kernel⟩, List.mem_of_getElem? (i := 581) (by decide +kernel), List.mem_of_getElem? (i := 778) (by decide +kernel), List.mem_of_getElem? (i := 779) (by decide +kernel)⟩
theorem lw_p62 : lw_okq (⟨"ReactionDeskModel", "learns", "()Z"⟩, 29) := ⟨⟨by decide +kernel, by decide +kernel⟩, List.mem_of_getElem? (i := 581) (by decide +kernel), List.mem_of_getElem? (i := 782) (by decide +kernel), List.mem_of_getElem? (i := 783) (by decide +kernel)⟩
def lw_privs_4 : List (MethodName × Nat) := [(⟨"ReactionDeskModel", "rest", "(I)V"⟩, 29), (⟨"ReactionDeskModel", "codes", "(I)I"⟩, 29), (⟨"ReactionDeskModel", "react", "(I)I"⟩, 29), (⟨"ReactionDeskModel", "run", "(IZZ)I"⟩, 29), (⟨"ReactionDeskModel", "simple", "(IZ)I"⟩, 29), (⟨"ReactionDeskModel", "present", "(IZZ)I"⟩, 29), (⟨"ReactionDeskModel", "has", "(I)Z"⟩, 29), (⟨"ReactionDeskModel", "test", "(I)I"⟩, 29), (⟨"ReactionDeskModel", "suspend", "(IZZ)I"⟩, 29), (⟨"ReactionDeskModel", "behind", "(IIIZZ)I"⟩, 29), (⟨"ReactionDeskModel", "parallel", "(IZZ)I"⟩, 29), (⟨"ReactionDeskModel", "side", "(IZZ)I"⟩, 29), (⟨"ReactionDeskModel", "trap", "(IZZ)I"⟩, 29), (⟨"ReactionDeskModel", "local", "(IZZ)I"⟩, 29), (⟨"ReactionDeskModel", "learns", "()Z"⟩, 29)]
theorem lw_r4 : ∀ q ∈ lw_privs_4, lw_okq q := List.forall_mem_cons.mpr ⟨lw_p48, List.forall_mem_cons.mpr ⟨lw_p49, List.forall_mem_cons.mpr ⟨lw_p50, List.forall_mem_cons.mpr ⟨lw_p51, List.forall_mem_cons.mpr ⟨lw_p52, List.forall_mem_cons.mpr ⟨lw_p53, List.forall_mem_cons.mpr ⟨lw_p54, List.forall_mem_cons.mpr ⟨lw_p55, List.forall_mem_cons.mpr ⟨lw_p56, List.forall_mem_cons.mpr ⟨lw_p57, List.forall_mem_cons.mpr ⟨lw_p58, List.forall_mem_cons.mpr ⟨lw_p59, List.forall_mem_cons.mpr ⟨lw_p60, List.forall_mem_cons.mpr ⟨lw_p61, List.forall_mem_cons.mpr ⟨lw_p62, fun _ h => absurd h List.not_mem_nil⟩⟩⟩⟩⟩⟩⟩⟩⟩⟩⟩⟩⟩⟩⟩
def lw_privs : List (MethodName × Nat) := lw_privs_1 ++ (lw_privs_2 ++ (lw_privs_3 ++ (lw_privs_4)))
def lw_tbl : List Cond := k2_sels lw_privs ++ tables_1
theorem lw_privs_ok : ∀ q ∈ lw_privs, lw_okq q := by
  show ∀ q ∈ lw_privs_1 ++ (lw_privs_2 ++ (lw_privs_3 ++ (lw_privs_4))), lw_okq q
  exact List.forall_mem_append.mpr ⟨lw_r1, List.forall_mem_append.mpr ⟨lw_r2, List.forall_mem_append.mpr ⟨lw_r3, lw_r4⟩⟩⟩

/-! ===== BEGIN words of one list among another's, by their places ===== -/
theorem goodIn_r {big : List Cond} (ws : List Cond) (ps : List Nat) (hp : ws = ps.filterMap (fun i => big[i]?)) (h : ws.all goodWord = true) : GoodIn big ws := by
  intro w hw
  have h1 := List.all_eq_true.mp h w hw
  rw [hp] at hw
  obtain ⟨i, -, hi⟩ := List.mem_filterMap.mp hw
  have hm : w ∈ big := by first | exact List.mem_of_getElem? hi | exact List.getElem?_mem hi
  exact ⟨hm, good_of_word h1⟩
theorem goodIn_app {big a b : List Cond} (ha : GoodIn big a) (hb : GoodIn big b) : GoodIn big (a ++ b) := fun w h => (List.mem_append.mp h).elim (ha w) (hb w)
theorem goodIn_ca {big a b : List Cond} {c : Cond} (ha : GoodIn big (c :: a)) (hb : GoodIn big b) : GoodIn big (c :: (a ++ b)) := fun w h => (List.mem_cons.mp h).elim (fun e => ha w (List.mem_cons.mpr (Or.inl e))) (fun h => (List.mem_append.mp h).elim (fun h => ha w (List.mem_cons.mpr (Or.inr h))) (hb w))
theorem goodIn_sub {big ws : List Cond} (hm : ∀ w ∈ ws, w ∈ big) (h : ws.all goodWord = true) : GoodIn big ws := fun w hw => ⟨hm w hw, good_of_word (List.all_eq_true.mp h w hw)⟩
/-! ===== END ===== -/

/-! ===== BEGIN exceptions that leave a method, and their catching by the caller (launches without stack traces) ===== -/
section VXA
/-! The laws vx_back, vx_callV, vx_callS, vx_callSW, vx_throw0, vx_throwS follow proofs of the library, with one case more: JvmDerived/Free/Laws.lean (Back.of_free), Shelf42/LK1.lean (callV, callS), Shelf/KitTraced.lean (throwNew0V, throwNewS). -/
/-- where a method has thrown q: the class by its name, the cell, what was written, the world -/
def vx_T (XC : String → State → State → Prop) (st : State) (q : Addr) (t : State) (mc ms : Nat) (free : Addr → Prop) : Prop :=
  ∃ (E : String) (ce : Cell) (L : List Loc), XC E st t ∧ t.heap[q]? = some ce ∧ ce.vm = .none ∧ st.vm.findClass E = some ce.cls ∧ st.WarmedH t.vm ∧ st.sameButNew ({ t with vm := st.vm } : State) L mc ms ∧ ∀ z ∈ L, free z.base
def vx_Q (Qc : Array Value → State → Outcome → State → Prop) (XC : String → State → State → Prop) (mc ms : Nat) (free : Addr → Prop) : Array Value → State → Outcome → State → Prop := fun a st o t =>
  (Qc a st o t ∧ ∃ L, FrameEnd st o t L mc ms ∧ ∀ q ∈ L, free q.base) ∨ ∃ q, o = .threw q ∧ vx_T XC st q t mc ms free
/-- a callee that returns or throws -/
def vx_Met (l : Launch) (y : MethodName) (ws : List Cond) (rm : Room) (Pc : Array Value → State → Prop) (Qc : Array Value → State → Outcome → State → Prop) (XC : String → State → State → Prop) (mc ms : Nat) (free : Addr → Prop) : Prop :=
  MetFree l y (headSpec ws rm) Pc (fun _ _ _ _ _ => True) (vx_Q Qc XC mc ms free)
def vx_Post (XC : String → State → State → Prop) (mc ms : Nat) (free : Addr → Prop) : Pt → Array Value → Addr → Pt → Prop := fun A a q B =>
  ∃ (g : JFrame) (mk : MethodId) (t : State) (L : List Loc) (E : String) (ce : Cell), B.U.heap = t.heap ∧ B.U.vm = t.vm ∧ XC E (A.U.calling g mk a) t ∧ t.heap[q]? = some ce ∧ ce.vm = .none ∧ A.U.vm.findClass E = some ce.cls ∧ B.locs = A.locs ++ L ∧ (∀ z ∈ L, free z.base) ∧ B.cells = A.cells + mc ∧ B.slots = A.slots + ms
def vx_Back (l : Launch) (R : Room) (p : Program) (e : Env) (below : List Frame) (s : State) (sargs : Array Value) (y : MethodName) (len W9 : Nat)
    (Pre : Pt → Array Value → Prop) (Post : Pt → Array Value → Option Value → Pt → Prop) (PostX : Pt → Array Value → Addr → Pt → Prop) : Prop :=
  ∀ (m : MethodId) (meth : Method) (c : Code) (A : Pt) (g : JFrame) (ig : Instr) (mk : MethodId) (a : Array Value),
    Stand p l e R s m sargs below meth c A.U A.locs A.cells A.slots → g.method = m → g.locals.size = c.maxLocals → decode c.code g.pc = .ok (ig, len) →
    2 * g.monitorRoom + (g.stack.map fun v => v.category).sum ≤ W9 → A.U.methodNamed? y = some mk → Pre A a →
    (∃ (v : Option Value) (B : Pt), Stand p l e R s m sargs below meth c B.U B.locs B.cells B.slots ∧ Post A a v B ∧
      Steps p.tables e below (doInvoke e (A.U.setTop g) [] mk a).1 (B.U.setTop { g with pc := g.pc + len, stack := v.toList ++ g.stack })) ∨
    (∃ (q : Addr) (B : Pt), Stand p l e R s m sargs below meth c B.U B.locs B.cells B.slots ∧ PostX A a q B ∧
      Steps p.tables e below (doInvoke e (A.U.setTop g) [] mk a).1 ((B.U.setTop g).pushFrame (.throwing q)))
section Payer
variable {l : Launch} {R : Room} {p : Program} {e : Env} {below : List Frame} {s : State} {sargs : Array Value} {y : MethodName} {len W9 : Nat}
theorem vx_back {ws : List Cond} {rm : Room} {Pc : Array Value → State → Prop} {Qc : Array Value → State → Outcome → State → Prop} {XC : String → State → State → Prop} {mc ms : Nat} {free : Addr → Prop} {bytes : ByteArray} {maxL : Nat} {ret : Option FieldType}
    (hM : vx_Met l y ws rm Pc Qc XC mc ms free) (hblind : FrameBlind Pc) (hrc : rm.cells = mc) (hrs : rm.slots = ms)
    (hframes : rm.frames + 1 ≤ R.frames) (hlocals : W9 + (maxL + 11) + rm.locals ≤ R.locals)
    (hws : ∀ w ∈ ws, ∀ a' U, s.WarmedH U.vm → w.before a' U = true) (hcode : Cond.code y bytes maxL ret ∈ ws) (hinit : ∀ a' U, s.WarmedH U.vm → (Cond.initialized y.cls).before a' U = true) :
    vx_Back l R p e below s sargs y len W9 (PreOf R mc ms Pc) (PostOf Qc mc ms free) (vx_Post XC mc ms free) := by
  intro m meth c A g ig mk a X hg hsize hdg hW hn hp
  have h1 : (headSpec ws rm).pre.before a A.U = true := atoms_intro fun w hw => hws w hw _ _ X.warmed
  have h2 : (Cond.code y bytes maxL ret).before a A.U = true := hws _ hcode _ _ X.warmed
  have h3 : (Cond.initialized y.cls).before a A.U = true := hinit _ _ X.warmed
  have h4 : A.cells + (headSpec ws rm).room.cells ≤ R.cells := by rw [show (headSpec ws rm).room.cells = mc from hrc]; exact hp.1
  have h5 : A.slots + (headSpec ws rm).room.slots ≤ R.slots := by rw [show (headSpec ws rm).room.slots = ms from hrs]; exact hp.2.1
  have hPc : Pc a (A.U.calling g mk a) := hblind _ _ _ _ hp.2.2
  obtain ⟨U, Ls, c0, s0⟩ := A
  dsimp only [Pt.U, Pt.locs, Pt.cells, Pt.slots] at h1 h2 h3 h4 h5 X hn hPc ⊢
  obtain ⟨methY, cY, hmY, hcY, -, hlY, -, -, -, -⟩ := Cond.code_spec hn h2
  obtain ⟨kY, hkY, -⟩ := className_of_methodNamed hn
  have hinitY : kY.init = .initialized := Cond.initialized_spec (findClass_of_methodNamed hn) hkY h3
  have h : At U g.method c below := by rw [hg]; exact X.here
  have hlocals9 : W9 + (maxL + 11) + (headSpec ws rm).room.locals ≤ R.locals := hlocals
  have happ : (headSpec ws rm).appliesLoose y e.platform (U.calling g mk a) = true :=
    Spec.appliesLoose_calling (g := g) h hdg hn hkY hinitY
      (X.room_calling (g := g) (R' := (headSpec ws rm).room) hsize hmY hcY hframes (by rw [hlY]; omega) h4 h5) h1
  obtain ⟨mid, hmid⟩ := h.above
  have hfr : (U.setTop g).frames = (.java g :: mid) ++ below := by rw [State.frames_setTop' g h.top, hmid]; rfl
  obtain ⟨o, s₂, hsteps, -, hend, hq⟩ := Steps.callFree hM p X.admits X.cas X.clock (acts := []) hfr happ hPc trivial
  have hq' : vx_Q Qc XC mc ms free a (U.calling g mk a) o s₂ := hq
  rw [State.frames_setTop' g h.top] at hend
  obtain ⟨g₀, hg0⟩ := Option.isSome_iff_exists.mp h.top
  obtain ⟨r, hr⟩ := State.topJava?_eq_some.mp hg0
  have hr' : (({ U with heap := s₂.heap, slotsUsed := s₂.slotsUsed } : State).setVm s₂.vm).frames = .java g₀ :: r := hr
  rcases hq' with ⟨hqc, L, hfe, hL⟩ | ⟨q, rfl, E, ce, L, hx, hce, hcv, hcl, hW₂, hsm, hL⟩
  · obtain ⟨⟨v, rfl⟩, hW₂, e2, q2, q3, q4, q5, q6⟩ := id hfe
    have e3 : s₂ = ({ (U.calling g mk a).setFrames s₂.frames with heap := s₂.heap, slotsUsed := s₂.slotsUsed } : State).setVm s₂.vm := by
      have : s₂ = ({ s₂ with vm := (U.calling g mk a).vm } : State).setVm s₂.vm := rfl
      rw [e2] at this
      exact this
    obtain ⟨c₂, i₂, len₂, hc₂, hd₂, hf₂⟩ := hend
    have hW' : U.WarmedH s₂.vm := hW₂
    have hcc : c₂ = c := by
      have h1 : s₂.code? g.method = U.code? g.method := by
        rw [State.code?_eq, State.code?_eq, hW'.alike.method?]
      exact Option.some.inj (hc₂.symm.trans (h1.trans h.code))
    subst hcc
    have hlen : len₂ = len := by rw [hdg] at hd₂; cases hd₂; rfl
    subst hlen
    have hs₂ : s₂ = (({ U with heap := s₂.heap, slotsUsed := s₂.slotsUsed } : State).setVm s₂.vm).setTop { g with pc := g.pc + len₂, stack := v.toList ++ g.stack } := by
      refine e3.trans ?_
      rw [hf₂, State.calling_eq h.top, State.setFrames_setFrames, State.setTop_of_frames _ hr', hr]
      rfl
    have hsame : U.sameButNew ({ U with heap := s₂.heap, slotsUsed := s₂.slotsUsed } : State) L mc ms := by
      refine ⟨?_, q2, q3, q4, q5, q6⟩
      obtain ⟨t, ht, -⟩ := State.frames_cons hr
      show ({ U with heap := s₂.heap, slotsUsed := s₂.slotsUsed } : State) = { U.setFrames U.frames with heap := s₂.heap, slotsUsed := s₂.slotsUsed }
      rw [State.setFrames_self ht]
    subst hg
    refine Or.inl ⟨v, ⟨(({ U with heap := s₂.heap, slotsUsed := s₂.slotsUsed } : State).setVm s₂.vm), Ls ++ L, c0 + mc, s0 + ms⟩,
      ⟨X.admits, X.cas, X.clock, X.frames, X.room, X.hears, X.method, X.code, (X.here.setHeapUsed s₂.heap s₂.slotsUsed).setVm hW'.alike, X.tail, State.WarmedH.trans X.warmed hW', X.limits, X.bytes, X.same.trans (hsame.setVm s.vm)⟩,
      ⟨g, mk, s₂, L, rfl, rfl, hqc, rfl, hL, rfl, rfl⟩, ?_⟩
    show Steps p.tables e below _ ((({ U with heap := s₂.heap, slotsUsed := s₂.slotsUsed } : State).setVm s₂.vm).setTop { g with pc := g.pc + len₂, stack := v.toList ++ g.stack })
    rw [← hs₂]
    exact hsteps
  · obtain ⟨e2, q2, q3, q4, q5, q6⟩ := id hsm
    have e3 : s₂ = ({ (U.calling g mk a).setFrames s₂.frames with heap := s₂.heap, slotsUsed := s₂.slotsUsed } : State).setVm s₂.vm := by
      have : s₂ = ({ s₂ with vm := (U.calling g mk a).vm } : State).setVm s₂.vm := rfl
      rw [e2] at this
      exact this
    have hf₂ : s₂.frames = .throwing q :: .java g :: U.frames.tail := hend
    have hW' : U.WarmedH s₂.vm := hW₂
    have hs₂ : s₂ = ((({ U with heap := s₂.heap, slotsUsed := s₂.slotsUsed } : State).setVm s₂.vm).setTop g).pushFrame (.throwing q) := by
      refine e3.trans ?_
      rw [hf₂, State.calling_eq h.top, State.setFrames_setFrames, State.pushFrame, State.frames_setTop _ hr', State.setTop_of_frames _ hr', State.setFrames_setFrames, hr]
      rfl
    have hsame : U.sameButNew ({ U with heap := s₂.heap, slotsUsed := s₂.slotsUsed } : State) L mc ms := by
      refine ⟨?_, q2, q3, q4, q5, q6⟩
      obtain ⟨t, ht, -⟩ := State.frames_cons hr
      show ({ U with heap := s₂.heap, slotsUsed := s₂.slotsUsed } : State) = { U.setFrames U.frames with heap := s₂.heap, slotsUsed := s₂.slotsUsed }
      rw [State.setFrames_self ht]
    subst hg
    refine Or.inr ⟨q, ⟨(({ U with heap := s₂.heap, slotsUsed := s₂.slotsUsed } : State).setVm s₂.vm), Ls ++ L, c0 + mc, s0 + ms⟩,
      ⟨X.admits, X.cas, X.clock, X.frames, X.room, X.hears, X.method, X.code, (X.here.setHeapUsed s₂.heap s₂.slotsUsed).setVm hW'.alike, X.tail, State.WarmedH.trans X.warmed hW', X.limits, X.bytes, X.same.trans (hsame.setVm s.vm)⟩,
      ⟨g, mk, s₂, L, E, ce, rfl, rfl, hx, hce, hcv, hcl, rfl, hL, rfl, rfl⟩, ?_⟩
    show Steps p.tables e below _ (((({ U with heap := s₂.heap, slotsUsed := s₂.slotsUsed } : State).setVm s₂.vm).setTop g).pushFrame (.throwing q))
    rw [← hs₂]
    exact hsteps
end Payer
section Calls
variable {p : Program} {l : Launch} {e : Env} {R : Room} {s : State} {m : MethodId} {args : Array Value} {below : List Frame} {meth : Method} {c : Code} {T : State} {locs : List Loc} {cells slots : Nat}
theorem vx_callV (X : Stand p l e R s m args below meth c T locs cells slots) (hexec : p.tables.exec = Jvm.exec) {own C : String} {index : Nat} {y : MethodName} {bytes : ByteArray} {maxL : Nat} {ret : Option FieldType}
    (hown : s.vm.findClass own = some m.cls) (hlink : (Cond.methodLink own index y).before args s = true) (hinst : (Cond.instanceMethod y).before args s = true) (hsel : (Cond.selects C y y).before args s = true)
    (hcode : (Cond.code y bytes maxL ret).before args s = true) (hy : y.cls ≠ "java/lang/invoke/MethodHandle" ∧ y.cls ≠ "java/lang/invoke/VarHandle")
    {W9 : Nat} {Pre : Pt → Array Value → Prop} {Post : Pt → Array Value → Option Value → Pt → Prop} {PostX : Pt → Array Value → Addr → Pt → Prop} (hK : vx_Back l R p e below s args y 3 W9 Pre Post PostX)
    {b : Addr} {cellB : Cell} (hcell : T.heap[b]? = some cellB) (hobj : cellB.vm.isStatics = false) (hcls : s.vm.findClass C = some cellB.cls)
    {g : JFrame} (hg : g.method = m) (hsize : g.locals.size = c.maxLocals) {argsL rest : List Value} (hlen : ∀ sig, parseMethodDescriptor y.desc = some sig → argsL.length = sig.parameters.length)
    (hstack : g.stack = argsL.reverse ++ .ref b :: rest) (hW : 2 * g.monitorRoom + (rest.map fun v => v.category).sum ≤ W9) (hdg : decode c.code g.pc = .ok (.invokevirtual index, 3))
    (hpre : ∀ vm₁, s.WarmedH vm₁ → Pre ⟨T.setVm vm₁, locs, cells, slots⟩ (Value.ref b :: argsL).toArray) :
    (∃ (v : Option Value) (vm₁ : Vm) (B : Pt), s.WarmedH vm₁ ∧ Stand p l e R s m args below meth c B.U B.locs B.cells B.slots ∧ Post ⟨T.setVm vm₁, locs, cells, slots⟩ (Value.ref b :: argsL).toArray v B ∧
      ∀ target, Steps p.tables e below (B.U.setTop { g with pc := g.pc + 3, stack := v.toList ++ rest }) target → Steps p.tables e below (T.setTop g) target) ∨
    (∃ (q : Addr) (vm₁ : Vm) (B : Pt), s.WarmedH vm₁ ∧ Stand p l e R s m args below meth c B.U B.locs B.cells B.slots ∧ PostX ⟨T.setVm vm₁, locs, cells, slots⟩ (Value.ref b :: argsL).toArray q B ∧
      Steps p.tables e below (T.setTop g) ((B.U.setTop { g with stack := rest }).pushFrame (.throwing q))) := by
  obtain ⟨mk, methM, hnamed, hmethM, hstM, habM⟩ := Cond.instanceMethod_spec hinst
  obtain ⟨methM', cM, hmethM', -, -, -, -, -, -, hsigM⟩ := Cond.code_spec hnamed hcode
  cases hmethM.symm.trans hmethM'
  obtain ⟨c2, r2, m2, q1, q2, q3, q4, kP, hkP, hkPi⟩ := Cond.selects_spec hsel
  cases hcls.symm.trans q1
  cases (State.methodFound?_of_named hnamed hy).symm.trans q2
  cases hnamed.symm.trans q3
  have hselP : selectMethod e.platform s.vm cellB.cls mk = .method mk := by rw [Launch.admits_selectMethod X.admits]; exact q4
  obtain ⟨vm₁, X₁, hstep₁⟩ := X.invokevirtual hexec hown hlink hnamed hmethM hstM hkP hkPi hy (a := b) (cell := cellB) hcell
    (fun z h => by rw [h] at hobj; cases hobj) hselP hmethM habM hkP hkPi (g := g) hg (argsL := argsL) (rest := rest) (hlen _ hsigM) hstack hdg
  rcases hK m meth c ⟨T.setVm vm₁, locs, cells, slots⟩ { g with stack := rest } (.invokevirtual index) mk (Value.ref b :: argsL).toArray X₁ hg hsize hdg hW (X₁.named hnamed) (hpre vm₁ X₁.warmed) with ⟨v, B, X', hpost, hsteps⟩ | ⟨q, B, X', hpost, hsteps⟩
  · exact Or.inl ⟨v, vm₁, B, X₁.warmed, X', hpost, fun target h => hstep₁ _ fun acts => by rw [doInvoke_state]; exact hsteps.trans h⟩
  · exact Or.inr ⟨q, vm₁, B, X₁.warmed, X', hpost, hstep₁ _ fun acts => by rw [doInvoke_state]; exact hsteps⟩
theorem vx_callS (X : Stand p l e R s m args below meth c T locs cells slots) (hexec : p.tables.exec = Jvm.exec) {own : String} {index : Nat} {y : MethodName} {bytes : ByteArray} {maxL : Nat} {ret : Option FieldType}
    (hown : s.vm.findClass own = some m.cls) (hlink : (Cond.methodLink own index y).before args s = true) (hstat : (Cond.static y).before args s = true) (hinit : (Cond.initialized y.cls).before args s = true)
    (hcode : (Cond.code y bytes maxL ret).before args s = true) (hy : y.cls ≠ "java/lang/invoke/MethodHandle" ∧ y.cls ≠ "java/lang/invoke/VarHandle")
    {W9 : Nat} {Pre : Pt → Array Value → Prop} {Post : Pt → Array Value → Option Value → Pt → Prop} {PostX : Pt → Array Value → Addr → Pt → Prop} (hK : vx_Back l R p e below s args y 3 W9 Pre Post PostX)
    {g : JFrame} (hg : g.method = m) (hsize : g.locals.size = c.maxLocals) {argsL rest : List Value} (hlen : ∀ sig, parseMethodDescriptor y.desc = some sig → argsL.length = sig.parameters.length)
    (hstack : g.stack = argsL.reverse ++ rest) (hW : 2 * g.monitorRoom + (rest.map fun v => v.category).sum ≤ W9) (hdg : decode c.code g.pc = .ok (.invokestatic index, 3))
    (hpre : ∀ vm₁, s.WarmedH vm₁ → Pre ⟨T.setVm vm₁, locs, cells, slots⟩ argsL.toArray) :
    (∃ (v : Option Value) (vm₁ : Vm) (B : Pt), s.WarmedH vm₁ ∧ Stand p l e R s m args below meth c B.U B.locs B.cells B.slots ∧ Post ⟨T.setVm vm₁, locs, cells, slots⟩ argsL.toArray v B ∧
      ∀ target, Steps p.tables e below (B.U.setTop { g with pc := g.pc + 3, stack := v.toList ++ rest }) target → Steps p.tables e below (T.setTop g) target) ∨
    (∃ (q : Addr) (vm₁ : Vm) (B : Pt), s.WarmedH vm₁ ∧ Stand p l e R s m args below meth c B.U B.locs B.cells B.slots ∧ PostX ⟨T.setVm vm₁, locs, cells, slots⟩ argsL.toArray q B ∧
      Steps p.tables e below (T.setTop g) ((B.U.setTop { g with stack := rest }).pushFrame (.throwing q))) := by
  obtain ⟨mk, hnamed⟩ := Cond.code_named hcode
  obtain ⟨methM, cM, hmethM, -, -, -, -, -, -, hsigM⟩ := Cond.code_spec hnamed hcode
  have hstatic : methM.isStatic = true := Cond.static_spec hnamed hmethM hstat
  obtain ⟨kP, hkP, -⟩ := className_of_methodNamed hnamed
  have hinitP : kP.init = .initialized := Cond.initialized_spec (findClass_of_methodNamed hnamed) hkP hinit
  obtain ⟨vm₁, X₁, hstep₁⟩ := X.invokestatic hexec hown hlink hnamed hmethM hstatic hkP hinitP hy (g := g) hg (argsL := argsL) (rest := rest) (hlen _ hsigM) hstack hdg
  rcases hK m meth c ⟨T.setVm vm₁, locs, cells, slots⟩ { g with stack := rest } (.invokestatic index) mk argsL.toArray X₁ hg hsize hdg hW (X₁.named hnamed) (hpre vm₁ X₁.warmed) with ⟨v, B, X', hpost, hsteps⟩ | ⟨q, B, X', hpost, hsteps⟩
  · exact Or.inl ⟨v, vm₁, B, X₁.warmed, X', hpost, fun target h => hstep₁ _ fun acts => by rw [doInvoke_state]; exact hsteps.trans h⟩
  · exact Or.inr ⟨q, vm₁, B, X₁.warmed, X', hpost, hstep₁ _ fun acts => by rw [doInvoke_state]; exact hsteps⟩
end Calls
theorem vx_cls {s : State} {T : State} {vm₁ : Vm} {E : String} {k : ClassId} (hW : s.WarmedH vm₁) (h : (T.setVm vm₁).vm.findClass E = some k) : s.vm.findClass E = some k := by
  have h1 : vm₁.findClass E = some k := h
  rw [hW.alike.findClass] at h1
  exact h1
/-- the method's frame g, with q thrown over it -/
def vx_W (p : Program) (l : Launch) (e : Env) (R : Room) (s : State) (m : MethodId) (args : Array Value) (below : List Frame) (meth : Method) (c : Code) (H : Heap) (locs : List Loc) (cells slots : Nat) (Q : State → Prop) (g : JFrame) (q : Addr) : Prop :=
  ∀ T : State, T.heap = H → Stand p l e R s m args below meth c T locs cells slots → ∃ t, Steps p.tables e below ((T.setTop g).pushFrame (.throwing q)) t ∧ Q t
def vx_Run (p : Program) (l : Launch) (e : Env) (R : Room) (s : State) (m : MethodId) (args : Array Value) (below : List Frame) (meth : Method) (c : Code) (H : Heap) (locs : List Loc) (cells slots mc ms : Nat) (g : JFrame) (rest : List Value) (Qa : State → Outcome → State → Prop) (XC : String → State → State → Prop) (free : Addr → Prop) : Prop :=
  ∀ T : State, T.heap = H → Stand p l e R s m args below meth c T locs cells slots →
    (∃ (v : Option Value) (st₀ t T' : State) (L : List Loc), st₀.heap = H ∧ Stand p l e R s m args below meth c T' (locs ++ L) (cells + mc) (slots + ms) ∧ (∀ q ∈ L, free q.base) ∧ T'.heap = t.heap ∧ T'.vm = t.vm ∧ Qa st₀ (.returned v) t ∧
      Goes p e below T g T' { g with pc := g.pc + 3, stack := v.toList ++ rest }) ∨
    (∃ (q : Addr) (st₀ t T' : State) (L : List Loc) (E : String) (ce : Cell), st₀.heap = H ∧ Stand p l e R s m args below meth c T' (locs ++ L) (cells + mc) (slots + ms) ∧ (∀ z ∈ L, free z.base) ∧ T'.heap = t.heap ∧ T'.vm = t.vm ∧ XC E st₀ t ∧ t.heap[q]? = some ce ∧ ce.vm = .none ∧ s.vm.findClass E = some ce.cls ∧
      Steps p.tables e below (T.setTop g) ((T'.setTop { g with stack := rest }).pushFrame (.throwing q)))
def vx_X {S : Type} (px : S → Prop) (B : String → S → State → Prop) (A : Nat → Prop) : String → State → State → Prop := fun E st t => ∃ u : S, px u ∧ B E u t ∧ va_F A st t
section Runs
variable {p : Program} {l : Launch} {e : Env} {R : Room} {s : State} {m : MethodId} {args : Array Value} {below : List Frame} {meth : Method} {c : Code} {H : Heap} {locs : List Loc} {cells slots : Nat}
variable {y : MethodName} {bytes cc : ByteArray} {maxL nL mc ms n index : Nat} {ret : Option FieldType} {ws : List Cond} {rm : Room} {Pc : Array Value → State → Prop} {Qc : Array Value → State → Outcome → State → Prop} {XC : String → State → State → Prop} {free : Addr → Prop} {Ts : List Cond} {own C : String} {b : Addr} {As rest : List Value} {g : JFrame}
theorem vx_callBack (cb : CallB R s args own index y bytes maxL ret ws rm mc ms n) (hM : vx_Met l y ws rm Pc Qc XC mc ms free) (hbl : FrameBlind Pc) : vx_Back l R p e below s args y 3 8 (PreOf R mc ms Pc) (PostOf Qc mc ms free) (vx_Post XC mc ms free) := by
  obtain ⟨hrc, hrs, hfr, hlo, hws, hcw, -, hini, -⟩ := cb
  exact vx_back (bytes := bytes) (maxL := maxL) (ret := ret) hM hbl hrc hrs hfr hlo hws hcw (fun a' U hW => word_at hW (Or.inl (by first | rfl | simp [Cond.onTables, Cond.keeps, Cond.steady])) hini)
theorem vx_runV (S : CallFix p m c cc nL s args Ts own) (hM : vx_Met l y ws rm Pc Qc XC mc ms free) (cw : CallW R s args own C index y bytes maxL ret ws rm mc ms n) (hp : PreV s H C b Pc As)
    (hg : g.method = m) (hn : As.length = n) (hsize : g.locals.size = nL) (hstack : g.stack = As.reverse ++ .ref b :: rest) (hW : 2 * g.monitorRoom + (rest.map fun v => v.category).sum ≤ 8) (hdg : decode cc g.pc = .ok (.invokevirtual index, 3)) (hf : cells + mc ≤ R.cells ∧ slots + ms ≤ R.slots) :
    vx_Run p l e R s m args below meth c H locs cells slots mc ms g rest (Qc (Value.ref b :: As).toArray) XC free := by
  have hK : vx_Back l R p e below s args y 3 8 (PreOf R mc ms Pc) (PostOf Qc mc ms free) (vx_Post XC mc ms free) := vx_callBack cw.1 hM hp.1
  obtain ⟨⟨-, -, -, -, -, -, hcode, -, hy, hlen, hl⟩, hin, hse⟩ := cw
  obtain ⟨hx, hb, hml, ho, -⟩ := S
  obtain ⟨-, ⟨cellB, hcB, hoB, hclB⟩, hPc⟩ := hp
  intro T hT X
  rcases vx_callV X hx (C := C) (bytes := bytes) (maxL := maxL) (ret := ret) ho hl hin hse hcode hy hK (by rw [hT]; exact hcB) hoB hclB hg (hsize.trans hml.symm) (argsL := As) (rest := rest) (fun sig h => hn.trans (hlen sig h)) hstack hW (by rw [hb]; exact hdg)
    (fun vm₁ hW₁ => ⟨hf.1, hf.2, hPc (T.setVm vm₁) hT hW₁⟩) with ⟨v, vm₁, ⟨U', l2, c2, s2⟩, hW₁, X', ⟨g', mk, t, L, e1, e2, hq, h1, hL, h2, h3⟩, st⟩ | ⟨q, vm₁, ⟨U', l2, c2, s2⟩, hW₁, X', ⟨g', mk, t, L, E, ce, e1, e2, hq, hce, hcv, hcl, h1, hL, h2, h3⟩, st⟩
  · dsimp only [Pt.U, Pt.locs, Pt.cells, Pt.slots] at X' e1 e2 h1 h2 h3 st
    subst h1; subst h2; subst h3
    exact Or.inl ⟨v, (T.setVm vm₁).calling g' mk (Value.ref b :: As).toArray, t, U', L, hT, X', hL, e1, e2, hq, st⟩
  · dsimp only [Pt.U, Pt.locs, Pt.cells, Pt.slots] at X' e1 e2 h1 h2 h3 st hcl
    subst h1; subst h2; subst h3
    exact Or.inr ⟨q, (T.setVm vm₁).calling g' mk (Value.ref b :: As).toArray, t, U', L, E, ce, hT, X', hL, e1, e2, hq, hce, hcv, vx_cls hW₁ hcl, st⟩
theorem vx_runS (S : CallFix p m c cc nL s args Ts own) (hM : vx_Met l y ws rm Pc Qc XC mc ms free) (cw : CallB R s args own index y bytes maxL ret ws rm mc ms n ∧ (Cond.static y).before args s = true) (hp : PreS s H Pc As)
    (hg : g.method = m) (hn : As.length = n) (hsize : g.locals.size = nL) (hstack : g.stack = As.reverse ++ rest) (hW : 2 * g.monitorRoom + (rest.map fun v => v.category).sum ≤ 8) (hdg : decode cc g.pc = .ok (.invokestatic index, 3)) (hf : cells + mc ≤ R.cells ∧ slots + ms ≤ R.slots) :
    vx_Run p l e R s m args below meth c H locs cells slots mc ms g rest (Qc As.toArray) XC free := by
  have hK : vx_Back l R p e below s args y 3 8 (PreOf R mc ms Pc) (PostOf Qc mc ms free) (vx_Post XC mc ms free) := vx_callBack cw.1 hM hp.1
  obtain ⟨⟨-, -, -, -, -, -, hcode, hini, hy, hlen, hl⟩, hstt⟩ := cw
  obtain ⟨hx, hb, hml, ho, -⟩ := S
  intro T hT X
  rcases vx_callS X hx (bytes := bytes) (maxL := maxL) (ret := ret) ho hl hstt hini hcode hy hK hg (hsize.trans hml.symm) (argsL := As) (rest := rest) (fun sig h => hn.trans (hlen sig h)) hstack hW (by rw [hb]; exact hdg)
    (fun vm₁ hW₁ => ⟨hf.1, hf.2, hp.2 (T.setVm vm₁) hT hW₁⟩) with ⟨v, vm₁, ⟨U', l2, c2, s2⟩, hW₁, X', ⟨g', mk, t, L, e1, e2, hq, h1, hL, h2, h3⟩, st⟩ | ⟨q, vm₁, ⟨U', l2, c2, s2⟩, hW₁, X', ⟨g', mk, t, L, E, ce, e1, e2, hq, hce, hcv, hcl, h1, hL, h2, h3⟩, st⟩
  · dsimp only [Pt.U, Pt.locs, Pt.cells, Pt.slots] at X' e1 e2 h1 h2 h3 st
    subst h1; subst h2; subst h3
    exact Or.inl ⟨v, (T.setVm vm₁).calling g' mk As.toArray, t, U', L, hT, X', hL, e1, e2, hq, st⟩
  · dsimp only [Pt.U, Pt.locs, Pt.cells, Pt.slots] at X' e1 e2 h1 h2 h3 st hcl
    subst h1; subst h2; subst h3
    exact Or.inr ⟨q, (T.setVm vm₁).calling g' mk As.toArray, t, U', L, E, ce, hT, X', hL, e1, e2, hq, hce, hcv, vx_cls hW₁ hcl, st⟩
end Runs
section Rows
variable {p : Program} {l : Launch} {e : Env} {R : Room} {s : State} {m : MethodId} {args : Array Value} {below : List Frame} {meth : Method} {c : Code} {H : Heap} {locs : List Loc} {cells slots : Nat} {Q : State → Prop}
variable {mc ms : Nat} {free : Addr → Prop} {A0 A1 : Nat → Prop} {H0 : Heap} {a : Array Value} {pc : Nat} {ls : Array Slot} {st0 rest : List Value}
theorem vx_keep {st₀ t T' : State} {L : List Loc} (h0 : st₀.heap = H) (e1 : T'.heap = t.heap) (hS : va_S A0 H0 H locs) (hA : ∀ q, q < H.size → A1 q → A0 q) (hf : ∀ q, free q → A0 q) (hL : ∀ q ∈ L, free q.base) (hF : va_F A1 st₀ t) :
    H.size ≤ T'.heap.size ∧ (∀ q : Nat, q < H.size → ¬ A1 q → T'.heap[q]? = H[q]?) ∧ va_S A0 H0 T'.heap (locs ++ L) := by
  obtain ⟨hz, hk⟩ := hF
  rw [h0] at hz hk
  exact ⟨by rw [e1]; exact hz, fun q h1 h2 => by rw [e1]; exact hk q h1 h2,
    ⟨Nat.le_trans hS.1 (by rw [e1]; exact hz), fun q h1 h2 => by rw [e1, hk q (Nat.lt_of_lt_of_le h1 hS.1) (fun z => h2 (hA q (Nat.lt_of_lt_of_le h1 hS.1) z))]; exact hS.2.1 q h1 h2, fun q hq => by
      rcases List.mem_append.mp hq with h | h
      · exact hS.2.2 q h
      · exact hf _ (hL q h)⟩⟩
theorem vx_calli {S SX : Type} {post : Int32 → S → Prop} {px : SX → Prop} {B : S → State → Prop} {BX : String → SX → State → Prop} {AX : Nat → Prop} (hr : vx_Run p l e R s m args below meth c H locs cells slots mc ms (F0 m pc ls st0) rest (va_Qi post B A1 a) (vx_X px BX AX) free) (hS : va_S A0 H0 H locs) (hA : ∀ q, q < H.size → A1 q → A0 q) (hf : ∀ q, free q → A0 q) (hAX : ∀ q, q < H.size → AX q → A0 q)
    (kx : ∀ (E : String) (ce : Cell) (q9 : Addr) (u : SX) (t : State) (H1 : Heap) (locs1 : List Loc), t.heap = H1 → s.vm.Alike t.vm → px u → BX E u t → H.size ≤ H1.size → (∀ q : Nat, q < H.size → ¬ AX q → H1[q]? = H[q]?) → va_S A0 H0 H1 locs1 → H1[q9]? = some ce → ce.vm = .none → s.vm.findClass E = some ce.cls → vx_W p l e R s m args below meth c H1 locs1 (cells + mc) (slots + ms) Q (F0 m pc ls rest) q9)
    (kk : ∀ (r : Int32) (u : S) (t : State) (H1 : Heap) (locs1 : List Loc), t.heap = H1 → s.vm.Alike t.vm → post r u → B u t → H.size ≤ H1.size → (∀ q : Nat, q < H.size → ¬ A1 q → H1[q]? = H[q]?) → va_S A0 H0 H1 locs1 → W p l e R s m args below meth c H1 locs1 (cells + mc) (slots + ms) Q (F0 m (pc + 3) ls (.int r :: rest))) : W p l e R s m args below meth c H locs cells slots Q (F0 m pc ls st0) := by
  intro T hT X
  rcases hr T hT X with ⟨v, st₀, t, T', L, h0, X', hL, e1, e2, ⟨⟨r, u, hv, hp, hb⟩, hF⟩, st⟩ | ⟨q, st₀, t, T', L, E, ce, h0, X', hL, e1, e2, ⟨u, hp, hb, hF⟩, hce, hcv, hcl, st⟩
  · cases hv
    obtain ⟨k1, k2, k3⟩ := vx_keep h0 e1 hS hA hf hL hF
    obtain ⟨t2, a1, b1⟩ := kk r u t T'.heap (locs ++ L) e1.symm (by rw [← e2]; exact X'.warmed.alike) hp hb k1 k2 k3 T' rfl X'
    exact ⟨t2, st t2 a1, b1⟩
  · obtain ⟨k1, k2, k3⟩ := vx_keep h0 e1 hS hAX hf hL hF
    obtain ⟨t2, a1, b1⟩ := kx E ce q u t T'.heap (locs ++ L) e1.symm (by rw [← e2]; exact X'.warmed.alike) hp hb k1 k2 k3 (by rw [e1]; exact hce) hcv hcl T' rfl X'
    exact ⟨t2, st.trans a1, b1⟩
theorem vx_calll {S SX : Type} {post : Int64 → S → Prop} {px : SX → Prop} {B : S → State → Prop} {BX : String → SX → State → Prop} {AX : Nat → Prop} (hr : vx_Run p l e R s m args below meth c H locs cells slots mc ms (F0 m pc ls st0) rest (va_Ql post B A1 a) (vx_X px BX AX) free) (hS : va_S A0 H0 H locs) (hA : ∀ q, q < H.size → A1 q → A0 q) (hf : ∀ q, free q → A0 q) (hAX : ∀ q, q < H.size → AX q → A0 q)
    (kx : ∀ (E : String) (ce : Cell) (q9 : Addr) (u : SX) (t : State) (H1 : Heap) (locs1 : List Loc), t.heap = H1 → s.vm.Alike t.vm → px u → BX E u t → H.size ≤ H1.size → (∀ q : Nat, q < H.size → ¬ AX q → H1[q]? = H[q]?) → va_S A0 H0 H1 locs1 → H1[q9]? = some ce → ce.vm = .none → s.vm.findClass E = some ce.cls → vx_W p l e R s m args below meth c H1 locs1 (cells + mc) (slots + ms) Q (F0 m pc ls rest) q9)
    (kk : ∀ (r : Int64) (u : S) (t : State) (H1 : Heap) (locs1 : List Loc), t.heap = H1 → s.vm.Alike t.vm → post r u → B u t → H.size ≤ H1.size → (∀ q : Nat, q < H.size → ¬ A1 q → H1[q]? = H[q]?) → va_S A0 H0 H1 locs1 → W p l e R s m args below meth c H1 locs1 (cells + mc) (slots + ms) Q (F0 m (pc + 3) ls (.long r :: rest))) : W p l e R s m args below meth c H locs cells slots Q (F0 m pc ls st0) := by
  intro T hT X
  rcases hr T hT X with ⟨v, st₀, t, T', L, h0, X', hL, e1, e2, ⟨⟨r, u, hv, hp, hb⟩, hF⟩, st⟩ | ⟨q, st₀, t, T', L, E, ce, h0, X', hL, e1, e2, ⟨u, hp, hb, hF⟩, hce, hcv, hcl, st⟩
  · cases hv
    obtain ⟨k1, k2, k3⟩ := vx_keep h0 e1 hS hA hf hL hF
    obtain ⟨t2, a1, b1⟩ := kk r u t T'.heap (locs ++ L) e1.symm (by rw [← e2]; exact X'.warmed.alike) hp hb k1 k2 k3 T' rfl X'
    exact ⟨t2, st t2 a1, b1⟩
  · obtain ⟨k1, k2, k3⟩ := vx_keep h0 e1 hS hAX hf hL hF
    obtain ⟨t2, a1, b1⟩ := kx E ce q u t T'.heap (locs ++ L) e1.symm (by rw [← e2]; exact X'.warmed.alike) hp hb k1 k2 k3 (by rw [e1]; exact hce) hcv hcl T' rfl X'
    exact ⟨t2, st.trans a1, b1⟩
theorem vx_callf {S SX : Type} {post : UInt32 → S → Prop} {px : SX → Prop} {B : S → State → Prop} {BX : String → SX → State → Prop} {AX : Nat → Prop} (hr : vx_Run p l e R s m args below meth c H locs cells slots mc ms (F0 m pc ls st0) rest (va_Qf post B A1 a) (vx_X px BX AX) free) (hS : va_S A0 H0 H locs) (hA : ∀ q, q < H.size → A1 q → A0 q) (hf : ∀ q, free q → A0 q) (hAX : ∀ q, q < H.size → AX q → A0 q)
    (kx : ∀ (E : String) (ce : Cell) (q9 : Addr) (u : SX) (t : State) (H1 : Heap) (locs1 : List Loc), t.heap = H1 → s.vm.Alike t.vm → px u → BX E u t → H.size ≤ H1.size → (∀ q : Nat, q < H.size → ¬ AX q → H1[q]? = H[q]?) → va_S A0 H0 H1 locs1 → H1[q9]? = some ce → ce.vm = .none → s.vm.findClass E = some ce.cls → vx_W p l e R s m args below meth c H1 locs1 (cells + mc) (slots + ms) Q (F0 m pc ls rest) q9)
    (kk : ∀ (r : UInt32) (u : S) (t : State) (H1 : Heap) (locs1 : List Loc), t.heap = H1 → s.vm.Alike t.vm → post r u → B u t → H.size ≤ H1.size → (∀ q : Nat, q < H.size → ¬ A1 q → H1[q]? = H[q]?) → va_S A0 H0 H1 locs1 → W p l e R s m args below meth c H1 locs1 (cells + mc) (slots + ms) Q (F0 m (pc + 3) ls (.float r :: rest))) : W p l e R s m args below meth c H locs cells slots Q (F0 m pc ls st0) := by
  intro T hT X
  rcases hr T hT X with ⟨v, st₀, t, T', L, h0, X', hL, e1, e2, ⟨⟨r, u, hv, hp, hb⟩, hF⟩, st⟩ | ⟨q, st₀, t, T', L, E, ce, h0, X', hL, e1, e2, ⟨u, hp, hb, hF⟩, hce, hcv, hcl, st⟩
  · cases hv
    obtain ⟨k1, k2, k3⟩ := vx_keep h0 e1 hS hA hf hL hF
    obtain ⟨t2, a1, b1⟩ := kk r u t T'.heap (locs ++ L) e1.symm (by rw [← e2]; exact X'.warmed.alike) hp hb k1 k2 k3 T' rfl X'
    exact ⟨t2, st t2 a1, b1⟩
  · obtain ⟨k1, k2, k3⟩ := vx_keep h0 e1 hS hAX hf hL hF
    obtain ⟨t2, a1, b1⟩ := kx E ce q u t T'.heap (locs ++ L) e1.symm (by rw [← e2]; exact X'.warmed.alike) hp hb k1 k2 k3 (by rw [e1]; exact hce) hcv hcl T' rfl X'
    exact ⟨t2, st.trans a1, b1⟩
theorem vx_calld {S SX : Type} {post : UInt64 → S → Prop} {px : SX → Prop} {B : S → State → Prop} {BX : String → SX → State → Prop} {AX : Nat → Prop} (hr : vx_Run p l e R s m args below meth c H locs cells slots mc ms (F0 m pc ls st0) rest (va_Qd post B A1 a) (vx_X px BX AX) free) (hS : va_S A0 H0 H locs) (hA : ∀ q, q < H.size → A1 q → A0 q) (hf : ∀ q, free q → A0 q) (hAX : ∀ q, q < H.size → AX q → A0 q)
    (kx : ∀ (E : String) (ce : Cell) (q9 : Addr) (u : SX) (t : State) (H1 : Heap) (locs1 : List Loc), t.heap = H1 → s.vm.Alike t.vm → px u → BX E u t → H.size ≤ H1.size → (∀ q : Nat, q < H.size → ¬ AX q → H1[q]? = H[q]?) → va_S A0 H0 H1 locs1 → H1[q9]? = some ce → ce.vm = .none → s.vm.findClass E = some ce.cls → vx_W p l e R s m args below meth c H1 locs1 (cells + mc) (slots + ms) Q (F0 m pc ls rest) q9)
    (kk : ∀ (r : UInt64) (u : S) (t : State) (H1 : Heap) (locs1 : List Loc), t.heap = H1 → s.vm.Alike t.vm → post r u → B u t → H.size ≤ H1.size → (∀ q : Nat, q < H.size → ¬ A1 q → H1[q]? = H[q]?) → va_S A0 H0 H1 locs1 → W p l e R s m args below meth c H1 locs1 (cells + mc) (slots + ms) Q (F0 m (pc + 3) ls (.double r :: rest))) : W p l e R s m args below meth c H locs cells slots Q (F0 m pc ls st0) := by
  intro T hT X
  rcases hr T hT X with ⟨v, st₀, t, T', L, h0, X', hL, e1, e2, ⟨⟨r, u, hv, hp, hb⟩, hF⟩, st⟩ | ⟨q, st₀, t, T', L, E, ce, h0, X', hL, e1, e2, ⟨u, hp, hb, hF⟩, hce, hcv, hcl, st⟩
  · cases hv
    obtain ⟨k1, k2, k3⟩ := vx_keep h0 e1 hS hA hf hL hF
    obtain ⟨t2, a1, b1⟩ := kk r u t T'.heap (locs ++ L) e1.symm (by rw [← e2]; exact X'.warmed.alike) hp hb k1 k2 k3 T' rfl X'
    exact ⟨t2, st t2 a1, b1⟩
  · obtain ⟨k1, k2, k3⟩ := vx_keep h0 e1 hS hAX hf hL hF
    obtain ⟨t2, a1, b1⟩ := kx E ce q u t T'.heap (locs ++ L) e1.symm (by rw [← e2]; exact X'.warmed.alike) hp hb k1 k2 k3 (by rw [e1]; exact hce) hcv hcl T' rfl X'
    exact ⟨t2, st.trans a1, b1⟩
theorem vx_callv {S SX : Type} {post : S → Prop} {px : SX → Prop} {B : S → State → Prop} {BX : String → SX → State → Prop} {AX : Nat → Prop} (hr : vx_Run p l e R s m args below meth c H locs cells slots mc ms (F0 m pc ls st0) rest (va_Qv post B A1 a) (vx_X px BX AX) free) (hS : va_S A0 H0 H locs) (hA : ∀ q, q < H.size → A1 q → A0 q) (hf : ∀ q, free q → A0 q) (hAX : ∀ q, q < H.size → AX q → A0 q)
    (kx : ∀ (E : String) (ce : Cell) (q9 : Addr) (u : SX) (t : State) (H1 : Heap) (locs1 : List Loc), t.heap = H1 → s.vm.Alike t.vm → px u → BX E u t → H.size ≤ H1.size → (∀ q : Nat, q < H.size → ¬ AX q → H1[q]? = H[q]?) → va_S A0 H0 H1 locs1 → H1[q9]? = some ce → ce.vm = .none → s.vm.findClass E = some ce.cls → vx_W p l e R s m args below meth c H1 locs1 (cells + mc) (slots + ms) Q (F0 m pc ls rest) q9)
    (kk : ∀ (u : S) (t : State) (H1 : Heap) (locs1 : List Loc), t.heap = H1 → s.vm.Alike t.vm → post u → B u t → H.size ≤ H1.size → (∀ q : Nat, q < H.size → ¬ A1 q → H1[q]? = H[q]?) → va_S A0 H0 H1 locs1 → W p l e R s m args below meth c H1 locs1 (cells + mc) (slots + ms) Q (F0 m (pc + 3) ls (rest))) : W p l e R s m args below meth c H locs cells slots Q (F0 m pc ls st0) := by
  intro T hT X
  rcases hr T hT X with ⟨v, st₀, t, T', L, h0, X', hL, e1, e2, ⟨⟨u, hv, hp, hb⟩, hF⟩, st⟩ | ⟨q, st₀, t, T', L, E, ce, h0, X', hL, e1, e2, ⟨u, hp, hb, hF⟩, hce, hcv, hcl, st⟩
  · cases hv
    obtain ⟨k1, k2, k3⟩ := vx_keep h0 e1 hS hA hf hL hF
    obtain ⟨t2, a1, b1⟩ := kk u t T'.heap (locs ++ L) e1.symm (by rw [← e2]; exact X'.warmed.alike) hp hb k1 k2 k3 T' rfl X'
    exact ⟨t2, st t2 a1, b1⟩
  · obtain ⟨k1, k2, k3⟩ := vx_keep h0 e1 hS hAX hf hL hF
    obtain ⟨t2, a1, b1⟩ := kx E ce q u t T'.heap (locs ++ L) e1.symm (by rw [← e2]; exact X'.warmed.alike) hp hb k1 k2 k3 (by rw [e1]; exact hce) hcv hcl T' rfl X'
    exact ⟨t2, st.trans a1, b1⟩
/-- caught by the row x of this method's table; the rows ahead don't take it -/
theorem vx_catch {own name : String} {E : String} {ce : Cell} {q : Addr} (hown : s.vm.findClass own = some m.cls) (pre : List ExceptionTableEntry) (x : ExceptionTableEntry) (suf : List ExceptionTableEntry) (hsplit : c.exceptionTable.toList = pre ++ x :: suf)
    (hpass : ∀ z ∈ pre, covers z pc = false ∨ (z.catchType ≠ 0 ∧ ∃ nm : String, (Cond.classLink own z.catchType nm).before args s = true ∧ va_Nc E nm s)) (hx : covers x pc = true) (h0 : x.catchType ≠ 0)
    (hlink : (Cond.classLink own x.catchType name).before args s = true) (hcast : (Cond.castable E name).before args s = true) (hcell : H[q]? = some ce) (hv : ce.vm = .none) (hcl : s.vm.findClass E = some ce.cls)
    (kk : W p l e R s m args below meth c H locs cells slots Q (F0 m x.handlerPc ls [.ref q])) : vx_W p l e R s m args below meth c H locs cells slots Q (F0 m pc ls rest) q := by
  intro T hT X
  have hpl : e.platform.magicAccessors = ({} : Platform).magicAccessors := by rw [X.admits.platform]
  obtain ⟨c3, c4, hc3, hc4, hasg⟩ := Cond.castable_spec hcast
  cases Option.some.inj (hc3.symm.trans hcl)
  obtain ⟨c5, hc5, hcl5⟩ := Cond.classLink_spec hown hlink e.platform hpl
  cases Option.some.inj (hc4.symm.trans hc5)
  obtain ⟨vm', X', st⟩ := X.thenCaughtThrough q (g := F0 m pc ls rest) rfl (Steps.refl _) (by rw [hT]; exact hcell) (by rw [hv]; rfl) (by obtain ⟨k9, h9, -⟩ := Vm.findClass_spec hcl; exact ⟨k9, h9⟩) pre x suf hsplit
    (fun z hz => by
      rcases hpass z hz with h | ⟨hz0, nm, hl1, hn1⟩
      · exact Or.inl h
      · obtain ⟨c6, hc6, hcl6⟩ := Cond.classLink_spec hown hl1 e.platform hpl
        obtain ⟨a8, b8, h1, h2, h3⟩ := hn1
        cases Option.some.inj (h1.symm.trans hcl)
        cases Option.some.inj (h2.symm.trans hc6)
        exact Or.inr ⟨hz0, _, hcl6, h3⟩) hx (Or.inr ⟨h0, c4, hcl5, hasg⟩)
  obtain ⟨t, a1, b1⟩ := kk (T.setVm vm') hT X'
  exact ⟨t, st.trans a1, b1⟩
end Rows
section Ends
variable {p : Program} {l : Launch} {e : Env} {R : Room} {s : State} {m : MethodId} {args : Array Value} {below : List Frame} {meth : Method} {c : Code} {H : Heap} {locs : List Loc} {cells slots : Nat} {Q : State → Prop}
variable {mc ms : Nat} {free : Addr → Prop} {A0 A1 : Nat → Prop} {H0 : Heap} {a : Array Value} {ls : Array Slot} {st0 rest : List Value}
variable {Qc : Array Value → State → Outcome → State → Prop} {XC : String → State → State → Prop}
/-- what a body that may throw owes at its end -/
def vx_MQ (below : List Frame) (Qc : Array Value → State → Outcome → State → Prop) (XC : String → State → State → Prop) (a : Array Value) (s : State) (mc ms : Nat) (free : Addr → Prop) : State → Prop := fun t =>
  ∃ o, t.status = .running ∧ Ended t below o ∧ vx_Q Qc XC mc ms free a s o t
theorem vx_ret {g : JFrame} {mc ms : Nat} (k : W p l e R s m args below meth c H locs cells slots (MQ below Qc args s mc ms free) g) : W p l e R s m args below meth c H locs cells slots (vx_MQ below Qc XC args s mc ms free) g := by
  intro T hT X
  obtain ⟨t, a1, o, b1, b2, b3, b4⟩ := k T hT X
  exact ⟨t, a1, o, b1, b2, Or.inl ⟨b3, b4⟩⟩
/-- not caught here: it goes on to the caller -/
theorem vx_widen {g : JFrame} {q : Addr} {k n : Nat} (h1 : cells ≤ k) (h2 : slots ≤ n) (kk : vx_W p l e R s m args below meth c H locs k n Q g q) : vx_W p l e R s m args below meth c H locs cells slots Q g q := fun T hT X => kk T hT (stand_widen X h1 h2)
theorem vx_out {pc : Nat} {E : String} {ce : Cell} {q : Addr} {mc ms : Nat} (hout : ∀ x ∈ c.exceptionTable.toList, covers x pc = false) (hlocks : meth.locks = false) (hcell : H[q]? = some ce) (hv : ce.vm = .none) (hcl : s.vm.findClass E = some ce.cls)
    (hx : ∀ t : State, t.heap = H → s.vm.Alike t.vm → XC E s t) (hf : ∀ z ∈ locs, free z.base) (hc : cells ≤ mc) (hs : slots ≤ ms) :
    vx_W p l e R s m args below meth c H locs cells slots (vx_MQ below Qc XC args s mc ms free) (F0 m pc ls rest) q := by
  intro T hT X
  obtain ⟨st1, hrun, hend, hW, hsm⟩ := X.leaveThrown q (g := F0 m pc ls rest) rfl rfl rfl hout hlocks
  have hcell9 : (T.setFrames (.throwing q :: below)).heap[q]? = some ce := by
    show T.heap[q]? = some ce
    rw [hT]; exact hcell
  exact ⟨_, st1, .threw q, hrun, hend, Or.inr ⟨q, rfl, E, ce, locs, hx _ hT hW.alike, hcell9, hv, hcl, hW, hsm.mono hc hs, hf⟩⟩
theorem vx_frame {U : State} {k n : Nat} (h : s.sameButNew ({ U with vm := s.vm } : State) locs k n) : s.heap.size ≤ U.heap.size ∧ ∀ q : Nat, q < s.heap.size → (∀ z ∈ locs, z.base ≠ q) → U.heap[q]? = s.heap[q]? := by
  obtain ⟨-, h2, -, -, -, h6⟩ := h
  refine ⟨h2, fun q hq hz => ?_⟩
  obtain ⟨c9, e1, e2, e3, e4⟩ := h6 q _ (Array.getElem?_eq_getElem hq)
  have hs : c9.slots = (s.heap[q]).slots := Array.ext_getElem? fun i => e4 i fun hm => hz _ hm rfl
  have h9 : c9 = s.heap[q] := by
    rw [hs] at e2
    exact e2
  have e5 : U.heap[q]? = some c9 := e1
  rw [e5, h9, Array.getElem?_eq_getElem hq]
/-- the words of a throw but the four that speak of the heap -/
def vx_no (w : Cond) : Bool := decide (w ≠ .isRef (.static Bundle.tN "UNASSIGNED_STACK" Bundle.steD)) && decide (w ≠ .isRef (.static Bundle.tN "SUPPRESSED_SENTINEL" Bundle.listD)) && decide (w ≠ .laysStatic Bundle.tN "UNASSIGNED_STACK" Bundle.steD) && decide (w ≠ .laysStatic Bundle.tN "SUPPRESSED_SENTINEL" Bundle.listD)
def vx_at0 (own : String) (ic : Nat) (X : String) (names : List String) : List Cond := (Bundle.ownAtoms0 own ic X names).filter vx_no
def vx_atS (own : String) (ic : Nat) (X : String) (names : List String) : List Cond := (Bundle.ownAtoms own ic X names).filter vx_no
/-- a word that the tables alone decide, or a good one -/
def vx_ot (w : Cond) : Bool := w.onTables || goodWord w
theorem vx_ot_at {args a' : Array Value} {s U : State} {w : Cond} (hW : s.WarmedH U.vm) (hvm : s.vm = U.vm) (hg : vx_ot w = true) (h : w.before args s = true) : w.before a' U = true := by
  simp only [vx_ot, Bool.or_eq_true] at hg
  rcases hg with hg | hg
  · exact va_tabs hg hvm h
  · exact word_at hW (good_of_word hg) h
/-- a list's words: the good ones out of the method's own list, the others by premises of their own -/
theorem vx_hat {args : Array Value} {s : State} {L B : List Cond} (h1 : ∀ w ∈ L.filter goodWord, w.before args s = true) (h2 : ∀ w ∈ L.filter (fun w => !goodWord w), w ∈ B) (h3 : ∀ w ∈ B, w.before args s = true) : ∀ w ∈ L, w.before args s = true := by
  intro w hw
  by_cases g : goodWord w = true
  · exact h1 w (List.mem_filter.mpr ⟨hw, g⟩)
  · refine h3 w (h2 w (List.mem_filter.mpr ⟨hw, ?_⟩))
    show (!goodWord w) = true
    cases hgw : goodWord w
    · rfl
    · exact absurd hgw g
theorem vx_c {args : Array Value} {s : State} {w : Cond} {B : List Cond} (h : w.before args s = true) (t : ∀ w ∈ B, w.before args s = true) : ∀ w' ∈ w :: B, w'.before args s = true := fun w' h' => (List.mem_cons.mp h').elim (fun e => by rw [e]; exact h) (t w')
theorem vx_n {args : Array Value} {s : State} : ∀ w ∈ ([] : List Cond), w.before args s = true := fun _ h => nomatch h
theorem vx_own {args : Array Value} {s : State} {L : List Cond} (h1 : ∀ w ∈ L.filter vx_no, w.before args s = true)
    (hU : (Cond.isRef (.static Bundle.tN "UNASSIGNED_STACK" Bundle.steD)).before args s = true) (hN : (Cond.isRef (.static Bundle.tN "SUPPRESSED_SENTINEL" Bundle.listD)).before args s = true)
    (lU : (Cond.laysStatic Bundle.tN "UNASSIGNED_STACK" Bundle.steD).before args s = true) (lN : (Cond.laysStatic Bundle.tN "SUPPRESSED_SENTINEL" Bundle.listD).before args s = true) : ∀ w ∈ L, w.before args s = true := by
  intro w hw
  by_cases e1 : w = .isRef (.static Bundle.tN "UNASSIGNED_STACK" Bundle.steD)
  · rw [e1]; exact hU
  · by_cases e2 : w = .isRef (.static Bundle.tN "SUPPRESSED_SENTINEL" Bundle.listD)
    · rw [e2]; exact hN
    · by_cases e3 : w = .laysStatic Bundle.tN "UNASSIGNED_STACK" Bundle.steD
      · rw [e3]; exact lU
      · by_cases e4 : w = .laysStatic Bundle.tN "SUPPRESSED_SENTINEL" Bundle.listD
        · rw [e4]; exact lN
        · exact h1 w (List.mem_filter.mpr ⟨hw, by unfold vx_no; rw [decide_eq_true e1, decide_eq_true e2, decide_eq_true e3, decide_eq_true e4]; rfl⟩)
/-- where a static field lies, its class's statics cell in H -/
def vx_L (C n d : String) (A : Nat → Prop) (U : State) (H : Heap) : Prop := ∃ (c : ClassId) (k : Class) (i : Nat) (f : Field) (a : Nat) (cell : Cell), U.vm.findClass C = some c ∧ U.fieldFound? C n d = some (c, k, i, f) ∧ f.isStatic = true ∧ k.statics = some a ∧ H[a]? = some cell ∧ cell.vm.isStatics = true ∧ cell.cls = c ∧ f.slot < cell.slots.size ∧ k.staticTypes[f.slot]? = some f.type ∧ ¬ A a
theorem vx_L.moved {C n d : String} {A : Nat → Prop} {u U : State} {H : Heap} (hvm : u.vm.Alike U.vm) (h : vx_L C n d A u H) : vx_L C n d A U H := by
  obtain ⟨c, k, i, f, a, cell, h1, h2, h3, h4, h5, h6, h7, h8, h9, h10⟩ := h
  obtain ⟨k', hi', he⟩ := State.fieldFound?_setVm hvm h2
  exact ⟨c, k', i, f, a, cell, by rw [hvm.findClass]; exact h1, hi', h3, by rw [he]; exact h4, h5, h6, h7, h8, by rw [he]; exact h9, h10⟩
theorem vx_L.kept {C n d : String} {A : Nat → Prop} {U : State} {H H1 : Heap} (h : vx_L C n d A U H) (hq : ∀ a : Nat, a < H.size → ¬ A a → H1[a]? = H[a]?) : vx_L C n d A U H1 := by
  obtain ⟨c, k, i, f, a, cell, h1, h2, h3, h4, h5, h6, h7, h8, h9, h10⟩ := h
  exact ⟨c, k, i, f, a, cell, h1, h2, h3, h4, by rw [hq a (Array.getElem?_eq_some_iff.mp h5).1 h10]; exact h5, h6, h7, h8, h9, h10⟩
theorem vx_L.narrow {C n d : String} {A B : Nat → Prop} {U : State} {H : Heap} (h : vx_L C n d A U H) (hAB : ∀ q, B q → A q) : vx_L C n d B U H := by
  obtain ⟨c, k, i, f, a, cell, h1, h2, h3, h4, h5, h6, h7, h8, h9, h10⟩ := h
  exact ⟨c, k, i, f, a, cell, h1, h2, h3, h4, h5, h6, h7, h8, h9, fun z => h10 (hAB _ z)⟩
theorem vx_L.word {C n d : String} {A : Nat → Prop} {s : State} {args : Array Value} (h : vx_L C n d A s s.heap) : (Cond.laysStatic C n d).before args s = true := by
  obtain ⟨c, k, i, f, a, cell, h1, h2, h3, h4, h5, h6, h7, h8, h9, -⟩ := h
  show (Cond.laysStatic C n d).holds args s none s [] = true
  exact Cond.laysStatic_of h1 h2 h3 h4 h5 h6 h7 h8 h9
/-- .. and what it holds: null or some reference -/
def vx_Zq (C n d : String) (A : Nat → Prop) (U : State) (H : Heap) : Prop := va_Zq C n d A U H ∧ vx_L C n d A U H
theorem vx_Zq.moved {C n d : String} {A : Nat → Prop} {u U : State} {H : Heap} (hvm : u.vm.Alike U.vm) (h : vx_Zq C n d A u H) : vx_Zq C n d A U H := ⟨va_Zq.moved hvm h.1, vx_L.moved hvm h.2⟩
theorem vx_Zq.kept {C n d : String} {A : Nat → Prop} {U : State} {H H1 : Heap} (h : vx_Zq C n d A U H) (hq : ∀ a : Nat, a < H.size → ¬ A a → H1[a]? = H[a]?) : vx_Zq C n d A U H1 := ⟨va_Zq.kept h.1 hq, vx_L.kept h.2 hq⟩
theorem vx_Zq.narrow {C n d : String} {A B : Nat → Prop} {U : State} {H : Heap} (h : vx_Zq C n d A U H) (hAB : ∀ q, B q → A q) : vx_Zq C n d B U H := ⟨va_Zq.narrow h.1 hAB, vx_L.narrow h.2 hAB⟩
theorem vx_Zqof {args : Array Value} {s : State} {C n d : String} {A : Nat → Prop} (hl : (Cond.laysStatic C n d).before args s = true) (hini : (Cond.initialized C).before args s = true) (h : (Cond.isRef (.static C n d)).before args s = true) (hA : ∀ a : Nat, a < s.heap.size → ¬ A a) : vx_Zq C n d A s s.heap := by
  refine ⟨va_Zqof hl hini h hA, ?_⟩
  obtain ⟨c, k, i, f, a, cell, h1, h2, h3, h4, h5, h6, h7, h8, h9⟩ := Cond.laysStatic_spec hl
  exact ⟨c, k, i, f, a, cell, h1, h2, h3, h4, h5, h6, h7, h8, h9, hA a (Array.getElem?_eq_some_iff.mp h5).1⟩
theorem vx_isRef {C n d : String} {v : Value} {A : Nat → Prop} {s : State} {args : Array Value} (h : va_Z C n d v A s s.heap) (hv : v.isRef = true) : (Cond.isRef (.static C n d)).before args s = true := by
  obtain ⟨cf, kf, fi, f, a, cell, h1, h2, h3, h4, h5, h6, h7, -⟩ := h
  have he : (Term.static C n d).eval args s none [] s = some v := by
    simp [Term.eval, State.fieldNamed?, h1, h2, h4, h5, h6, h7]
  simp only [Cond.before, Cond.holds, Cond.value, he]
  cases v <;> simp_all [Value.isRef]
theorem vx_isRefq {C n d : String} {A : Nat → Prop} {s : State} {args : Array Value} (h : va_Zq C n d A s s.heap) : (Cond.isRef (.static C n d)).before args s = true := by
  rcases h with h | ⟨t, h⟩
  · exact vx_isRef h rfl
  · exact vx_isRef h rfl
/-- the same frame, seen from here: as if the method were called anew in this heap -/
theorem vx_rebase {T : State} (X : Stand p l e R s m args below meth c T locs cells slots) {R' : Room} (hf : R'.frames ≤ R.frames) (hl : R'.locals ≤ R.locals) (hc : cells + R'.cells ≤ R.cells) (hs : slots + R'.slots ≤ R.slots) :
    Stand p l e R' ((T.setVm s.vm).setFrames (.invoking m args :: below)) m args below meth c T [] 0 0 := by
  have htop : (T.setVm s.vm).topJava?.isSome := X.here.top
  have hF : ((T.setVm s.vm).setFrames (.invoking m args :: below)).frames = .invoking m args :: below := State.frames_setFrames _ (State.cur_lt_of_top htop)
  obtain ⟨g₀, hg0⟩ := Option.isSome_iff_exists.mp htop
  obtain ⟨r, hr⟩ := State.topJava?_eq_some.mp hg0
  have hl9 : e.platform.stackLimits (T.setVm s.vm).me = e.platform.stackLimits s.me := X.limits
  have hb9 : (T.setVm s.vm).me.stackBytes = s.me.stackBytes := X.bytes
  refine ⟨X.admits, X.cas, X.clock, hF, ?_, X.hears, X.method, X.code, X.here, X.tail, X.warmed, ?_, ?_, ?_⟩
  · have h := X.room
    have hU : ((T.setVm s.vm).setFrames (.invoking m args :: below)).localsInUse = s.localsInUse := by
      rw [State.localsInUse_invoking hF (meth := meth) (c := c) X.method X.code, State.localsInUse_invoking X.frames X.method X.code]
    simp only [State.hasRoom, Bool.and_eq_true, decide_eq_true_eq] at h ⊢
    obtain ⟨⟨⟨⟨h1, h2, h3, h4, h5, h6⟩, h7⟩, h8⟩, h9⟩ := h
    rw [X.frames, List.length_cons] at h2 h3
    have q1 := X.heapSize
    have q2 := X.used
    simp only [hF, hU, List.length_cons, State.stackLimits_setFrames, State.stackBytes_setFrames, hl9, hb9]
    refine ⟨⟨⟨⟨by omega, by omega, by omega, by omega, by omega, h6⟩, ?_⟩, ?_⟩, X.book⟩
    · show T.heap.size + R'.cells ≤ e.platform.maxCells
      omega
    · show T.slotsUsed + R'.slots ≤ e.platform.maxSlots
      omega
  · rw [State.stackLimits_setFrames]; rfl
  · rw [State.stackBytes_setFrames]; rfl
  · refine ⟨?_, Nat.le_refl _, Nat.le_refl _, ?_, ?_, fun a c9 h9 => ⟨c9, h9, rfl, rfl, fun _ _ => rfl⟩⟩
    · obtain ⟨t, ht, -⟩ := State.frames_cons hr
      show T.setVm s.vm = { ((T.setVm s.vm).setFrames (.invoking m args :: below)).setFrames (T.setVm s.vm).frames with heap := T.heap, slotsUsed := T.slotsUsed }
      rw [State.setFrames_setFrames, State.setFrames_self ht]
      rfl
    · show T.slotsUsed = T.slotsUsed + ((T.heap.toList.drop T.heap.size).map (·.slots.size)).sum
      rw [List.drop_eq_nil_of_le (Nat.le_of_eq Array.length_toList)]
      rfl
    · show ((T.heap.toList.drop T.heap.size).map (·.slots.size)).sum ≤ 0
      rw [List.drop_eq_nil_of_le (Nat.le_of_eq Array.length_toList)]
      exact Nat.le_refl _
/-- 'throw new E()': new; dup; invokespecial; athrow -/
theorem vx_throw0 {cc : ByteArray} {pc : Nat} (hexec : p.tables.exec = Jvm.exec) (hb : c.code = cc) (hl : l.stackTraces = false) {own cls : String} {names : List String} {ik ic mc ms : Nat} {A : Nat → Prop}
    (hown : s.vm.findClass own = some m.cls) (hcls : Bundle.fit cls = true) (hnames : ∀ n ∈ names, Bundle.fit n = true)
    (hk : (Cond.classLink own ik cls).before args s = true) (hini : (Cond.initialized cls).before args s = true) (hat : ∀ w ∈ vx_at0 own ic cls names, w.before args s = true)
    (hgood : ∀ w ∈ Cond.classLink own ik cls :: Cond.initialized cls :: vx_at0 own ic cls names, vx_ot w = true)
    (hU : vx_Zq Bundle.tN "UNASSIGNED_STACK" Bundle.steD A s s.heap) (hN : vx_Zq Bundle.tN "SUPPRESSED_SENTINEL" Bundle.listD A s s.heap) (hS : va_S A s.heap H locs) (hsize : ls.size = c.maxLocals)
    (d0 : decode cc pc = .ok (.new ik, 3)) (d3 : decode cc (pc + 3) = .ok (.dup, 1)) (d4 : decode cc (pc + 4) = .ok (.invokespecial ic, 3)) (d7 : decode cc (pc + 7) = .ok (.athrow, 1))
    (hout : ∀ x ∈ c.exceptionTable.toList, covers x (pc + 7) = false)
    (hRframes : names.length + 3 < R.frames) (hRlocals : (rest.map fun v => v.category).sum + (13 * (names.length + 1) + 42) ≤ R.locals) (hRcells : cells + 1 ≤ R.cells) (hRslots : slots + 6 ≤ R.slots) (hlocks : meth.locks = false)
    (hx : ∀ t : State, s.vm.Alike t.vm → H.size ≤ t.heap.size → (∀ q : Nat, q < H.size → t.heap[q]? = H[q]?) → XC cls s t)
    (hf : ∀ z ∈ locs, free z.base) (hc : cells + 1 ≤ mc) (hs : slots + 6 ≤ ms) :
    W p l e R s m args below meth c H locs cells slots (vx_MQ below Qc XC args s mc ms free) (F0 m pc ls rest) := by
  intro T hT X
  have htr : e.platform.stackTraces = false := (show e.platform.stackTraces = l.stackTraces by rw [X.admits.platform]).trans hl
  have Y := vx_rebase X (R' := { frames := R.frames, locals := R.locals, cells := 1, slots := 6 }) (Nat.le_refl _) (Nat.le_refl _) hRcells hRslots
  obtain ⟨s', hA⟩ : ∃ z, z = (T.setVm s.vm).setFrames (.invoking m args :: below) := ⟨_, rfl⟩
  rw [← hA] at Y
  have hvm : s'.vm = s.vm := by rw [hA]; rfl
  have hhp : s'.heap = H := by rw [hA]; exact hT
  have hW0 : s.WarmedH s'.vm := by rw [hvm]; exact State.WarmedH.refl s
  have hat' : ∀ w ∈ vx_at0 own ic cls names, w.before args s' = true := fun w hw => vx_ot_at hW0 hvm.symm (hgood w (List.mem_cons_of_mem _ (List.mem_cons_of_mem _ hw))) (hat w hw)
  have hk' : (Cond.classLink own ik cls).before args s' = true := vx_ot_at hW0 hvm.symm (hgood _ List.mem_cons_self) hk
  have hini' : (Cond.initialized cls).before args s' = true := vx_ot_at hW0 hvm.symm (hgood _ (List.mem_cons_of_mem _ List.mem_cons_self)) hini
  have hU' : vx_Zq Bundle.tN "UNASSIGNED_STACK" Bundle.steD A s' s'.heap := by rw [hhp]; exact vx_Zq.moved hW0.alike (hU.kept hS.2.1)
  have hN' : vx_Zq Bundle.tN "SUPPRESSED_SENTINEL" Bundle.listD A s' s'.heap := by rw [hhp]; exact vx_Zq.moved hW0.alike (hN.kept hS.2.1)
  have h : ∀ w ∈ Bundle.ownAtoms0 own ic cls names, w.before args s' = true := vx_own hat' (vx_isRefq hU'.1) (vx_isRefq hN'.1) hU'.2.word hN'.2.word
  have hown' : s'.vm.findClass own = some m.cls := by rw [hvm]; exact hown
  have hins : (Cond.instantiable cls 6).before args s' = true := h _ (by simp [Bundle.ownAtoms0])
  obtain ⟨vm₁, cX, kX, hfX, hkX, -, -, X₁, st1⟩ := Y.newCold hexec (own := own) (C := cls) (index := ik) (n := 6) hown' hk' hins hini'
    (g := F0 m pc ls rest) rfl (by rw [hb]; exact d0) (Nat.le_refl _) (Nat.le_refl _)
  generalize hT1 : (T.setVm vm₁).pushCell { cls := cX, slots := kX.instanceTypes.map defaultValue, vm := .none } = T1 at X₁ st1
  have hcat : (Value.ref T.heap.size).category = 1 := rfl
  have hcellA : T1.heap[T.heap.size]? = some (freshCell cX kX) := by rw [← hT1]; exact State.heap_pushCell_size _ _
  have d3' : decode c.code (pc + 3) = .ok (.dup, 1) := by rw [hb]; exact d3
  obtain ⟨U, hsteps, hrun, hend, hW, hsame, ce, hce, hO⟩ := X₁.ctorThrow0 hexec htr (own := own) (cls := cls) (names := names) (ic := ic) hown' hcls hnames h (fun x hx => nomatch hx) hfX hkX hcellA (by rw [hhp, hT]; exact Nat.le_refl _)
    (g := { method := m, pc := pc + 4, locals := ls, stack := .ref T.heap.size :: .ref T.heap.size :: rest, locked := none }) rfl hsize rfl rfl (rest := rest) rfl
    (by rw [hb]; exact d4) (by rw [hb]; exact d7) hout hRframes (by simp only [List.map_cons, List.sum_cons, hcat]; omega) hlocks
  obtain ⟨f1, f2⟩ := vx_frame hsame
  rw [hhp] at f1 f2
  have hWs : s.WarmedH U.vm := State.WarmedH.trans hW0 hW
  have hcl : s.vm.findClass cls = some ce.cls := by
    have h9 := hO.cls
    rw [hvm] at h9
    exact h9
  have hall : s.sameButNew ({ U with vm := s.vm } : State) locs mc ms := by
    subst hA
    obtain ⟨e1, e2⟩ := hsame
    rw [State.setFrames_setFrames] at e1
    have h2 : (T.setVm s.vm).sameButNew ({ U with vm := s.vm } : State) [] (0 + 1) (0 + 6) := ⟨e1, e2⟩
    have h3 := X.same.trans h2
    rw [List.append_nil] at h3
    exact h3.mono hc hs
  refine ⟨U, ?_, .threw T.heap.size, hrun, hend, Or.inr ⟨T.heap.size, rfl, cls, ce, locs, hx U hWs.alike f1 (fun q hq => f2 q hq (fun z hz => nomatch hz)), hce, hO.vm, hcl, hWs, hall, hf⟩⟩
  refine st1 _ ?_
  show Steps p.tables e below (T1.setTop { method := m, pc := pc + 3, locals := ls, stack := .ref T.heap.size :: rest, locked := none }) _
  jvm_step X₁.here [X₁.here.top, hexec, d3', Value.category]
  exact hsteps
/-- 'throw new E("text")': new; dup; ldc; invokespecial; athrow -/
theorem vx_throwS {cc : ByteArray} {pc : Nat} (hexec : p.tables.exec = Jvm.exec) (hb : c.code = cc) (hl : l.stackTraces = false) {own cls text : String} {names : List String} {ik is ic mc ms sa : Nat} {A : Nat → Prop}
    (hown : s.vm.findClass own = some m.cls) (hcls : Bundle.fit cls = true) (hnames : ∀ n ∈ names, Bundle.fit n = true)
    (hk : (Cond.classLink own ik cls).before args s = true) (hini : (Cond.initialized cls).before args s = true) (hstr : vk_R own is text sa s) (hat : ∀ w ∈ vx_atS own ic cls names, w.before args s = true)
    (hgood : ∀ w ∈ Cond.classLink own ik cls :: Cond.initialized cls :: vx_atS own ic cls names, vx_ot w = true)
    (hU : vx_Zq Bundle.tN "UNASSIGNED_STACK" Bundle.steD A s s.heap) (hN : vx_Zq Bundle.tN "SUPPRESSED_SENTINEL" Bundle.listD A s s.heap) (hS : va_S A s.heap H locs) (hsize : ls.size = c.maxLocals)
    (d0 : decode cc pc = .ok (.new ik, 3)) (d3 : decode cc (pc + 3) = .ok (.dup, 1)) (d4 : decode cc (pc + 4) = .ok (.ldc is, 2)) (d6 : decode cc (pc + 6) = .ok (.invokespecial ic, 3)) (d9 : decode cc (pc + 9) = .ok (.athrow, 1))
    (hout : ∀ x ∈ c.exceptionTable.toList, covers x (pc + 9) = false)
    (hRframes : names.length + 3 < R.frames) (hRlocals : (rest.map fun v => v.category).sum + (13 * (names.length + 1) + 43) ≤ R.locals) (hRcells : cells + 1 ≤ R.cells) (hRslots : slots + 6 ≤ R.slots) (hlocks : meth.locks = false)
    (hx : ∀ t : State, s.vm.Alike t.vm → H.size ≤ t.heap.size → (∀ q : Nat, q < H.size → t.heap[q]? = H[q]?) → XC cls s t)
    (hf : ∀ z ∈ locs, free z.base) (hc : cells + 1 ≤ mc) (hs : slots + 6 ≤ ms) :
    W p l e R s m args below meth c H locs cells slots (vx_MQ below Qc XC args s mc ms free) (F0 m pc ls rest) := by
  intro T hT X
  have htr : e.platform.stackTraces = false := (show e.platform.stackTraces = l.stackTraces by rw [X.admits.platform]).trans hl
  have Y := vx_rebase X (R' := { frames := R.frames, locals := R.locals, cells := 1, slots := 6 }) (Nat.le_refl _) (Nat.le_refl _) hRcells hRslots
  obtain ⟨s', hA⟩ : ∃ z, z = (T.setVm s.vm).setFrames (.invoking m args :: below) := ⟨_, rfl⟩
  rw [← hA] at Y
  have hvm : s'.vm = s.vm := by rw [hA]; rfl
  have hhp : s'.heap = H := by rw [hA]; exact hT
  have hW0 : s.WarmedH s'.vm := by rw [hvm]; exact State.WarmedH.refl s
  have hat' : ∀ w ∈ vx_atS own ic cls names, w.before args s' = true := fun w hw => vx_ot_at hW0 hvm.symm (hgood w (List.mem_cons_of_mem _ (List.mem_cons_of_mem _ hw))) (hat w hw)
  have hk' : (Cond.classLink own ik cls).before args s' = true := vx_ot_at hW0 hvm.symm (hgood _ List.mem_cons_self) hk
  have hini' : (Cond.initialized cls).before args s' = true := vx_ot_at hW0 hvm.symm (hgood _ (List.mem_cons_of_mem _ List.mem_cons_self)) hini
  have hU' : vx_Zq Bundle.tN "UNASSIGNED_STACK" Bundle.steD A s' s'.heap := by rw [hhp]; exact vx_Zq.moved hW0.alike (hU.kept hS.2.1)
  have hN' : vx_Zq Bundle.tN "SUPPRESSED_SENTINEL" Bundle.listD A s' s'.heap := by rw [hhp]; exact vx_Zq.moved hW0.alike (hN.kept hS.2.1)
  have h : ∀ w ∈ Bundle.ownAtoms own ic cls names, w.before args s' = true := vx_own hat' (vx_isRefq hU'.1) (vx_isRefq hN'.1) hU'.2.word hN'.2.word
  have hown' : s'.vm.findClass own = some m.cls := by rw [hvm]; exact hown
  have hins : (Cond.instantiable cls 6).before args s' = true := h _ (by simp [Bundle.ownAtoms])
  obtain ⟨vm₁, cX, kX, hfX, hkX, -, -, X₁, st1⟩ := Y.newCold hexec (own := own) (C := cls) (index := ik) (n := 6) hown' hk' hins hini'
    (g := F0 m pc ls rest) rfl (by rw [hb]; exact d0) (Nat.le_refl _) (Nat.le_refl _)
  generalize hT1 : (T.setVm vm₁).pushCell { cls := cX, slots := kX.instanceTypes.map defaultValue, vm := .none } = T1 at X₁ st1
  have hcat : (Value.ref T.heap.size).category = 1 := rfl
  have hcellA : T1.heap[T.heap.size]? = some (freshCell cX kX) := by rw [← hT1]; exact State.heap_pushCell_size _ _
  have d3' : decode c.code (pc + 3) = .ok (.dup, 1) := by rw [hb]; exact d3
  have d4' : decode c.code (pc + 4) = .ok (.ldc is, 2) := by rw [hb]; exact d4
  have hstr' : vk_R own is text sa s' := vk_R.warm hW0 hstr
  obtain ⟨U, hsteps, hrun, hend, hW, hsame, ce, hce, hO⟩ := X₁.ctorThrowS hexec htr (own := own) (cls := cls) (names := names) (ic := ic) hown' hcls hnames h (fun x hx => nomatch hx) hfX hkX hcellA (by rw [hhp, hT]; exact Nat.le_refl _) (msg := .ref sa) rfl
    (g := { method := m, pc := pc + 6, locals := ls, stack := .ref sa :: .ref T.heap.size :: .ref T.heap.size :: rest, locked := none }) rfl hsize rfl rfl (rest := rest) rfl
    (by rw [hb]; exact d6) (by rw [hb]; exact d9) hout hRframes (by simp only [List.map_cons, List.sum_cons, hcat]; omega) hlocks
  obtain ⟨f1, f2⟩ := vx_frame hsame
  rw [hhp] at f1 f2
  have hWs : s.WarmedH U.vm := State.WarmedH.trans hW0 hW
  have hcl : s.vm.findClass cls = some ce.cls := by
    have h9 := hO.cls
    rw [hvm] at h9
    exact h9
  have hall : s.sameButNew ({ U with vm := s.vm } : State) locs mc ms := by
    subst hA
    obtain ⟨e1, e2⟩ := hsame
    rw [State.setFrames_setFrames] at e1
    have h2 : (T.setVm s.vm).sameButNew ({ U with vm := s.vm } : State) [] (0 + 1) (0 + 6) := ⟨e1, e2⟩
    have h3 := X.same.trans h2
    rw [List.append_nil] at h3
    exact h3.mono hc hs
  refine ⟨U, ?_, .threw T.heap.size, hrun, hend, Or.inr ⟨T.heap.size, rfl, cls, ce, locs, hx U hWs.alike f1 (fun q hq => f2 q hq (fun z hz => nomatch hz)), hce, hO.vm, hcl, hWs, hall, hf⟩⟩
  refine st1 _ ?_
  show Steps p.tables e below (T1.setTop { method := m, pc := pc + 3, locals := ls, stack := .ref T.heap.size :: rest, locked := none }) _
  jvm_step X₁.here [X₁.here.top, hexec, d3', Value.category]
  exact X₁.ldcString hexec (own := own) (text := text) (index := is) (a := sa) hown' hstr'.1 hstr'.2
    (g := { method := m, pc := pc + 4, locals := ls, stack := .ref T.heap.size :: .ref T.heap.size :: rest, locked := none }) rfl d4' _ hsteps
/-- 'throw new E("text")', the text by a wide index -/
theorem vx_throwSW {cc : ByteArray} {pc : Nat} (hexec : p.tables.exec = Jvm.exec) (hb : c.code = cc) (hl : l.stackTraces = false) {own cls text : String} {names : List String} {ik is ic mc ms sa : Nat} {A : Nat → Prop}
    (hown : s.vm.findClass own = some m.cls) (hcls : Bundle.fit cls = true) (hnames : ∀ n ∈ names, Bundle.fit n = true)
    (hk : (Cond.classLink own ik cls).before args s = true) (hini : (Cond.initialized cls).before args s = true) (hstr : vk_R own is text sa s) (hat : ∀ w ∈ vx_atS own ic cls names, w.before args s = true)
    (hgood : ∀ w ∈ Cond.classLink own ik cls :: Cond.initialized cls :: vx_atS own ic cls names, vx_ot w = true)
    (hU : vx_Zq Bundle.tN "UNASSIGNED_STACK" Bundle.steD A s s.heap) (hN : vx_Zq Bundle.tN "SUPPRESSED_SENTINEL" Bundle.listD A s s.heap) (hS : va_S A s.heap H locs) (hsize : ls.size = c.maxLocals)
    (d0 : decode cc pc = .ok (.new ik, 3)) (d3 : decode cc (pc + 3) = .ok (.dup, 1)) (d4 : decode cc (pc + 4) = .ok (.ldc_w is, 3)) (d7 : decode cc (pc + 7) = .ok (.invokespecial ic, 3)) (d10 : decode cc (pc + 10) = .ok (.athrow, 1))
    (hout : ∀ x ∈ c.exceptionTable.toList, covers x (pc + 10) = false)
    (hRframes : names.length + 3 < R.frames) (hRlocals : (rest.map fun v => v.category).sum + (13 * (names.length + 1) + 43) ≤ R.locals) (hRcells : cells + 1 ≤ R.cells) (hRslots : slots + 6 ≤ R.slots) (hlocks : meth.locks = false)
    (hx : ∀ t : State, s.vm.Alike t.vm → H.size ≤ t.heap.size → (∀ q : Nat, q < H.size → t.heap[q]? = H[q]?) → XC cls s t)
    (hf : ∀ z ∈ locs, free z.base) (hc : cells + 1 ≤ mc) (hs : slots + 6 ≤ ms) :
    W p l e R s m args below meth c H locs cells slots (vx_MQ below Qc XC args s mc ms free) (F0 m pc ls rest) := by
  intro T hT X
  have htr : e.platform.stackTraces = false := (show e.platform.stackTraces = l.stackTraces by rw [X.admits.platform]).trans hl
  have Y := vx_rebase X (R' := { frames := R.frames, locals := R.locals, cells := 1, slots := 6 }) (Nat.le_refl _) (Nat.le_refl _) hRcells hRslots
  obtain ⟨s', hA⟩ : ∃ z, z = (T.setVm s.vm).setFrames (.invoking m args :: below) := ⟨_, rfl⟩
  rw [← hA] at Y
  have hvm : s'.vm = s.vm := by rw [hA]; rfl
  have hhp : s'.heap = H := by rw [hA]; exact hT
  have hW0 : s.WarmedH s'.vm := by rw [hvm]; exact State.WarmedH.refl s
  have hat' : ∀ w ∈ vx_atS own ic cls names, w.before args s' = true := fun w hw => vx_ot_at hW0 hvm.symm (hgood w (List.mem_cons_of_mem _ (List.mem_cons_of_mem _ hw))) (hat w hw)
  have hk' : (Cond.classLink own ik cls).before args s' = true := vx_ot_at hW0 hvm.symm (hgood _ List.mem_cons_self) hk
  have hini' : (Cond.initialized cls).before args s' = true := vx_ot_at hW0 hvm.symm (hgood _ (List.mem_cons_of_mem _ List.mem_cons_self)) hini
  have hU' : vx_Zq Bundle.tN "UNASSIGNED_STACK" Bundle.steD A s' s'.heap := by rw [hhp]; exact vx_Zq.moved hW0.alike (hU.kept hS.2.1)
  have hN' : vx_Zq Bundle.tN "SUPPRESSED_SENTINEL" Bundle.listD A s' s'.heap := by rw [hhp]; exact vx_Zq.moved hW0.alike (hN.kept hS.2.1)
  have h : ∀ w ∈ Bundle.ownAtoms own ic cls names, w.before args s' = true := vx_own hat' (vx_isRefq hU'.1) (vx_isRefq hN'.1) hU'.2.word hN'.2.word
  have hown' : s'.vm.findClass own = some m.cls := by rw [hvm]; exact hown
  have hins : (Cond.instantiable cls 6).before args s' = true := h _ (by simp [Bundle.ownAtoms])
  obtain ⟨vm₁, cX, kX, hfX, hkX, -, -, X₁, st1⟩ := Y.newCold hexec (own := own) (C := cls) (index := ik) (n := 6) hown' hk' hins hini'
    (g := F0 m pc ls rest) rfl (by rw [hb]; exact d0) (Nat.le_refl _) (Nat.le_refl _)
  generalize hT1 : (T.setVm vm₁).pushCell { cls := cX, slots := kX.instanceTypes.map defaultValue, vm := .none } = T1 at X₁ st1
  have hcat : (Value.ref T.heap.size).category = 1 := rfl
  have hcellA : T1.heap[T.heap.size]? = some (freshCell cX kX) := by rw [← hT1]; exact State.heap_pushCell_size _ _
  have d3' : decode c.code (pc + 3) = .ok (.dup, 1) := by rw [hb]; exact d3
  have d4' : decode c.code (pc + 4) = .ok (.ldc_w is, 3) := by rw [hb]; exact d4
  have hstr' : vk_R own is text sa s' := vk_R.warm hW0 hstr
  obtain ⟨U, hsteps, hrun, hend, hW, hsame, ce, hce, hO⟩ := X₁.ctorThrowS hexec htr (own := own) (cls := cls) (names := names) (ic := ic) hown' hcls hnames h (fun x hx => nomatch hx) hfX hkX hcellA (by rw [hhp, hT]; exact Nat.le_refl _) (msg := .ref sa) rfl
    (g := { method := m, pc := pc + 7, locals := ls, stack := .ref sa :: .ref T.heap.size :: .ref T.heap.size :: rest, locked := none }) rfl hsize rfl rfl (rest := rest) rfl
    (by rw [hb]; exact d7) (by rw [hb]; exact d10) hout hRframes (by simp only [List.map_cons, List.sum_cons, hcat]; omega) hlocks
  obtain ⟨f1, f2⟩ := vx_frame hsame
  rw [hhp] at f1 f2
  have hWs : s.WarmedH U.vm := State.WarmedH.trans hW0 hW
  have hcl : s.vm.findClass cls = some ce.cls := by
    have h9 := hO.cls
    rw [hvm] at h9
    exact h9
  have hall : s.sameButNew ({ U with vm := s.vm } : State) locs mc ms := by
    subst hA
    obtain ⟨e1, e2⟩ := hsame
    rw [State.setFrames_setFrames] at e1
    have h2 : (T.setVm s.vm).sameButNew ({ U with vm := s.vm } : State) [] (0 + 1) (0 + 6) := ⟨e1, e2⟩
    have h3 := X.same.trans h2
    rw [List.append_nil] at h3
    exact h3.mono hc hs
  refine ⟨U, ?_, .threw T.heap.size, hrun, hend, Or.inr ⟨T.heap.size, rfl, cls, ce, locs, hx U hWs.alike f1 (fun q hq => f2 q hq (fun z hz => nomatch hz)), hce, hO.vm, hcl, hWs, hall, hf⟩⟩
  refine st1 _ ?_
  show Steps p.tables e below (T1.setTop { method := m, pc := pc + 3, locals := ls, stack := .ref T.heap.size :: rest, locked := none }) _
  jvm_step X₁.here [X₁.here.top, hexec, d3', Value.category]
  exact X₁.ldcStringW hexec (own := own) (text := text) (index := is) (a := sa) hown' hstr'.1 hstr'.2
    (g := { method := m, pc := pc + 4, locals := ls, stack := .ref T.heap.size :: .ref T.heap.size :: rest, locked := none }) rfl d4' _ hsteps
end Ends
section Bodies
variable {l : Launch}
theorem vx_ofW {y : MethodName} {ws ws' : List Cond} {rm : Room} {Pc : Array Value → State → Prop} {Qc : Array Value → State → Outcome → State → Prop} {XC : String → State → State → Prop} {mc ms : Nat} {free : Addr → Prop} {cc : ByteArray} {maxL : Nat} {ret : Option FieldType}
    (hy : plainName y.cls = true) (hw : ws = Cond.code y cc maxL ret :: ws')
    (body : ∀ p e s m args below meth c s₁, BodyLoose p l y (headSpec ws rm) cc maxL ret e s m args below meth c s₁ → c.maxLocals = maxL → (∀ x ∈ c.exceptionTable.toList, False) → Pc args s →
      W p l e (headSpec ws rm).room s m args below meth c s.heap [] 0 0 (vx_MQ below Qc XC args s mc ms free) (entryFrame m args maxL)) : vx_Met l y ws rm Pc Qc XC mc ms free := by
  refine MetFree.of_bodyS (code := cc) (maxLocals := maxL) (ret := ret) hy ?_ ?_
  · intro args s m h hn
    obtain ⟨meth, c, h1, h2, h3, h4, h5, h6, -, -⟩ := Cond.code_spec hn (atoms_spec (ws := ws) h _ (by rw [hw]; exact List.mem_cons_self))
    exact ⟨meth, c, h1, h2, h3, h4, h5, h6⟩
  · intro p e s m args below meth c s₁ B hml hP _
    have hh0 : s₁.heap = s.heap := by rw [B.state]; rfl
    have ht : ∀ x ∈ c.exceptionTable.toList, False := by
      obtain ⟨meth9, c9, h1, h2, -, -, -, -, h7, -⟩ := Cond.code_spec B.named (atoms_spec (ws := ws) B.pre _ (by rw [hw]; exact List.mem_cons_self))
      cases Option.some.inj (h1.symm.trans B.method)
      cases Option.some.inj (h2.symm.trans (Stand.of_body B).code)
      intro x hx
      rw [Array.isEmpty_iff.mp h7] at hx
      cases hx
    obtain ⟨t, a1, o, b1, b2, b3⟩ := body p e s m args below meth c s₁ B hml ht hP s₁ hh0 (Stand.of_body B)
    exact ⟨t, o, a1, b1, b2, b3⟩
/-- the table of a body with handlers -/
theorem vx_table {p : Program} {x y : MethodName} {S : Spec} {cc bytes : ByteArray} {maxL maxL' : Nat} {ret ret' : Option FieldType} {e : Env} {s s₁ : State} {m : MethodId} {args : Array Value} {below : List Frame} {meth : Method} {c : Code} {hh : List (Nat × Nat × Nat × Nat)}
    (B : BodyLoose p l y S cc maxL ret e s m args below meth c s₁) (h : (Cond.codeWith y bytes maxL' ret' hh).before args s = true) : c.exceptionTable.toList = tableOf hh := by
  obtain ⟨m9, meth9, c9, hn9, h1, h2, -, -, h6, -⟩ := Cond.codeWith_spec h
  cases Option.some.inj (hn9.symm.trans B.named)
  cases Option.some.inj (h1.symm.trans B.method)
  cases Option.some.inj (h2.symm.trans (Stand.of_body B).code)
  rw [← h6, table_eq]
end Bodies
end VXA
/-! ===== END ===== -/
/-! ===== BEGIN a static call of a method with an exception table ===== -/
section VXS
variable {p : Program} {l : Launch} {e : Env} {R : Room} {s : State} {m : MethodId} {args : Array Value} {below : List Frame} {meth : Method} {c : Code} {T : State} {H : Heap} {locs : List Loc} {cells slots : Nat}
abbrev vx_CSW (R : Room) (s : State) (args : Array Value) (own : String) (index : Nat) (y : MethodName) (bytes : ByteArray) (maxL : Nat) (ret : Option FieldType) (hh : List (Nat × Nat × Nat × Nat)) (ws : List Cond) (rm : Room) (mc ms n : Nat) : Prop :=
  (rm.cells = mc ∧ rm.slots = ms ∧ rm.frames + 1 ≤ R.frames ∧ 8 + (maxL + 11) + rm.locals ≤ R.locals ∧ (∀ w ∈ ws, ∀ (a' : Array Value) (U : State), s.WarmedH U.vm → w.before a' U = true) ∧ Cond.codeWith y bytes maxL ret hh ∈ ws) ∧
  (Cond.codeWith y bytes maxL ret hh).before args s = true ∧ (Cond.initialized y.cls).before args s = true ∧ (y.cls ≠ "java/lang/invoke/MethodHandle" ∧ y.cls ≠ "java/lang/invoke/VarHandle") ∧
  (∀ sig, parseMethodDescriptor y.desc = some sig → n = sig.parameters.length) ∧ (Cond.methodLink own index y).before args s = true ∧ (Cond.static y).before args s = true
theorem vx_cwSW {own : String} {index maxL mc ms : Nat} {y : MethodName} {bytes : ByteArray} {ret : Option FieldType} {hh : List (Nat × Nat × Nat × Nat)} {Ts ws ws' : List Cond} {rm : Room} (n : Nat) (ht : ∀ w ∈ Ts, w.before args s = true) (hT : GoodIn Ts (va_wsS own index y ws)) (hw : ws = Cond.codeWith y bytes maxL ret hh :: ws') (hrc : rm.cells = mc) (hrs : rm.slots = ms)
    (hd : y.cls ≠ "java/lang/invoke/MethodHandle" ∧ y.cls ≠ "java/lang/invoke/VarHandle" ∧ (parseMethodDescriptor y.desc).map (fun d => d.parameters.length) = some n) (hR : rm.frames + 1 ≤ R.frames ∧ 8 + (maxL + 11) + rm.locals ≤ R.locals) :
    vx_CSW R s args own index y bytes maxL ret hh ws rm mc ms n := by
  have ok : ∀ w ∈ va_wsS own index y ws, w.before args s = true := fun w h => ht w (hT w h).1
  have hG : GoodIn Ts ws := fun w h => hT w (by unfold va_wsS; exact List.mem_append_right _ h)
  have hc : Cond.codeWith y bytes maxL ret hh ∈ ws := by rw [hw]; exact List.mem_cons_self
  refine ⟨⟨hrc, hrs, hR.1, hR.2, pay_in ht hG, hc⟩, ht _ (hG _ hc).1, ok _ (by simp [va_wsS]), ⟨hd.1, hd.2.1⟩, fun sig h => ?_, ok _ (by simp [va_wsS]), ok _ (by simp [va_wsS])⟩
  have h2 := hd.2.2
  rw [h] at h2
  exact (Option.some.inj h2).symm
theorem vx_callSW (X : Stand p l e R s m args below meth c T locs cells slots) (hexec : p.tables.exec = Jvm.exec) {own : String} {index : Nat} {y : MethodName} {bytes : ByteArray} {maxL : Nat} {ret : Option FieldType} {hh : List (Nat × Nat × Nat × Nat)}
    (hown : s.vm.findClass own = some m.cls) (hlink : (Cond.methodLink own index y).before args s = true) (hstat : (Cond.static y).before args s = true) (hinit : (Cond.initialized y.cls).before args s = true)
    (hcode : (Cond.codeWith y bytes maxL ret hh).before args s = true) (hy : y.cls ≠ "java/lang/invoke/MethodHandle" ∧ y.cls ≠ "java/lang/invoke/VarHandle")
    {W9 : Nat} {Pre : Pt → Array Value → Prop} {Post : Pt → Array Value → Option Value → Pt → Prop} (hK : Back l R p e below s args y 3 W9 Pre Post)
    {g : JFrame} (hg : g.method = m) (hsize : g.locals.size = c.maxLocals) {argsL rest : List Value} (hlen : ∀ sig, parseMethodDescriptor y.desc = some sig → argsL.length = sig.parameters.length)
    (hstack : g.stack = argsL.reverse ++ rest) (hW : 2 * g.monitorRoom + (rest.map fun v => v.category).sum ≤ W9) (hdg : decode c.code g.pc = .ok (.invokestatic index, 3))
    (hpre : ∀ vm₁, s.WarmedH vm₁ → Pre ⟨T.setVm vm₁, locs, cells, slots⟩ argsL.toArray) :
    ∃ (v : Option Value) (vm₁ : Vm) (B : Pt), s.WarmedH vm₁ ∧ Stand p l e R s m args below meth c B.U B.locs B.cells B.slots ∧ Post ⟨T.setVm vm₁, locs, cells, slots⟩ argsL.toArray v B ∧
      ∀ target, Steps p.tables e below (B.U.setTop { g with pc := g.pc + 3, stack := v.toList ++ rest }) target → Steps p.tables e below (T.setTop g) target := by
  obtain ⟨mk, methM, cM, hnamed, hmethM, -, -, -, -, -, -, hsigM⟩ := Cond.codeWith_spec hcode
  have hstatic : methM.isStatic = true := Cond.static_spec hnamed hmethM hstat
  obtain ⟨kP, hkP, -⟩ := className_of_methodNamed hnamed
  have hinitP : kP.init = .initialized := Cond.initialized_spec (findClass_of_methodNamed hnamed) hkP hinit
  obtain ⟨vm₁, X₁, hstep₁⟩ := X.invokestatic hexec hown hlink hnamed hmethM hstatic hkP hinitP hy (g := g) hg (argsL := argsL) (rest := rest) (hlen _ hsigM) hstack hdg
  obtain ⟨v, B, X', hpost, hsteps⟩ := hK m meth c ⟨T.setVm vm₁, locs, cells, slots⟩ { g with stack := rest } (.invokestatic index) mk argsL.toArray X₁ hg hsize hdg hW (X₁.named hnamed) (hpre vm₁ X₁.warmed)
  exact ⟨v, vm₁, B, X₁.warmed, X', hpost, fun target h => hstep₁ _ fun acts => by rw [doInvoke_state]; exact hsteps.trans h⟩
theorem vx_runSW {y : MethodName} {bytes cc : ByteArray} {maxL nL mc ms n index : Nat} {ret : Option FieldType} {hh : List (Nat × Nat × Nat × Nat)} {ws : List Cond} {rm : Room} {Pc : Array Value → State → Prop} {Qc : Array Value → State → Outcome → State → Prop} {free : Addr → Prop} {Ts : List Cond} {own : String} {As rest : List Value} {g : JFrame}
    (S : CallFix p m c cc nL s args Ts own) (hM : Met l y ws rm Pc Qc mc ms free) (cw : vx_CSW R s args own index y bytes maxL ret hh ws rm mc ms n) (hp : PreS s H Pc As)
    (hg : g.method = m) (hn : As.length = n) (hsize : g.locals.size = nL) (hstack : g.stack = As.reverse ++ rest) (hW : 2 * g.monitorRoom + (rest.map fun v => v.category).sum ≤ 8) (hdg : decode cc g.pc = .ok (.invokestatic index, 3)) (hf : cells + mc ≤ R.cells ∧ slots + ms ≤ R.slots) :
    va_Run p l e R s m args below meth c H locs cells slots mc ms g rest (Qc As.toArray) (free) := by
  obtain ⟨⟨hrc, hrs, hfr, hlo, hws, hcw⟩, hcode, hini, hy, hlen, hl, hstt⟩ := cw
  have hK : Back l R p e below s args y 3 8 (PreOf R mc ms Pc) (PostOf Qc mc ms free) := va_backW (hh := hh) (bytes := bytes) (maxL := maxL) (ret := ret) hM hp.1 hrc hrs hfr hlo hws hcw (fun a' U hW => word_at hW (Or.inl (by first | rfl | simp [Cond.onTables, Cond.keeps, Cond.steady])) hini)
  obtain ⟨hx, hb, hml, ho, -⟩ := S
  intro T hT X
  obtain ⟨v, vm₁, ⟨U', l2, c2, s2⟩, hW₁, X', ⟨g', mk, t, L, e1, e2, hq, h1, hL, h2, h3⟩, st⟩ := vx_callSW X hx (hh := hh) (bytes := bytes) (maxL := maxL) (ret := ret) ho hl hstt hini hcode hy hK hg (hsize.trans hml.symm) (argsL := As) (rest := rest) (fun sig h => hn.trans (hlen sig h)) hstack hW (by rw [hb]; exact hdg)
    (fun vm₁ hW₁ => ⟨hf.1, hf.2, hp.2 (T.setVm vm₁) hT hW₁⟩)
  dsimp only [Pt.U, Pt.locs, Pt.cells, Pt.slots] at X' e1 e2 h1 h2 h3 st
  subst h1; subst h2; subst h3
  exact ⟨v, (T.setVm vm₁).calling g' mk As.toArray, t, U', L, hT, X', hL, e1, e2, hq, st⟩
/-- not caught here, past rows that name other classes: it goes on to the caller -/
theorem vx_outP {p : Program} {l : Launch} {e : Env} {R : Room} {s : State} {m : MethodId} {args : Array Value} {below : List Frame} {meth : Method} {c : Code} {H : Heap} {locs : List Loc} {cells slots : Nat} {free : Addr → Prop} {ls : Array Slot} {rest : List Value} {Qc : Array Value → State → Outcome → State → Prop} {XC : String → State → State → Prop}
    {pc : Nat} {own E : String} {ce : Cell} {q : Addr} {mc ms : Nat} (hown : s.vm.findClass own = some m.cls) (hlocks : meth.locks = false)
    (hpass : ∀ z ∈ c.exceptionTable.toList, covers z pc = false ∨ (z.catchType ≠ 0 ∧ ∃ nm : String, (Cond.classLink own z.catchType nm).before args s = true ∧ va_Nc E nm s)) (hcell : H[q]? = some ce) (hv : ce.vm = .none) (hcl : s.vm.findClass E = some ce.cls)
    (hx : ∀ t : State, t.heap = H → s.vm.Alike t.vm → XC E s t) (hf : ∀ z ∈ locs, free z.base) (hc : cells ≤ mc) (hs : slots ≤ ms) :
    vx_W p l e R s m args below meth c H locs cells slots (vx_MQ below Qc XC args s mc ms free) (F0 m pc ls rest) q := by
  intro T hT X
  have hpl : e.platform.magicAccessors = ({} : Platform).magicAccessors := by rw [X.admits.platform]
  obtain ⟨vm', hW', X', st⟩ := X.outThrough hlocks q (g := F0 m pc ls rest) rfl rfl rfl (cell := ce) (by rw [hT]; exact hcell) (by rw [hv]; rfl)
    (by obtain ⟨k9, h9, -⟩ := Vm.findClass_spec hcl; exact ⟨k9, h9⟩) (fun z hz => by
      rcases hpass z hz with h | ⟨hz0, nm, hl1, hn1⟩
      · exact Or.inl h
      · obtain ⟨c6, hc6, hcl6⟩ := Cond.classLink_spec hown hl1 e.platform hpl
        obtain ⟨a8, b8, h1, h2, h3⟩ := hn1
        cases Option.some.inj (h1.symm.trans hcl)
        cases Option.some.inj (h2.symm.trans hc6)
        exact Or.inr ⟨hz0, _, hcl6, h3⟩)
  obtain ⟨g₀, hfr⟩ := X'.frames_eq
  have hcell9 : ((T.setVm vm').setFrames (.throwing q :: below)).heap[q]? = some ce := by
    show T.heap[q]? = some ce
    rw [hT]; exact hcell
  have hend : Ended ((T.setVm vm').setFrames (.throwing q :: below)) below (.threw q) := State.frames_setFrames _ (State.cur_lt_of_frames hfr)
  refine ⟨(T.setVm vm').setFrames (.throwing q :: below), ?_, .threw q, X'.here.running, hend, Or.inr ⟨q, rfl, E, ce, locs, hx _ hT (X'.ends _).1.alike, hcell9, hv, hcl, (X'.ends _).1, (X'.ends _).2.mono hc hs, hf⟩⟩
  rw [X.pushThrowing_eq]
  exact st
/-- a thing of a world lies in the heap -/
theorem vx_lt {D : va_G} {cl : List vw_C} {ws : va_W} {H1 : Heap} (h : va_P D cl ws H1) {k : Nat} {q : Nat × va_E} (hk : ws[k]? = some q) : q.1 < H1.size := (h k q hk).lt
end VXS
/-! ===== END ===== -/
/-! ===== BEGIN methods with a table of their own: called by a name, returning or throwing ===== -/
section VXH
/-! vx_backW, vx_callVX, vx_callSX, vx_callVW, vx_runVW, vx_runVX, vx_runSX, vx_ofWH follow the same proofs as their sisters above (Free/Laws.lean, Shelf42/LK1.lean); vx_outP calls Shelf42/NT130.lean (outThrough). -/
section
variable {l : Launch} {R : Room} {p : Program} {e : Env} {below : List Frame} {s : State} {sargs : Array Value} {y : MethodName} {len W9 : Nat}
theorem vx_backW {ws : List Cond} {rm : Room} {Pc : Array Value → State → Prop} {Qc : Array Value → State → Outcome → State → Prop} {XC : String → State → State → Prop} {mc ms : Nat} {free : Addr → Prop} {bytes : ByteArray} {maxL : Nat} {ret : Option FieldType} {hh : List (Nat × Nat × Nat × Nat)}
    (hM : vx_Met l y ws rm Pc Qc XC mc ms free) (hblind : FrameBlind Pc) (hrc : rm.cells = mc) (hrs : rm.slots = ms)
    (hframes : rm.frames + 1 ≤ R.frames) (hlocals : W9 + (maxL + 11) + rm.locals ≤ R.locals)
    (hws : ∀ w ∈ ws, ∀ a' U, s.WarmedH U.vm → w.before a' U = true) (hcode : Cond.codeWith y bytes maxL ret hh ∈ ws) (hinit : ∀ a' U, s.WarmedH U.vm → (Cond.initialized y.cls).before a' U = true) :
    vx_Back l R p e below s sargs y len W9 (PreOf R mc ms Pc) (PostOf Qc mc ms free) (vx_Post XC mc ms free) := by
  intro m meth c A g ig mk a X hg hsize hdg hW hn hp
  have h1 : (headSpec ws rm).pre.before a A.U = true := atoms_intro fun w hw => hws w hw _ _ X.warmed
  have h2 : (Cond.codeWith y bytes maxL ret hh).before a A.U = true := hws _ hcode _ _ X.warmed
  have h3 : (Cond.initialized y.cls).before a A.U = true := hinit _ _ X.warmed
  have h4 : A.cells + (headSpec ws rm).room.cells ≤ R.cells := by rw [show (headSpec ws rm).room.cells = mc from hrc]; exact hp.1
  have h5 : A.slots + (headSpec ws rm).room.slots ≤ R.slots := by rw [show (headSpec ws rm).room.slots = ms from hrs]; exact hp.2.1
  have hPc : Pc a (A.U.calling g mk a) := hblind _ _ _ _ hp.2.2
  obtain ⟨U, Ls, c0, s0⟩ := A
  dsimp only [Pt.U, Pt.locs, Pt.cells, Pt.slots] at h1 h2 h3 h4 h5 X hn hPc ⊢
  obtain ⟨m9, methY, cY, hn9, hmY, hcY, -, hlY, -⟩ := Cond.codeWith_spec h2
  cases Option.some.inj (hn9.symm.trans hn)
  obtain ⟨kY, hkY, -⟩ := className_of_methodNamed hn
  have hinitY : kY.init = .initialized := Cond.initialized_spec (findClass_of_methodNamed hn) hkY h3
  have h : At U g.method c below := by rw [hg]; exact X.here
  have hlocals9 : W9 + (maxL + 11) + (headSpec ws rm).room.locals ≤ R.locals := hlocals
  have happ : (headSpec ws rm).appliesLoose y e.platform (U.calling g mk a) = true :=
    Spec.appliesLoose_calling (g := g) h hdg hn hkY hinitY
      (X.room_calling (g := g) (R' := (headSpec ws rm).room) hsize hmY hcY hframes (by rw [hlY]; omega) h4 h5) h1
  obtain ⟨mid, hmid⟩ := h.above
  have hfr : (U.setTop g).frames = (.java g :: mid) ++ below := by rw [State.frames_setTop' g h.top, hmid]; rfl
  obtain ⟨o, s₂, hsteps, -, hend, hq⟩ := Steps.callFree hM p X.admits X.cas X.clock (acts := []) hfr happ hPc trivial
  have hq' : vx_Q Qc XC mc ms free a (U.calling g mk a) o s₂ := hq
  rw [State.frames_setTop' g h.top] at hend
  obtain ⟨g₀, hg0⟩ := Option.isSome_iff_exists.mp h.top
  obtain ⟨r, hr⟩ := State.topJava?_eq_some.mp hg0
  have hr' : (({ U with heap := s₂.heap, slotsUsed := s₂.slotsUsed } : State).setVm s₂.vm).frames = .java g₀ :: r := hr
  rcases hq' with ⟨hqc, L, hfe, hL⟩ | ⟨q, rfl, E, ce, L, hx, hce, hcv, hcl, hW₂, hsm, hL⟩
  · obtain ⟨⟨v, rfl⟩, hW₂, e2, q2, q3, q4, q5, q6⟩ := id hfe
    have e3 : s₂ = ({ (U.calling g mk a).setFrames s₂.frames with heap := s₂.heap, slotsUsed := s₂.slotsUsed } : State).setVm s₂.vm := by
      have : s₂ = ({ s₂ with vm := (U.calling g mk a).vm } : State).setVm s₂.vm := rfl
      rw [e2] at this
      exact this
    obtain ⟨c₂, i₂, len₂, hc₂, hd₂, hf₂⟩ := hend
    have hW' : U.WarmedH s₂.vm := hW₂
    have hcc : c₂ = c := by
      have h1 : s₂.code? g.method = U.code? g.method := by
        rw [State.code?_eq, State.code?_eq, hW'.alike.method?]
      exact Option.some.inj (hc₂.symm.trans (h1.trans h.code))
    subst hcc
    have hlen : len₂ = len := by rw [hdg] at hd₂; cases hd₂; rfl
    subst hlen
    have hs₂ : s₂ = (({ U with heap := s₂.heap, slotsUsed := s₂.slotsUsed } : State).setVm s₂.vm).setTop { g with pc := g.pc + len₂, stack := v.toList ++ g.stack } := by
      refine e3.trans ?_
      rw [hf₂, State.calling_eq h.top, State.setFrames_setFrames, State.setTop_of_frames _ hr', hr]
      rfl
    have hsame : U.sameButNew ({ U with heap := s₂.heap, slotsUsed := s₂.slotsUsed } : State) L mc ms := by
      refine ⟨?_, q2, q3, q4, q5, q6⟩
      obtain ⟨t, ht, -⟩ := State.frames_cons hr
      show ({ U with heap := s₂.heap, slotsUsed := s₂.slotsUsed } : State) = { U.setFrames U.frames with heap := s₂.heap, slotsUsed := s₂.slotsUsed }
      rw [State.setFrames_self ht]
    subst hg
    refine Or.inl ⟨v, ⟨(({ U with heap := s₂.heap, slotsUsed := s₂.slotsUsed } : State).setVm s₂.vm), Ls ++ L, c0 + mc, s0 + ms⟩,
      ⟨X.admits, X.cas, X.clock, X.frames, X.room, X.hears, X.method, X.code, (X.here.setHeapUsed s₂.heap s₂.slotsUsed).setVm hW'.alike, X.tail, State.WarmedH.trans X.warmed hW', X.limits, X.bytes, X.same.trans (hsame.setVm s.vm)⟩,
      ⟨g, mk, s₂, L, rfl, rfl, hqc, rfl, hL, rfl, rfl⟩, ?_⟩
    show Steps p.tables e below _ ((({ U with heap := s₂.heap, slotsUsed := s₂.slotsUsed } : State).setVm s₂.vm).setTop { g with pc := g.pc + len₂, stack := v.toList ++ g.stack })
    rw [← hs₂]
    exact hsteps
  · obtain ⟨e2, q2, q3, q4, q5, q6⟩ := id hsm
    have e3 : s₂ = ({ (U.calling g mk a).setFrames s₂.frames with heap := s₂.heap, slotsUsed := s₂.slotsUsed } : State).setVm s₂.vm := by
      have : s₂ = ({ s₂ with vm := (U.calling g mk a).vm } : State).setVm s₂.vm := rfl
      rw [e2] at this
      exact this
    have hf₂ : s₂.frames = .throwing q :: .java g :: U.frames.tail := hend
    have hW' : U.WarmedH s₂.vm := hW₂
    have hs₂ : s₂ = ((({ U with heap := s₂.heap, slotsUsed := s₂.slotsUsed } : State).setVm s₂.vm).setTop g).pushFrame (.throwing q) := by
      refine e3.trans ?_
      rw [hf₂, State.calling_eq h.top, State.setFrames_setFrames, State.pushFrame, State.frames_setTop _ hr', State.setTop_of_frames _ hr', State.setFrames_setFrames, hr]
      rfl
    have hsame : U.sameButNew ({ U with heap := s₂.heap, slotsUsed := s₂.slotsUsed } : State) L mc ms := by
      refine ⟨?_, q2, q3, q4, q5, q6⟩
      obtain ⟨t, ht, -⟩ := State.frames_cons hr
      show ({ U with heap := s₂.heap, slotsUsed := s₂.slotsUsed } : State) = { U.setFrames U.frames with heap := s₂.heap, slotsUsed := s₂.slotsUsed }
      rw [State.setFrames_self ht]
    subst hg
    refine Or.inr ⟨q, ⟨(({ U with heap := s₂.heap, slotsUsed := s₂.slotsUsed } : State).setVm s₂.vm), Ls ++ L, c0 + mc, s0 + ms⟩,
      ⟨X.admits, X.cas, X.clock, X.frames, X.room, X.hears, X.method, X.code, (X.here.setHeapUsed s₂.heap s₂.slotsUsed).setVm hW'.alike, X.tail, State.WarmedH.trans X.warmed hW', X.limits, X.bytes, X.same.trans (hsame.setVm s.vm)⟩,
      ⟨g, mk, s₂, L, E, ce, rfl, rfl, hx, hce, hcv, hcl, rfl, hL, rfl, rfl⟩, ?_⟩
    show Steps p.tables e below _ (((({ U with heap := s₂.heap, slotsUsed := s₂.slotsUsed } : State).setVm s₂.vm).setTop g).pushFrame (.throwing q))
    rw [← hs₂]
    exact hsteps
end
variable {p : Program} {l : Launch} {e : Env} {R : Room} {s : State} {m : MethodId} {args : Array Value} {below : List Frame} {meth : Method} {c : Code} {T : State} {H : Heap} {locs : List Loc} {cells slots : Nat}
theorem vx_callVX (X : Stand p l e R s m args below meth c T locs cells slots) (hexec : p.tables.exec = Jvm.exec) {own C : String} {index : Nat} {y : MethodName} {bytes : ByteArray} {maxL : Nat} {ret : Option FieldType} {hh : List (Nat × Nat × Nat × Nat)}
    (hown : s.vm.findClass own = some m.cls) (hlink : (Cond.methodLink own index y).before args s = true) (hinst : (Cond.instanceMethod y).before args s = true) (hsel : (Cond.selects C y y).before args s = true)
    (hcode : (Cond.codeWith y bytes maxL ret hh).before args s = true) (hy : y.cls ≠ "java/lang/invoke/MethodHandle" ∧ y.cls ≠ "java/lang/invoke/VarHandle")
    {W9 : Nat} {Pre : Pt → Array Value → Prop} {Post : Pt → Array Value → Option Value → Pt → Prop} {PostX : Pt → Array Value → Addr → Pt → Prop} (hK : vx_Back l R p e below s args y 3 W9 Pre Post PostX)
    {b : Addr} {cellB : Cell} (hcell : T.heap[b]? = some cellB) (hobj : cellB.vm.isStatics = false) (hcls : s.vm.findClass C = some cellB.cls)
    {g : JFrame} (hg : g.method = m) (hsize : g.locals.size = c.maxLocals) {argsL rest : List Value} (hlen : ∀ sig, parseMethodDescriptor y.desc = some sig → argsL.length = sig.parameters.length)
    (hstack : g.stack = argsL.reverse ++ .ref b :: rest) (hW : 2 * g.monitorRoom + (rest.map fun v => v.category).sum ≤ W9) (hdg : decode c.code g.pc = .ok (.invokevirtual index, 3))
    (hpre : ∀ vm₁, s.WarmedH vm₁ → Pre ⟨T.setVm vm₁, locs, cells, slots⟩ (Value.ref b :: argsL).toArray) :
    (∃ (v : Option Value) (vm₁ : Vm) (B : Pt), s.WarmedH vm₁ ∧ Stand p l e R s m args below meth c B.U B.locs B.cells B.slots ∧ Post ⟨T.setVm vm₁, locs, cells, slots⟩ (Value.ref b :: argsL).toArray v B ∧
      ∀ target, Steps p.tables e below (B.U.setTop { g with pc := g.pc + 3, stack := v.toList ++ rest }) target → Steps p.tables e below (T.setTop g) target) ∨
    (∃ (q : Addr) (vm₁ : Vm) (B : Pt), s.WarmedH vm₁ ∧ Stand p l e R s m args below meth c B.U B.locs B.cells B.slots ∧ PostX ⟨T.setVm vm₁, locs, cells, slots⟩ (Value.ref b :: argsL).toArray q B ∧
      Steps p.tables e below (T.setTop g) ((B.U.setTop { g with stack := rest }).pushFrame (.throwing q))) := by
  obtain ⟨mk, methM, hnamed, hmethM, hstM, habM⟩ := Cond.instanceMethod_spec hinst
  obtain ⟨m8, methM', cM, hn8, hmethM', -, -, -, -, -, -, hsigM⟩ := Cond.codeWith_spec hcode
  cases Option.some.inj (hn8.symm.trans hnamed)
  cases hmethM.symm.trans hmethM'
  obtain ⟨c2, r2, m2, q1, q2, q3, q4, kP, hkP, hkPi⟩ := Cond.selects_spec hsel
  cases hcls.symm.trans q1
  cases (State.methodFound?_of_named hnamed hy).symm.trans q2
  cases hnamed.symm.trans q3
  have hselP : selectMethod e.platform s.vm cellB.cls mk = .method mk := by rw [Launch.admits_selectMethod X.admits]; exact q4
  obtain ⟨vm₁, X₁, hstep₁⟩ := X.invokevirtual hexec hown hlink hnamed hmethM hstM hkP hkPi hy (a := b) (cell := cellB) hcell
    (fun z h => by rw [h] at hobj; cases hobj) hselP hmethM habM hkP hkPi (g := g) hg (argsL := argsL) (rest := rest) (hlen _ hsigM) hstack hdg
  rcases hK m meth c ⟨T.setVm vm₁, locs, cells, slots⟩ { g with stack := rest } (.invokevirtual index) mk (Value.ref b :: argsL).toArray X₁ hg hsize hdg hW (X₁.named hnamed) (hpre vm₁ X₁.warmed) with ⟨v, B, X', hpost, hsteps⟩ | ⟨q, B, X', hpost, hsteps⟩
  · exact Or.inl ⟨v, vm₁, B, X₁.warmed, X', hpost, fun target h => hstep₁ _ fun acts => by rw [doInvoke_state]; exact hsteps.trans h⟩
  · exact Or.inr ⟨q, vm₁, B, X₁.warmed, X', hpost, hstep₁ _ fun acts => by rw [doInvoke_state]; exact hsteps⟩
theorem vx_callSX (X : Stand p l e R s m args below meth c T locs cells slots) (hexec : p.tables.exec = Jvm.exec) {own : String} {index : Nat} {y : MethodName} {bytes : ByteArray} {maxL : Nat} {ret : Option FieldType} {hh : List (Nat × Nat × Nat × Nat)}
    (hown : s.vm.findClass own = some m.cls) (hlink : (Cond.methodLink own index y).before args s = true) (hstat : (Cond.static y).before args s = true) (hinit : (Cond.initialized y.cls).before args s = true)
    (hcode : (Cond.codeWith y bytes maxL ret hh).before args s = true) (hy : y.cls ≠ "java/lang/invoke/MethodHandle" ∧ y.cls ≠ "java/lang/invoke/VarHandle")
    {W9 : Nat} {Pre : Pt → Array Value → Prop} {Post : Pt → Array Value → Option Value → Pt → Prop} {PostX : Pt → Array Value → Addr → Pt → Prop} (hK : vx_Back l R p e below s args y 3 W9 Pre Post PostX)
    {g : JFrame} (hg : g.method = m) (hsize : g.locals.size = c.maxLocals) {argsL rest : List Value} (hlen : ∀ sig, parseMethodDescriptor y.desc = some sig → argsL.length = sig.parameters.length)
    (hstack : g.stack = argsL.reverse ++ rest) (hW : 2 * g.monitorRoom + (rest.map fun v => v.category).sum ≤ W9) (hdg : decode c.code g.pc = .ok (.invokestatic index, 3))
    (hpre : ∀ vm₁, s.WarmedH vm₁ → Pre ⟨T.setVm vm₁, locs, cells, slots⟩ argsL.toArray) :
    (∃ (v : Option Value) (vm₁ : Vm) (B : Pt), s.WarmedH vm₁ ∧ Stand p l e R s m args below meth c B.U B.locs B.cells B.slots ∧ Post ⟨T.setVm vm₁, locs, cells, slots⟩ argsL.toArray v B ∧
      ∀ target, Steps p.tables e below (B.U.setTop { g with pc := g.pc + 3, stack := v.toList ++ rest }) target → Steps p.tables e below (T.setTop g) target) ∨
    (∃ (q : Addr) (vm₁ : Vm) (B : Pt), s.WarmedH vm₁ ∧ Stand p l e R s m args below meth c B.U B.locs B.cells B.slots ∧ PostX ⟨T.setVm vm₁, locs, cells, slots⟩ argsL.toArray q B ∧
      Steps p.tables e below (T.setTop g) ((B.U.setTop { g with stack := rest }).pushFrame (.throwing q))) := by
  obtain ⟨mk, methM, cM, hnamed, hmethM, -, -, -, -, -, -, hsigM⟩ := Cond.codeWith_spec hcode
  have hstatic : methM.isStatic = true := Cond.static_spec hnamed hmethM hstat
  obtain ⟨kP, hkP, -⟩ := className_of_methodNamed hnamed
  have hinitP : kP.init = .initialized := Cond.initialized_spec (findClass_of_methodNamed hnamed) hkP hinit
  obtain ⟨vm₁, X₁, hstep₁⟩ := X.invokestatic hexec hown hlink hnamed hmethM hstatic hkP hinitP hy (g := g) hg (argsL := argsL) (rest := rest) (hlen _ hsigM) hstack hdg
  rcases hK m meth c ⟨T.setVm vm₁, locs, cells, slots⟩ { g with stack := rest } (.invokestatic index) mk argsL.toArray X₁ hg hsize hdg hW (X₁.named hnamed) (hpre vm₁ X₁.warmed) with ⟨v, B, X', hpost, hsteps⟩ | ⟨q, B, X', hpost, hsteps⟩
  · exact Or.inl ⟨v, vm₁, B, X₁.warmed, X', hpost, fun target h => hstep₁ _ fun acts => by rw [doInvoke_state]; exact hsteps.trans h⟩
  · exact Or.inr ⟨q, vm₁, B, X₁.warmed, X', hpost, hstep₁ _ fun acts => by rw [doInvoke_state]; exact hsteps⟩
theorem vx_callVW (X : Stand p l e R s m args below meth c T locs cells slots) (hexec : p.tables.exec = Jvm.exec) {own C : String} {index : Nat} {y : MethodName} {bytes : ByteArray} {maxL : Nat} {ret : Option FieldType} {hh : List (Nat × Nat × Nat × Nat)}
    (hown : s.vm.findClass own = some m.cls) (hlink : (Cond.methodLink own index y).before args s = true) (hinst : (Cond.instanceMethod y).before args s = true) (hsel : (Cond.selects C y y).before args s = true)
    (hcode : (Cond.codeWith y bytes maxL ret hh).before args s = true) (hy : y.cls ≠ "java/lang/invoke/MethodHandle" ∧ y.cls ≠ "java/lang/invoke/VarHandle")
    {W9 : Nat} {Pre : Pt → Array Value → Prop} {Post : Pt → Array Value → Option Value → Pt → Prop} (hK : Back l R p e below s args y 3 W9 Pre Post)
    {b : Addr} {cellB : Cell} (hcell : T.heap[b]? = some cellB) (hobj : cellB.vm.isStatics = false) (hcls : s.vm.findClass C = some cellB.cls)
    {g : JFrame} (hg : g.method = m) (hsize : g.locals.size = c.maxLocals) {argsL rest : List Value} (hlen : ∀ sig, parseMethodDescriptor y.desc = some sig → argsL.length = sig.parameters.length)
    (hstack : g.stack = argsL.reverse ++ .ref b :: rest) (hW : 2 * g.monitorRoom + (rest.map fun v => v.category).sum ≤ W9) (hdg : decode c.code g.pc = .ok (.invokevirtual index, 3))
    (hpre : ∀ vm₁, s.WarmedH vm₁ → Pre ⟨T.setVm vm₁, locs, cells, slots⟩ (Value.ref b :: argsL).toArray) :
    ∃ (v : Option Value) (vm₁ : Vm) (B : Pt), s.WarmedH vm₁ ∧ Stand p l e R s m args below meth c B.U B.locs B.cells B.slots ∧ Post ⟨T.setVm vm₁, locs, cells, slots⟩ (Value.ref b :: argsL).toArray v B ∧
      ∀ target, Steps p.tables e below (B.U.setTop { g with pc := g.pc + 3, stack := v.toList ++ rest }) target → Steps p.tables e below (T.setTop g) target := by
  obtain ⟨mk, methM, hnamed, hmethM, hstM, habM⟩ := Cond.instanceMethod_spec hinst
  obtain ⟨m8, methM', cM, hn8, hmethM', -, -, -, -, -, -, hsigM⟩ := Cond.codeWith_spec hcode
  cases Option.some.inj (hn8.symm.trans hnamed)
  cases hmethM.symm.trans hmethM'
  obtain ⟨c2, r2, m2, q1, q2, q3, q4, kP, hkP, hkPi⟩ := Cond.selects_spec hsel
  cases hcls.symm.trans q1
  cases (State.methodFound?_of_named hnamed hy).symm.trans q2
  cases hnamed.symm.trans q3
  have hselP : selectMethod e.platform s.vm cellB.cls mk = .method mk := by rw [Launch.admits_selectMethod X.admits]; exact q4
  obtain ⟨vm₁, X₁, hstep₁⟩ := X.invokevirtual hexec hown hlink hnamed hmethM hstM hkP hkPi hy (a := b) (cell := cellB) hcell
    (fun z h => by rw [h] at hobj; cases hobj) hselP hmethM habM hkP hkPi (g := g) hg (argsL := argsL) (rest := rest) (hlen _ hsigM) hstack hdg
  obtain ⟨v, B, X', hpost, hsteps⟩ := hK m meth c ⟨T.setVm vm₁, locs, cells, slots⟩ { g with stack := rest } (.invokevirtual index) mk (Value.ref b :: argsL).toArray X₁ hg hsize hdg hW (X₁.named hnamed) (hpre vm₁ X₁.warmed)
  exact ⟨v, vm₁, B, X₁.warmed, X', hpost, fun target h => hstep₁ _ fun acts => by rw [doInvoke_state]; exact hsteps.trans h⟩
abbrev vx_CVW (R : Room) (s : State) (args : Array Value) (own C : String) (index : Nat) (y : MethodName) (bytes : ByteArray) (maxL : Nat) (ret : Option FieldType) (hh : List (Nat × Nat × Nat × Nat)) (ws : List Cond) (rm : Room) (mc ms n : Nat) : Prop :=
  (rm.cells = mc ∧ rm.slots = ms ∧ rm.frames + 1 ≤ R.frames ∧ 8 + (maxL + 11) + rm.locals ≤ R.locals ∧ (∀ w ∈ ws, ∀ (a' : Array Value) (U : State), s.WarmedH U.vm → w.before a' U = true) ∧ Cond.codeWith y bytes maxL ret hh ∈ ws) ∧
  (Cond.codeWith y bytes maxL ret hh).before args s = true ∧ (Cond.initialized y.cls).before args s = true ∧ (y.cls ≠ "java/lang/invoke/MethodHandle" ∧ y.cls ≠ "java/lang/invoke/VarHandle") ∧
  (∀ sig, parseMethodDescriptor y.desc = some sig → n = sig.parameters.length) ∧ (Cond.methodLink own index y).before args s = true ∧ (Cond.instanceMethod y).before args s = true ∧ (Cond.selects C y y).before args s = true
theorem vx_cwVW {own C : String} {index maxL mc ms : Nat} {y : MethodName} {bytes : ByteArray} {ret : Option FieldType} {hh : List (Nat × Nat × Nat × Nat)} {Ts ws ws' : List Cond} {rm : Room} (n : Nat) (ht : ∀ w ∈ Ts, w.before args s = true) (hT : GoodIn Ts (wsV own index C y ws)) (hw : ws = Cond.codeWith y bytes maxL ret hh :: ws') (hrc : rm.cells = mc) (hrs : rm.slots = ms)
    (hd : y.cls = C ∧ y.cls ≠ "java/lang/invoke/MethodHandle" ∧ y.cls ≠ "java/lang/invoke/VarHandle" ∧ (parseMethodDescriptor y.desc).map (fun d => d.parameters.length) = some n) (hR : rm.frames + 1 ≤ R.frames ∧ 8 + (maxL + 11) + rm.locals ≤ R.locals) :
    vx_CVW R s args own C index y bytes maxL ret hh ws rm mc ms n := by
  obtain ⟨hC, hd⟩ := hd
  subst hC
  have ok : ∀ w ∈ wsV own index y.cls y ws, w.before args s = true := fun w h => ht w (hT w h).1
  have hG : GoodIn Ts ws := fun w h => hT w (by unfold wsV; exact List.mem_append_right _ h)
  have hc : Cond.codeWith y bytes maxL ret hh ∈ ws := by rw [hw]; exact List.mem_cons_self
  refine ⟨⟨hrc, hrs, hR.1, hR.2, pay_in ht hG, hc⟩, ht _ (hG _ hc).1, ok _ (by simp [wsV]), ⟨hd.1, hd.2.1⟩, fun sig h => ?_, ok _ (by simp [wsV]), ok _ (by simp [wsV]), ok _ (by simp [wsV])⟩
  have h2 := hd.2.2
  rw [h] at h2
  exact (Option.some.inj h2).symm
theorem vx_runVW {y : MethodName} {bytes cc : ByteArray} {maxL nL mc ms n index : Nat} {ret : Option FieldType} {hh : List (Nat × Nat × Nat × Nat)} {ws : List Cond} {rm : Room} {Pc : Array Value → State → Prop} {Qc : Array Value → State → Outcome → State → Prop} {free : Addr → Prop} {Ts : List Cond} {own C : String} {b : Addr} {As rest : List Value} {g : JFrame}
    (S : CallFix p m c cc nL s args Ts own) (hM : Met l y ws rm Pc Qc mc ms free) (cw : vx_CVW R s args own C index y bytes maxL ret hh ws rm mc ms n) (hp : PreV s H C b Pc As)
    (hg : g.method = m) (hn : As.length = n) (hsize : g.locals.size = nL) (hstack : g.stack = As.reverse ++ .ref b :: rest) (hW : 2 * g.monitorRoom + (rest.map fun v => v.category).sum ≤ 8) (hdg : decode cc g.pc = .ok (.invokevirtual index, 3)) (hf : cells + mc ≤ R.cells ∧ slots + ms ≤ R.slots) :
    va_Run p l e R s m args below meth c H locs cells slots mc ms g rest (Qc (Value.ref b :: As).toArray) free := by
  obtain ⟨⟨hrc, hrs, hfr, hlo, hws, hcw⟩, hcode, hini, hy, hlen, hl, hin, hse⟩ := cw
  have hK : Back l R p e below s args y 3 8 (PreOf R mc ms Pc) (PostOf Qc mc ms free) := va_backW (hh := hh) (bytes := bytes) (maxL := maxL) (ret := ret) hM hp.1 hrc hrs hfr hlo hws hcw (fun a' U hW => word_at hW (Or.inl (by first | rfl | simp [Cond.onTables, Cond.keeps, Cond.steady])) hini)
  obtain ⟨hx, hb, hml, ho, -⟩ := S
  obtain ⟨-, ⟨cellB, hcB, hoB, hclB⟩, hPc⟩ := hp
  intro T hT X
  obtain ⟨v, vm₁, ⟨U', l2, c2, s2⟩, hW₁, X', ⟨g', mk, t, L, e1, e2, hq, h1, hL, h2, h3⟩, st⟩ := vx_callVW X hx (C := C) (hh := hh) (bytes := bytes) (maxL := maxL) (ret := ret) ho hl hin hse hcode hy hK (by rw [hT]; exact hcB) hoB hclB hg (hsize.trans hml.symm) (argsL := As) (rest := rest) (fun sig h => hn.trans (hlen sig h)) hstack hW (by rw [hb]; exact hdg)
    (fun vm₁ hW₁ => ⟨hf.1, hf.2, hPc (T.setVm vm₁) hT hW₁⟩)
  dsimp only [Pt.U, Pt.locs, Pt.cells, Pt.slots] at X' e1 e2 h1 h2 h3 st
  subst h1; subst h2; subst h3
  exact ⟨v, (T.setVm vm₁).calling g' mk (Value.ref b :: As).toArray, t, U', L, hT, X', hL, e1, e2, hq, st⟩
section
variable {y : MethodName} {bytes cc : ByteArray} {maxL nL mc ms n index : Nat} {ret : Option FieldType} {ws : List Cond} {rm : Room} {Pc : Array Value → State → Prop} {Qc : Array Value → State → Outcome → State → Prop} {XC : String → State → State → Prop} {free : Addr → Prop} {Ts : List Cond} {own C : String} {b : Addr} {As rest : List Value} {g : JFrame}
theorem vx_runVX {hh : List (Nat × Nat × Nat × Nat)} (S : CallFix p m c cc nL s args Ts own) (hM : vx_Met l y ws rm Pc Qc XC mc ms free) (cw : vx_CVW R s args own C index y bytes maxL ret hh ws rm mc ms n) (hp : PreV s H C b Pc As)
    (hg : g.method = m) (hn : As.length = n) (hsize : g.locals.size = nL) (hstack : g.stack = As.reverse ++ .ref b :: rest) (hW : 2 * g.monitorRoom + (rest.map fun v => v.category).sum ≤ 8) (hdg : decode cc g.pc = .ok (.invokevirtual index, 3)) (hf : cells + mc ≤ R.cells ∧ slots + ms ≤ R.slots) :
    vx_Run p l e R s m args below meth c H locs cells slots mc ms g rest (Qc (Value.ref b :: As).toArray) XC free := by
  obtain ⟨⟨hrc, hrs, hfr, hlo, hws, hcw⟩, hcode, hini, hy, hlen, hl, hin, hse⟩ := cw
  have hK : vx_Back l R p e below s args y 3 8 (PreOf R mc ms Pc) (PostOf Qc mc ms free) (vx_Post XC mc ms free) := vx_backW (hh := hh) (bytes := bytes) (maxL := maxL) (ret := ret) hM hp.1 hrc hrs hfr hlo hws hcw (fun a' U hW => word_at hW (Or.inl (by first | rfl | simp [Cond.onTables, Cond.keeps, Cond.steady])) hini)
  obtain ⟨hx, hb, hml, ho, -⟩ := S
  obtain ⟨-, ⟨cellB, hcB, hoB, hclB⟩, hPc⟩ := hp
  intro T hT X
  rcases vx_callVX X hx (C := C) (hh := hh) (bytes := bytes) (maxL := maxL) (ret := ret) ho hl hin hse hcode hy hK (by rw [hT]; exact hcB) hoB hclB hg (hsize.trans hml.symm) (argsL := As) (rest := rest) (fun sig h => hn.trans (hlen sig h)) hstack hW (by rw [hb]; exact hdg)
    (fun vm₁ hW₁ => ⟨hf.1, hf.2, hPc (T.setVm vm₁) hT hW₁⟩) with ⟨v, vm₁, ⟨U', l2, c2, s2⟩, hW₁, X', ⟨g', mk, t, L, e1, e2, hq, h1, hL, h2, h3⟩, st⟩ | ⟨q, vm₁, ⟨U', l2, c2, s2⟩, hW₁, X', ⟨g', mk, t, L, E, ce, e1, e2, hq, hce, hcv, hcl, h1, hL, h2, h3⟩, st⟩
  · dsimp only [Pt.U, Pt.locs, Pt.cells, Pt.slots] at X' e1 e2 h1 h2 h3 st
    subst h1; subst h2; subst h3
    exact Or.inl ⟨v, (T.setVm vm₁).calling g' mk (Value.ref b :: As).toArray, t, U', L, hT, X', hL, e1, e2, hq, st⟩
  · dsimp only [Pt.U, Pt.locs, Pt.cells, Pt.slots] at X' e1 e2 h1 h2 h3 st hcl
    subst h1; subst h2; subst h3
    exact Or.inr ⟨q, (T.setVm vm₁).calling g' mk (Value.ref b :: As).toArray, t, U', L, E, ce, hT, X', hL, e1, e2, hq, hce, hcv, vx_cls hW₁ hcl, st⟩
theorem vx_runSX {hh : List (Nat × Nat × Nat × Nat)} (S : CallFix p m c cc nL s args Ts own) (hM : vx_Met l y ws rm Pc Qc XC mc ms free) (cw : vx_CSW R s args own index y bytes maxL ret hh ws rm mc ms n) (hp : PreS s H Pc As)
    (hg : g.method = m) (hn : As.length = n) (hsize : g.locals.size = nL) (hstack : g.stack = As.reverse ++ rest) (hW : 2 * g.monitorRoom + (rest.map fun v => v.category).sum ≤ 8) (hdg : decode cc g.pc = .ok (.invokestatic index, 3)) (hf : cells + mc ≤ R.cells ∧ slots + ms ≤ R.slots) :
    vx_Run p l e R s m args below meth c H locs cells slots mc ms g rest (Qc As.toArray) XC free := by
  obtain ⟨⟨hrc, hrs, hfr, hlo, hws, hcw⟩, hcode, hini, hy, hlen, hl, hstt⟩ := cw
  have hK : vx_Back l R p e below s args y 3 8 (PreOf R mc ms Pc) (PostOf Qc mc ms free) (vx_Post XC mc ms free) := vx_backW (hh := hh) (bytes := bytes) (maxL := maxL) (ret := ret) hM hp.1 hrc hrs hfr hlo hws hcw (fun a' U hW => word_at hW (Or.inl (by first | rfl | simp [Cond.onTables, Cond.keeps, Cond.steady])) hini)
  obtain ⟨hx, hb, hml, ho, -⟩ := S
  intro T hT X
  rcases vx_callSX X hx (hh := hh) (bytes := bytes) (maxL := maxL) (ret := ret) ho hl hstt hini hcode hy hK hg (hsize.trans hml.symm) (argsL := As) (rest := rest) (fun sig h => hn.trans (hlen sig h)) hstack hW (by rw [hb]; exact hdg)
    (fun vm₁ hW₁ => ⟨hf.1, hf.2, hp.2 (T.setVm vm₁) hT hW₁⟩) with ⟨v, vm₁, ⟨U', l2, c2, s2⟩, hW₁, X', ⟨g', mk, t, L, e1, e2, hq, h1, hL, h2, h3⟩, st⟩ | ⟨q, vm₁, ⟨U', l2, c2, s2⟩, hW₁, X', ⟨g', mk, t, L, E, ce, e1, e2, hq, hce, hcv, hcl, h1, hL, h2, h3⟩, st⟩
  · dsimp only [Pt.U, Pt.locs, Pt.cells, Pt.slots] at X' e1 e2 h1 h2 h3 st
    subst h1; subst h2; subst h3
    exact Or.inl ⟨v, (T.setVm vm₁).calling g' mk As.toArray, t, U', L, hT, X', hL, e1, e2, hq, st⟩
  · dsimp only [Pt.U, Pt.locs, Pt.cells, Pt.slots] at X' e1 e2 h1 h2 h3 st hcl
    subst h1; subst h2; subst h3
    exact Or.inr ⟨q, (T.setVm vm₁).calling g' mk As.toArray, t, U', L, E, ce, hT, X', hL, e1, e2, hq, hce, hcv, vx_cls hW₁ hcl, st⟩
end
end VXH
theorem vx_ofWH {l : Launch} {y : MethodName} {ws ws' : List Cond} {rm : Room} {Pc : Array Value → State → Prop} {Qc : Array Value → State → Outcome → State → Prop} {XC : String → State → State → Prop} {mc ms : Nat} {free : Addr → Prop} {cc : ByteArray} {maxL : Nat} {ret : Option FieldType} {hh : List (Nat × Nat × Nat × Nat)}
    (hy : plainName y.cls = true) (hw : ws = Cond.codeWith y cc maxL ret hh :: ws')
    (body : ∀ p e s m args below meth c s₁, BodyLoose p l y (headSpec ws rm) cc maxL ret e s m args below meth c s₁ → c.maxLocals = maxL → Pc args s →
      W p l e (headSpec ws rm).room s m args below meth c s.heap [] 0 0 (vx_MQ below Qc XC args s mc ms free) (entryFrame m args maxL)) : vx_Met l y ws rm Pc Qc XC mc ms free := by
  refine MetFree.of_bodyS (code := cc) (maxLocals := maxL) (ret := ret) hy ?_ ?_
  · intro args s m h hn
    obtain ⟨m9, meth, c, hn9, h1, h2, h3, h4, -, h5, h6, -⟩ := Cond.codeWith_spec (atoms_spec (ws := ws) h _ (by rw [hw]; exact List.mem_cons_self))
    cases hn.symm.trans hn9
    exact ⟨meth, c, h1, h2, h3, h4, h5, h6⟩
  · intro p e s m args below meth c s₁ B hml hP _
    have hh0 : s₁.heap = s.heap := by rw [B.state]; rfl
    obtain ⟨t, a1, o, b1, b2, b3⟩ := body p e s m args below meth c s₁ B hml hP s₁ hh0 (Stand.of_body B)
    exact ⟨t, o, a1, b1, b2, b3⟩
/-! ===== END ===== -/
end
section
def RK : String := "ReactionDesk"
def RG : String := "ReactionDesk$Program"
def RX : String := "ReactionDesk$Reaction"
def RC : String := "ReactionDesk$Codes"
def RO : String := "ReactionDesk$Outcome"
def RM : String := "ReactionDeskModel"
def RL : String := "ReactionDeskLaw"
def RI : String := "java/lang/Integer"
def TK : u_T := fun k => match k with
  | 0 => ("ReactionDesk", "program", "LReactionDesk$Program;", true)
  | 1 => ("ReactionDesk", "reaction", "LReactionDesk$Reaction;", true)
  | 2 => ("ReactionDesk", "phase", "I", false)
  | 3 => ("ReactionDesk", "reactions", "I", false)
  | 4 => ("ReactionDesk", "latestKnown", "I", false)
  | _ => ("ReactionDesk", "latestPresent", "I", false)
def tyK : Nat → FieldType := fun k => match k with
  | 0 => .object "ReactionDesk$Program"
  | 1 => .object "ReactionDesk$Reaction"
  | 2 => .int
  | 3 => .int
  | 4 => .int
  | _ => .int
theorem nmK : ∀ a, a < 6 → ∀ b, b < 6 → a ≠ b → (TK a).2.1 ≠ (TK b).2.1 := by decide +kernel
theorem tyK_ok : ∀ k, k < 6 → parseFieldDescriptor (TK k).2.2.1 = some (tyK k) := by decide +kernel
def TG : u_T := fun k => match k with
  | 0 => ("ReactionDesk$Program", "sorts", "[I", true)
  | 1 => ("ReactionDesk$Program", "operands", "[I", true)
  | 2 => ("ReactionDesk$Program", "lastParts", "[I", true)
  | 3 => ("ReactionDesk$Program", "weights", "[I", true)
  | 4 => ("ReactionDesk$Program", "weightsBefore", "[I", true)
  | 5 => ("ReactionDesk$Program", "pausesWithin", "[I", true)
  | 6 => ("ReactionDesk$Program", "startCodes", "[I", true)
  | 7 => ("ReactionDesk$Program", "open", "[I", true)
  | 8 => ("ReactionDesk$Program", "missing", "[I", true)
  | 9 => ("ReactionDesk$Program", "levels", "I", false)
  | 10 => ("ReactionDesk$Program", "size", "I", false)
  | 11 => ("ReactionDesk$Program", "due", "I", false)
  | 12 => ("ReactionDesk$Program", "pauseCount", "I", false)
  | 13 => ("ReactionDesk$Program", "loopCount", "I", false)
  | _ => ("ReactionDesk$Program", "weight", "I", false)
def tyG : Nat → FieldType := fun k => match k with
  | 0 => .array .int
  | 1 => .array .int
  | 2 => .array .int
  | 3 => .array .int
  | 4 => .array .int
  | 5 => .array .int
  | 6 => .array .int
  | 7 => .array .int
  | 8 => .array .int
  | 9 => .int
  | 10 => .int
  | 11 => .int
  | 12 => .int
  | 13 => .int
  | _ => .int
theorem nmG : ∀ a, a < 15 → ∀ b, b < 15 → a ≠ b → (TG a).2.1 ≠ (TG b).2.1 := by decide +kernel
theorem tyG_ok : ∀ k, k < 15 → parseFieldDescriptor (TG k).2.2.1 = some (tyG k) := by decide +kernel
def TX : u_T := fun k => match k with
  | 0 => ("ReactionDesk$Reaction", "program", "LReactionDesk$Program;", true)
  | 1 => ("ReactionDesk$Reaction", "localStatus", "[I", true)
  | 2 => ("ReactionDesk$Reaction", "selection", "I", false)
  | 3 => ("ReactionDesk$Reaction", "nextSelection", "I", false)
  | 4 => ("ReactionDesk$Reaction", "begun", "Z", false)
  | 5 => ("ReactionDesk$Reaction", "known", "I", false)
  | 6 => ("ReactionDesk$Reaction", "present", "I", false)
  | 7 => ("ReactionDesk$Reaction", "learned", "Z", false)
  | _ => ("ReactionDesk$Reaction", "whole", "J", false)
def tyX : Nat → FieldType := fun k => match k with
  | 0 => .object "ReactionDesk$Program"
  | 1 => .array .int
  | 2 => .int
  | 3 => .int
  | 4 => .boolean
  | 5 => .int
  | 6 => .int
  | 7 => .boolean
  | _ => .long
theorem nmX : ∀ a, a < 9 → ∀ b, b < 9 → a ≠ b → (TX a).2.1 ≠ (TX b).2.1 := by decide +kernel
theorem tyX_ok : ∀ k, k < 9 → parseFieldDescriptor (TX k).2.2.1 = some (tyX k) := by decide +kernel
def TM : u_T := fun k => match k with
  | 0 => ("ReactionDeskModel", "thrown", "I", false)
  | 1 => ("ReactionDeskModel", "size", "I", false)
  | 2 => ("ReactionDeskModel", "pauses", "I", false)
  | 3 => ("ReactionDeskModel", "weights", "I", false)
  | 4 => ("ReactionDeskModel", "due", "I", false)
  | 5 => ("ReactionDeskModel", "sort", "[I", true)
  | 6 => ("ReactionDeskModel", "x", "[I", true)
  | 7 => ("ReactionDeskModel", "first", "[I", true)
  | 8 => ("ReactionDeskModel", "second", "[I", true)
  | 9 => ("ReactionDeskModel", "end", "[I", true)
  | 10 => ("ReactionDeskModel", "depth", "[I", true)
  | 11 => ("ReactionDeskModel", "traps", "[I", true)
  | 12 => ("ReactionDeskModel", "weight", "[I", true)
  | 13 => ("ReactionDeskModel", "pause", "[I", true)
  | 14 => ("ReactionDeskModel", "open", "[I", true)
  | 15 => ("ReactionDeskModel", "left", "[I", true)
  | 16 => ("ReactionDeskModel", "opened", "I", false)
  | 17 => ("ReactionDeskModel", "going", "I", false)
  | 18 => ("ReactionDeskModel", "reactions", "I", false)
  | 19 => ("ReactionDeskModel", "begins", "Z", false)
  | 20 => ("ReactionDeskModel", "selected", "[Z", true)
  | 21 => ("ReactionDeskModel", "next", "[Z", true)
  | 22 => ("ReactionDeskModel", "shown", "[I", true)
  | 23 => ("ReactionDeskModel", "status", "[I", true)
  | 24 => ("ReactionDeskModel", "must", "[Z", true)
  | 25 => ("ReactionDeskModel", "can", "[Z", true)
  | 26 => ("ReactionDeskModel", "meant", "[I", true)
  | 27 => ("ReactionDeskModel", "way", "I", false)
  | _ => ("ReactionDeskModel", "doubt", "Z", false)
def tyM : Nat → FieldType := fun k => match k with
  | 0 => .int
  | 1 => .int
  | 2 => .int
  | 3 => .int
  | 4 => .int
  | 5 => .array .int
  | 6 => .array .int
  | 7 => .array .int
  | 8 => .array .int
  | 9 => .array .int
  | 10 => .array .int
  | 11 => .array .int
  | 12 => .array .int
  | 13 => .array .int
  | 14 => .array .int
  | 15 => .array .int
  | 16 => .int
  | 17 => .int
  | 18 => .int
  | 19 => .boolean
  | 20 => .array .boolean
  | 21 => .array .boolean
  | 22 => .array .int
  | 23 => .array .int
  | 24 => .array .boolean
  | 25 => .array .boolean
  | 26 => .array .int
  | 27 => .int
  | _ => .boolean
theorem nmM : ∀ a, a < 29 → ∀ b, b < 29 → a ≠ b → (TM a).2.1 ≠ (TM b).2.1 := by decide +kernel
theorem tyM_ok : ∀ k, k < 29 → parseFieldDescriptor (TM k).2.2.1 = some (tyM k) := by decide +kernel
abbrev vwCl : List vw_C := [(RK, TK, 6), (RG, TG, 15), (RX, TX, 9), (RM, TM, 29)]
abbrev cK_init : ByteArray := prog_1_method_1_code
def yK_init : MethodName := ⟨"ReactionDesk", "<init>", "()V"⟩
abbrev cG_init : ByteArray := prog_4_method_1_code
def yG_init : MethodName := ⟨"ReactionDesk$Program", "<init>", "()V"⟩
abbrev cX_init : ByteArray := prog_5_method_1_code
def yX_init : MethodName := ⟨"ReactionDesk$Reaction", "<init>", "(LReactionDesk$Program;)V"⟩
abbrev cK_clear : ByteArray := prog_1_method_4_code
def yK_clear : MethodName := ⟨"ReactionDesk", "clear", "()I"⟩
abbrev cK_rewind : ByteArray := prog_1_method_11_code
def yK_rewind : MethodName := ⟨"ReactionDesk", "rewind", "(I)V"⟩
abbrev cX_rewind : ByteArray := prog_5_method_2_code
def yX_rewind : MethodName := ⟨"ReactionDesk$Reaction", "rewind", "()V"⟩
abbrev cG_forget : ByteArray := prog_4_method_2_code
def yG_forget : MethodName := ⟨"ReactionDesk$Program", "forget", "()I"⟩
abbrev cK_count : ByteArray := prog_1_method_10_code
def yK_count : MethodName := ⟨"ReactionDesk", "count", "(I)I"⟩
abbrev cI_bitCount : ByteArray := prog_12_method_49_code
def yI_bitCount : MethodName := ⟨"java/lang/Integer", "bitCount", "(I)I"⟩
abbrev cL_put : ByteArray := method_3_code
def yL_put : MethodName := ⟨"ReactionDeskLaw", "put", "(LReactionDesk;II[J)I"⟩
abbrev cK_put : ByteArray := prog_1_method_2_code
def yK_put : MethodName := ⟨"ReactionDesk", "put", "(II)I"⟩
abbrev cG_isWhole : ByteArray := prog_4_method_3_code
def yG_isWhole : MethodName := ⟨"ReactionDesk$Program", "isWhole", "()Z"⟩
abbrev cG_allows : ByteArray := prog_4_method_12_code
def yG_allows : MethodName := ⟨"ReactionDesk$Program", "allows", "(II)Z"⟩
abbrev cG_trapsAround : ByteArray := prog_4_method_14_code
def yG_trapsAround : MethodName := ⟨"ReactionDesk$Program", "trapsAround", "()I"⟩
abbrev cG_sortOf : ByteArray := prog_4_method_5_code
def yG_sortOf : MethodName := ⟨"ReactionDesk$Program", "sortOf", "(I)I"⟩
abbrev cG_has : ByteArray := prog_4_method_4_code
def yG_has : MethodName := ⟨"ReactionDesk$Program", "has", "(I)Z"⟩
abbrev cG_hasRoomFor : ByteArray := prog_4_method_13_code
def yG_hasRoomFor : MethodName := ⟨"ReactionDesk$Program", "hasRoomFor", "(I)Z"⟩
abbrev cG_nextWeight : ByteArray := prog_4_method_15_code
def yG_nextWeight : MethodName := ⟨"ReactionDesk$Program", "nextWeight", "()I"⟩
abbrev cG_weightOf : ByteArray := prog_4_method_8_code
def yG_weightOf : MethodName := ⟨"ReactionDesk$Program", "weightOf", "(I)I"⟩
abbrev cG_add : ByteArray := prog_4_method_16_code
def yG_add : MethodName := ⟨"ReactionDesk$Program", "add", "(II)V"⟩
abbrev cG_numberPause : ByteArray := prog_4_method_17_code
def yG_numberPause : MethodName := ⟨"ReactionDesk$Program", "numberPause", "(I)V"⟩
abbrev cG_attach : ByteArray := prog_4_method_18_code
def yG_attach : MethodName := ⟨"ReactionDesk$Program", "attach", "(I)V"⟩
abbrev cG_openUp : ByteArray := prog_4_method_19_code
def yG_openUp : MethodName := ⟨"ReactionDesk$Program", "openUp", "(II)V"⟩
abbrev cG_closeFull : ByteArray := prog_4_method_20_code
def yG_closeFull : MethodName := ⟨"ReactionDesk$Program", "closeFull", "()V"⟩
abbrev cL_start : ByteArray := method_4_code
def yL_start : MethodName := ⟨"ReactionDeskLaw", "start", "(LReactionDesk;[J)I"⟩
abbrev cK_start : ByteArray := prog_1_method_3_code
def yK_start : MethodName := ⟨"ReactionDesk", "start", "()I"⟩
abbrev cG_firstLoopAtOnce : ByteArray := prog_4_method_21_code
def yG_firstLoopAtOnce : MethodName := ⟨"ReactionDesk$Program", "firstLoopAtOnce", "()I"⟩
abbrev cG_findStartCodes : ByteArray := prog_4_method_22_code
def yG_findStartCodes : MethodName := ⟨"ReactionDesk$Program", "findStartCodes", "(I)I"⟩
abbrev cG_startCodesOf : ByteArray := prog_4_method_11_code
def yG_startCodesOf : MethodName := ⟨"ReactionDesk$Program", "startCodesOf", "(I)I"⟩
abbrev cG_secondOf : ByteArray := prog_4_method_7_code
def yG_secondOf : MethodName := ⟨"ReactionDesk$Program", "secondOf", "(I)I"⟩
abbrev cG_operandOf : ByteArray := prog_4_method_6_code
def yG_operandOf : MethodName := ⟨"ReactionDesk$Program", "operandOf", "(I)I"⟩
abbrev cC_ofExit : ByteArray := prog_2_method_2_code
def yC_ofExit : MethodName := ⟨"ReactionDesk$Codes", "ofExit", "(I)I"⟩
abbrev cC_withoutZero : ByteArray := prog_2_method_4_code
def yC_withoutZero : MethodName := ⟨"ReactionDesk$Codes", "withoutZero", "(I)I"⟩
abbrev cC_inSequence : ByteArray := prog_2_method_5_code
def yC_inSequence : MethodName := ⟨"ReactionDesk$Codes", "inSequence", "(II)I"⟩
abbrev cC_haveZero : ByteArray := prog_2_method_3_code
def yC_haveZero : MethodName := ⟨"ReactionDesk$Codes", "haveZero", "(I)Z"⟩
abbrev cC_greaterOfPairs : ByteArray := prog_2_method_6_code
def yC_greaterOfPairs : MethodName := ⟨"ReactionDesk$Codes", "greaterOfPairs", "(II)I"⟩
abbrev cC_outsideTrap : ByteArray := prog_2_method_7_code
def yC_outsideTrap : MethodName := ⟨"ReactionDesk$Codes", "outsideTrap", "(I)I"⟩
abbrev cL_instant : ByteArray := method_5_code
def yL_instant : MethodName := ⟨"ReactionDeskLaw", "instant", "(LReactionDesk;I[J)I"⟩
abbrev cK_instant : ByteArray := prog_1_method_5_code
def yK_instant : MethodName := ⟨"ReactionDesk", "instant", "(I)I"⟩
abbrev cX_isFound : ByteArray := prog_5_method_3_code
def yX_isFound : MethodName := ⟨"ReactionDesk$Reaction", "isFound", "(I)Z"⟩
abbrev cX_forgetLocals : ByteArray := prog_5_method_4_code
def yX_forgetLocals : MethodName := ⟨"ReactionDesk$Reaction", "forgetLocals", "()V"⟩
abbrev cX_run : ByteArray := prog_5_method_9_code
def yX_run : MethodName := ⟨"ReactionDesk$Reaction", "run", "(IIZ)J"⟩
abbrev cX_runTrap : ByteArray := prog_5_method_16_code
def yX_runTrap : MethodName := ⟨"ReactionDesk$Reaction", "runTrap", "(IIZ)J"⟩
abbrev cO_must : ByteArray := prog_3_method_4_code
def yO_must : MethodName := ⟨"ReactionDesk$Outcome", "must", "(J)I"⟩
abbrev cO_codesIn : ByteArray := prog_3_method_6_code
def yO_codesIn : MethodName := ⟨"ReactionDesk$Outcome", "codesIn", "(I)I"⟩
abbrev cG_pausesIn : ByteArray := prog_4_method_10_code
def yG_pausesIn : MethodName := ⟨"ReactionDesk$Program", "pausesIn", "(I)I"⟩
abbrev cO_outsideTrap : ByteArray := prog_3_method_12_code
def yO_outsideTrap : MethodName := ⟨"ReactionDesk$Outcome", "outsideTrap", "(J)J"⟩
abbrev cO_outsideTrapHalf : ByteArray := prog_3_method_14_code
def yO_outsideTrapHalf : MethodName := ⟨"ReactionDesk$Outcome", "outsideTrapHalf", "(I)I"⟩
abbrev cO_emittedIn : ByteArray := prog_3_method_5_code
def yO_emittedIn : MethodName := ⟨"ReactionDesk$Outcome", "emittedIn", "(I)I"⟩
abbrev cO_half : ByteArray := prog_3_method_15_code
def yO_half : MethodName := ⟨"ReactionDesk$Outcome", "half", "(II)I"⟩
abbrev cO_can : ByteArray := prog_3_method_3_code
def yO_can : MethodName := ⟨"ReactionDesk$Outcome", "can", "(J)I"⟩
abbrev cO_whole : ByteArray := prog_3_method_16_code
def yO_whole : MethodName := ⟨"ReactionDesk$Outcome", "whole", "(II)J"⟩
abbrev cX_runLocal : ByteArray := prog_5_method_17_code
def yX_runLocal : MethodName := ⟨"ReactionDesk$Reaction", "runLocal", "(IIZ)J"⟩
abbrev cG_weightBefore : ByteArray := prog_4_method_9_code
def yG_weightBefore : MethodName := ⟨"ReactionDesk$Program", "weightBefore", "(I)I"⟩
abbrev cX_runWithStatus : ByteArray := prog_5_method_18_code
def yX_runWithStatus : MethodName := ⟨"ReactionDesk$Reaction", "runWithStatus", "(IIZ)J"⟩
abbrev cX_statusAt : ByteArray := prog_5_method_21_code
def yX_statusAt : MethodName := ⟨"ReactionDesk$Reaction", "statusAt", "(I)I"⟩
abbrev cX_learnLocal : ByteArray := prog_5_method_19_code
def yX_learnLocal : MethodName := ⟨"ReactionDesk$Reaction", "learnLocal", "(IIJ)Z"⟩
abbrev cK_hasBit : ByteArray := prog_1_method_12_code
def yK_hasBit : MethodName := ⟨"ReactionDesk", "hasBit", "(II)Z"⟩
abbrev cX_learnStatus : ByteArray := prog_5_method_20_code
def yX_learnStatus : MethodName := ⟨"ReactionDesk$Reaction", "learnStatus", "(II)V"⟩
abbrev cO_withoutSignal : ByteArray := prog_3_method_10_code
def yO_withoutSignal : MethodName := ⟨"ReactionDesk$Outcome", "withoutSignal", "(JI)J"⟩
abbrev cX_resume : ByteArray := prog_5_method_12_code
def yX_resume : MethodName := ⟨"ReactionDesk$Reaction", "resume", "(IZ)J"⟩
abbrev cX_isSelectedIn : ByteArray := prog_5_method_22_code
def yX_isSelectedIn : MethodName := ⟨"ReactionDesk$Reaction", "isSelectedIn", "(I)Z"⟩
abbrev cX_resumeSuspend : ByteArray := prog_5_method_14_code
def yX_resumeSuspend : MethodName := ⟨"ReactionDesk$Reaction", "resumeSuspend", "(IZ)J"⟩
abbrev cX_tested : ByteArray := prog_5_method_23_code
def yX_tested : MethodName := ⟨"ReactionDesk$Reaction", "tested", "(I)I"⟩
abbrev cK_statusIn : ByteArray := prog_1_method_13_code
def yK_statusIn : MethodName := ⟨"ReactionDesk", "statusIn", "(III)I"⟩
abbrev cO_of : ByteArray := prog_3_method_2_code
def yO_of : MethodName := ⟨"ReactionDesk$Outcome", "of", "(IIZ)J"⟩
abbrev cX_andThen : ByteArray := prog_5_method_15_code
def yX_andThen : MethodName := ⟨"ReactionDesk$Reaction", "andThen", "(JII)J"⟩
abbrev cO_canEndWithZero : ByteArray := prog_3_method_7_code
def yO_canEndWithZero : MethodName := ⟨"ReactionDesk$Outcome", "canEndWithZero", "(J)Z"⟩
abbrev cO_withoutZero : ByteArray := prog_3_method_9_code
def yO_withoutZero : MethodName := ⟨"ReactionDesk$Outcome", "withoutZero", "(J)J"⟩
abbrev cO_mustEndWithZero : ByteArray := prog_3_method_8_code
def yO_mustEndWithZero : MethodName := ⟨"ReactionDesk$Outcome", "mustEndWithZero", "(J)Z"⟩
abbrev cX_resumeBranch : ByteArray := prog_5_method_13_code
def yX_resumeBranch : MethodName := ⟨"ReactionDesk$Reaction", "resumeBranch", "(IZ)J"⟩
abbrev cO_inParallel : ByteArray := prog_3_method_11_code
def yO_inParallel : MethodName := ⟨"ReactionDesk$Outcome", "inParallel", "(JJ)J"⟩
abbrev cO_joined : ByteArray := prog_3_method_13_code
def yO_joined : MethodName := ⟨"ReactionDesk$Outcome", "joined", "(II)I"⟩
abbrev cX_begin : ByteArray := prog_5_method_10_code
def yX_begin : MethodName := ⟨"ReactionDesk$Reaction", "begin", "(IIZ)J"⟩
abbrev cX_beginPresent : ByteArray := prog_5_method_11_code
def yX_beginPresent : MethodName := ⟨"ReactionDesk$Reaction", "beginPresent", "(IIZ)J"⟩
abbrev cX_learnSignals : ByteArray := prog_5_method_8_code
def yX_learnSignals : MethodName := ⟨"ReactionDesk$Reaction", "learnSignals", "()V"⟩
abbrev cX_mustCodes : ByteArray := prog_5_method_7_code
def yX_mustCodes : MethodName := ⟨"ReactionDesk$Reaction", "mustCodes", "()I"⟩
abbrev cX_settle : ByteArray := prog_5_method_5_code
def yX_settle : MethodName := ⟨"ReactionDesk$Reaction", "settle", "()V"⟩
abbrev cX_ends : ByteArray := prog_5_method_6_code
def yX_ends : MethodName := ⟨"ReactionDesk$Reaction", "ends", "()Z"⟩
abbrev cL_status : ByteArray := method_6_code
def yL_status : MethodName := ⟨"ReactionDeskLaw", "status", "(LReactionDesk;I[J)I"⟩
abbrev cK_status : ByteArray := prog_1_method_6_code
def yK_status : MethodName := ⟨"ReactionDesk", "status", "(I)I"⟩
abbrev cL_selected : ByteArray := method_7_code
def yL_selected : MethodName := ⟨"ReactionDeskLaw", "selected", "(LReactionDesk;I[J)I"⟩
abbrev cK_selected : ByteArray := prog_1_method_7_code
def yK_selected : MethodName := ⟨"ReactionDesk", "selected", "(I)Z"⟩
abbrev cL_reacts : ByteArray := method_8_code
def yL_reacts : MethodName := ⟨"ReactionDeskLaw", "reacts", "(LReactionDesk;[J)I"⟩
abbrev cK_reacts : ByteArray := prog_1_method_8_code
def yK_reacts : MethodName := ⟨"ReactionDesk", "reacts", "()I"⟩
abbrev cL_emits : ByteArray := method_9_code
def yL_emits : MethodName := ⟨"ReactionDeskLaw", "emits", "(LReactionDesk;I[J)I"⟩
abbrev cK_emits : ByteArray := prog_1_method_9_code
def yK_emits : MethodName := ⟨"ReactionDesk", "emits", "(I)I"⟩
abbrev cM_init : ByteArray := prog_7_method_1_code
def yM_init : MethodName := ⟨"ReactionDeskModel", "<init>", "()V"⟩
abbrev cM_thrown : ByteArray := prog_7_method_2_code
def yM_thrown : MethodName := ⟨"ReactionDeskModel", "thrown", "()I"⟩
abbrev cM_put : ByteArray := prog_7_method_7_code
def yM_put : MethodName := ⟨"ReactionDeskModel", "put", "(II)I"⟩
abbrev cM_isSaid : ByteArray := prog_7_method_6_code
def yM_isSaid : MethodName := ⟨"ReactionDeskModel", "isSaid", "(II)Z"⟩
abbrev cM_trapsHere : ByteArray := prog_7_method_5_code
def yM_trapsHere : MethodName := ⟨"ReactionDeskModel", "trapsHere", "()I"⟩
abbrev cM_fails : ByteArray := prog_7_method_3_code
def yM_fails : MethodName := ⟨"ReactionDeskModel", "fails", "(ZZ)Z"⟩
abbrev cM_partsOf : ByteArray := prog_7_method_4_code
def yM_partsOf : MethodName := ⟨"ReactionDeskModel", "partsOf", "(I)I"⟩
abbrev cM_start : ByteArray := prog_7_method_11_code
def yM_start : MethodName := ⟨"ReactionDeskModel", "start", "()I"⟩
abbrev cM_rest : ByteArray := prog_7_method_12_code
def yM_rest : MethodName := ⟨"ReactionDeskModel", "rest", "(I)V"⟩
abbrev cM_codes : ByteArray := prog_7_method_8_code
def yM_codes : MethodName := ⟨"ReactionDeskModel", "codes", "(I)I"⟩
abbrev cM_pairs : ByteArray := prog_7_method_9_code
def yM_pairs : MethodName := ⟨"ReactionDeskModel", "pairs", "(II)I"⟩
abbrev cM_caught : ByteArray := prog_7_method_10_code
def yM_caught : MethodName := ⟨"ReactionDeskModel", "caught", "(I)I"⟩
abbrev cM_clear : ByteArray := prog_7_method_13_code
def yM_clear : MethodName := ⟨"ReactionDeskModel", "clear", "()I"⟩
abbrev cM_instant : ByteArray := prog_7_method_30_code
def yM_instant : MethodName := ⟨"ReactionDeskModel", "instant", "(I)I"⟩
abbrev cM_react : ByteArray := prog_7_method_29_code
def yM_react : MethodName := ⟨"ReactionDeskModel", "react", "(I)I"⟩
abbrev cM_run : ByteArray := prog_7_method_20_code
def yM_run : MethodName := ⟨"ReactionDeskModel", "run", "(IZZ)I"⟩
abbrev cM_simple : ByteArray := prog_7_method_19_code
def yM_simple : MethodName := ⟨"ReactionDeskModel", "simple", "(IZ)I"⟩
abbrev cM_outcome : ByteArray := prog_7_method_14_code
def yM_outcome : MethodName := ⟨"ReactionDeskModel", "outcome", "(II)I"⟩
abbrev cM_present : ByteArray := prog_7_method_21_code
def yM_present : MethodName := ⟨"ReactionDeskModel", "present", "(IZZ)I"⟩
abbrev cM_has : ByteArray := prog_7_method_18_code
def yM_has : MethodName := ⟨"ReactionDeskModel", "has", "(I)Z"⟩
abbrev cM_test : ByteArray := prog_7_method_17_code
def yM_test : MethodName := ⟨"ReactionDeskModel", "test", "(I)I"⟩
abbrev cM_canOf : ByteArray := prog_7_method_15_code
def yM_canOf : MethodName := ⟨"ReactionDeskModel", "canOf", "(I)I"⟩
abbrev cM_suspend : ByteArray := prog_7_method_22_code
def yM_suspend : MethodName := ⟨"ReactionDeskModel", "suspend", "(IZZ)I"⟩
abbrev cM_behind : ByteArray := prog_7_method_23_code
def yM_behind : MethodName := ⟨"ReactionDeskModel", "behind", "(IIIZZ)I"⟩
abbrev cM_mustOf : ByteArray := prog_7_method_16_code
def yM_mustOf : MethodName := ⟨"ReactionDeskModel", "mustOf", "(I)I"⟩
abbrev cM_parallel : ByteArray := prog_7_method_25_code
def yM_parallel : MethodName := ⟨"ReactionDeskModel", "parallel", "(IZZ)I"⟩
abbrev cM_side : ByteArray := prog_7_method_24_code
def yM_side : MethodName := ⟨"ReactionDeskModel", "side", "(IZZ)I"⟩
abbrev cM_trap : ByteArray := prog_7_method_26_code
def yM_trap : MethodName := ⟨"ReactionDeskModel", "trap", "(IZZ)I"⟩
abbrev cM_local : ByteArray := prog_7_method_27_code
def yM_local : MethodName := ⟨"ReactionDeskModel", "local", "(IZZ)I"⟩
abbrev cM_learns : ByteArray := prog_7_method_28_code
def yM_learns : MethodName := ⟨"ReactionDeskModel", "learns", "()Z"⟩
abbrev cM_status : ByteArray := prog_7_method_31_code
def yM_status : MethodName := ⟨"ReactionDeskModel", "status", "(I)I"⟩
abbrev cM_selected : ByteArray := prog_7_method_32_code
def yM_selected : MethodName := ⟨"ReactionDeskModel", "selected", "(I)Z"⟩
abbrev cM_reacts : ByteArray := prog_7_method_33_code
def yM_reacts : MethodName := ⟨"ReactionDeskModel", "reacts", "()I"⟩
abbrev cM_emits : ByteArray := prog_7_method_34_code
def yM_emits : MethodName := ⟨"ReactionDeskModel", "emits", "(I)I"⟩
abbrev cM_count : ByteArray := prog_7_method_35_code
def yM_count : MethodName := ⟨"ReactionDeskModel", "count", "(I)I"⟩
abbrev cL_law : ByteArray := code
def yL_law : MethodName := ⟨"ReactionDeskLaw", "law", "([I)Z"⟩
def aw_big : List Cond := lw_tbl.filter goodWord
theorem big_of {w : Cond} (i : Nat) (h : lw_tbl[i]? = some w) (g : goodWord w = true) : w ∈ aw_big := List.mem_filter.mpr ⟨List.mem_of_getElem? h, g⟩
theorem mw {w x : Cond} (h : w ∈ aw_big) : w ∈ x :: aw_big := List.mem_cons_of_mem _ h
theorem gi_w {w x : Cond} (h : w ∈ aw_big) : w ∈ x :: aw_big ∧ ((w.onTables && w.keeps) = true ∨ ∃ ty, w = .arrayClass ty) := ⟨List.mem_cons_of_mem _ h, good_of_word (List.mem_filter.mp h).2⟩
theorem gi_0 {x c : Cond} (h : c ∈ aw_big) : GoodIn (x :: aw_big) (c :: aw_big) := fun w hw => gi_w ((List.mem_cons.mp hw).elim (fun e => e ▸ h) id)
theorem gi_V {x c : Cond} {own C : String} {i : Nat} {y : MethodName} (h1 : Cond.methodLink own i y ∈ aw_big) (h2 : Cond.instanceMethod y ∈ aw_big) (h3 : Cond.selects C y y ∈ aw_big) (h4 : Cond.initialized C ∈ aw_big) (h5 : c ∈ aw_big) : GoodIn (x :: aw_big) (wsV own i C y (c :: aw_big)) := by
  intro w hw
  refine gi_w ?_
  simp only [wsV, List.cons_append, List.nil_append, List.mem_cons] at hw
  rcases hw with rfl | rfl | rfl | rfl | rfl | hw <;> assumption
theorem gi_S {x c : Cond} {own : String} {i : Nat} {y : MethodName} (h1 : Cond.methodLink own i y ∈ aw_big) (h2 : Cond.static y ∈ aw_big) (h4 : Cond.initialized y.cls ∈ aw_big) (h5 : c ∈ aw_big) : GoodIn (x :: aw_big) (va_wsS own i y (c :: aw_big)) := by
  intro w hw
  refine gi_w ?_
  simp only [va_wsS, List.cons_append, List.nil_append, List.mem_cons] at hw
  rcases hw with rfl | rfl | rfl | rfl | hw <;> assumption
theorem wd_0 : Cond.selects "ReactionDesk" yK_rewind yK_rewind ∈ aw_big := big_of 0 (by decide +kernel) (by decide +kernel)
theorem wd_1 : Cond.selects "ReactionDesk$Reaction" yX_rewind yX_rewind ∈ aw_big := big_of 1 (by decide +kernel) (by decide +kernel)
theorem wd_2 : Cond.selects "ReactionDesk$Program" yG_forget yG_forget ∈ aw_big := big_of 2 (by decide +kernel) (by decide +kernel)
theorem wd_3 : Cond.selects "ReactionDesk$Program" yG_isWhole yG_isWhole ∈ aw_big := big_of 3 (by decide +kernel) (by decide +kernel)
theorem wd_4 : Cond.selects "java/lang/Throwable" ⟨"java/lang/Throwable", "fillInStackTrace", "(I)Ljava/lang/Throwable;"⟩ ⟨"java/lang/Throwable", "fillInStackTrace", "(I)Ljava/lang/Throwable;"⟩ ∈ aw_big := big_of 4 (by decide +kernel) (by decide +kernel)
theorem wd_5 : Cond.selects "ReactionDesk$Program" yG_allows yG_allows ∈ aw_big := big_of 5 (by decide +kernel) (by decide +kernel)
theorem wd_6 : Cond.selects "ReactionDesk$Program" yG_trapsAround yG_trapsAround ∈ aw_big := big_of 6 (by decide +kernel) (by decide +kernel)
theorem wd_7 : Cond.selects "ReactionDesk$Program" yG_sortOf yG_sortOf ∈ aw_big := big_of 7 (by decide +kernel) (by decide +kernel)
theorem wd_8 : Cond.selects "ReactionDesk$Program" yG_has yG_has ∈ aw_big := big_of 8 (by decide +kernel) (by decide +kernel)
theorem wd_9 : Cond.selects "ReactionDesk$Program" yG_hasRoomFor yG_hasRoomFor ∈ aw_big := big_of 9 (by decide +kernel) (by decide +kernel)
theorem wd_10 : Cond.selects "ReactionDesk$Program" yG_nextWeight yG_nextWeight ∈ aw_big := big_of 10 (by decide +kernel) (by decide +kernel)
theorem wd_11 : Cond.selects "ReactionDesk$Program" yG_weightOf yG_weightOf ∈ aw_big := big_of 11 (by decide +kernel) (by decide +kernel)
theorem wd_12 : Cond.selects "ReactionDesk$Program" yG_add yG_add ∈ aw_big := big_of 12 (by decide +kernel) (by decide +kernel)
theorem wd_13 : Cond.selects "ReactionDesk$Program" yG_numberPause yG_numberPause ∈ aw_big := big_of 13 (by decide +kernel) (by decide +kernel)
theorem wd_14 : Cond.selects "ReactionDesk$Program" yG_attach yG_attach ∈ aw_big := big_of 14 (by decide +kernel) (by decide +kernel)
theorem wd_15 : Cond.selects "ReactionDesk$Program" yG_openUp yG_openUp ∈ aw_big := big_of 15 (by decide +kernel) (by decide +kernel)
theorem wd_16 : Cond.selects "ReactionDesk$Program" yG_closeFull yG_closeFull ∈ aw_big := big_of 16 (by decide +kernel) (by decide +kernel)
theorem wd_17 : Cond.selects "ReactionDesk$Program" yG_firstLoopAtOnce yG_firstLoopAtOnce ∈ aw_big := big_of 17 (by decide +kernel) (by decide +kernel)
theorem wd_18 : Cond.selects "ReactionDesk$Program" yG_findStartCodes yG_findStartCodes ∈ aw_big := big_of 18 (by decide +kernel) (by decide +kernel)
theorem wd_19 : Cond.selects "ReactionDesk$Program" yG_startCodesOf yG_startCodesOf ∈ aw_big := big_of 19 (by decide +kernel) (by decide +kernel)
theorem wd_20 : Cond.selects "ReactionDesk$Program" yG_secondOf yG_secondOf ∈ aw_big := big_of 20 (by decide +kernel) (by decide +kernel)
theorem wd_21 : Cond.selects "ReactionDesk$Program" yG_operandOf yG_operandOf ∈ aw_big := big_of 21 (by decide +kernel) (by decide +kernel)
theorem wd_22 : Cond.selects "ReactionDesk$Reaction" yX_isFound yX_isFound ∈ aw_big := big_of 22 (by decide +kernel) (by decide +kernel)
theorem wd_23 : Cond.selects "ReactionDesk$Reaction" yX_forgetLocals yX_forgetLocals ∈ aw_big := big_of 23 (by decide +kernel) (by decide +kernel)
theorem wd_24 : Cond.selects "ReactionDesk$Reaction" yX_run yX_run ∈ aw_big := big_of 24 (by decide +kernel) (by decide +kernel)
theorem wd_25 : Cond.selects "ReactionDesk$Reaction" yX_runTrap yX_runTrap ∈ aw_big := big_of 25 (by decide +kernel) (by decide +kernel)
theorem wd_26 : Cond.selects "ReactionDesk$Program" yG_pausesIn yG_pausesIn ∈ aw_big := big_of 26 (by decide +kernel) (by decide +kernel)
theorem wd_27 : Cond.selects "ReactionDesk$Reaction" yX_runLocal yX_runLocal ∈ aw_big := big_of 27 (by decide +kernel) (by decide +kernel)
theorem wd_28 : Cond.selects "ReactionDesk$Program" yG_weightBefore yG_weightBefore ∈ aw_big := big_of 28 (by decide +kernel) (by decide +kernel)
theorem wd_29 : Cond.selects "ReactionDesk$Reaction" yX_runWithStatus yX_runWithStatus ∈ aw_big := big_of 29 (by decide +kernel) (by decide +kernel)
theorem wd_30 : Cond.selects "ReactionDesk$Reaction" yX_statusAt yX_statusAt ∈ aw_big := big_of 30 (by decide +kernel) (by decide +kernel)
theorem wd_31 : Cond.selects "ReactionDesk$Reaction" yX_learnLocal yX_learnLocal ∈ aw_big := big_of 31 (by decide +kernel) (by decide +kernel)
theorem wd_32 : Cond.selects "ReactionDesk$Reaction" yX_learnStatus yX_learnStatus ∈ aw_big := big_of 32 (by decide +kernel) (by decide +kernel)
theorem wd_33 : Cond.selects "ReactionDesk$Reaction" yX_resume yX_resume ∈ aw_big := big_of 33 (by decide +kernel) (by decide +kernel)
theorem wd_34 : Cond.selects "ReactionDesk$Reaction" yX_isSelectedIn yX_isSelectedIn ∈ aw_big := big_of 34 (by decide +kernel) (by decide +kernel)
theorem wd_35 : Cond.selects "ReactionDesk$Reaction" yX_resumeSuspend yX_resumeSuspend ∈ aw_big := big_of 35 (by decide +kernel) (by decide +kernel)
theorem wd_36 : Cond.selects "ReactionDesk$Reaction" yX_tested yX_tested ∈ aw_big := big_of 36 (by decide +kernel) (by decide +kernel)
theorem wd_37 : Cond.selects "ReactionDesk$Reaction" yX_andThen yX_andThen ∈ aw_big := big_of 37 (by decide +kernel) (by decide +kernel)
theorem wd_38 : Cond.selects "ReactionDesk$Reaction" yX_resumeBranch yX_resumeBranch ∈ aw_big := big_of 38 (by decide +kernel) (by decide +kernel)
theorem wd_39 : Cond.selects "ReactionDesk$Reaction" yX_begin yX_begin ∈ aw_big := big_of 39 (by decide +kernel) (by decide +kernel)
theorem wd_40 : Cond.selects "ReactionDesk$Reaction" yX_beginPresent yX_beginPresent ∈ aw_big := big_of 40 (by decide +kernel) (by decide +kernel)
theorem wd_41 : Cond.selects "ReactionDesk$Reaction" yX_learnSignals yX_learnSignals ∈ aw_big := big_of 41 (by decide +kernel) (by decide +kernel)
theorem wd_42 : Cond.selects "ReactionDesk$Reaction" yX_mustCodes yX_mustCodes ∈ aw_big := big_of 42 (by decide +kernel) (by decide +kernel)
theorem wd_43 : Cond.selects "ReactionDesk$Reaction" yX_settle yX_settle ∈ aw_big := big_of 43 (by decide +kernel) (by decide +kernel)
theorem wd_44 : Cond.selects "ReactionDesk$Reaction" yX_ends yX_ends ∈ aw_big := big_of 44 (by decide +kernel) (by decide +kernel)
theorem wd_45 : Cond.selects "ReactionDeskModel" yM_isSaid yM_isSaid ∈ aw_big := big_of 45 (by decide +kernel) (by decide +kernel)
theorem wd_46 : Cond.selects "ReactionDeskModel" yM_trapsHere yM_trapsHere ∈ aw_big := big_of 46 (by decide +kernel) (by decide +kernel)
theorem wd_47 : Cond.selects "ReactionDeskModel" yM_fails yM_fails ∈ aw_big := big_of 47 (by decide +kernel) (by decide +kernel)
theorem wd_48 : Cond.selects "ReactionDeskModel" yM_rest yM_rest ∈ aw_big := big_of 48 (by decide +kernel) (by decide +kernel)
theorem wd_49 : Cond.selects "ReactionDeskModel" yM_codes yM_codes ∈ aw_big := big_of 49 (by decide +kernel) (by decide +kernel)
theorem wd_50 : Cond.selects "ReactionDeskModel" yM_react yM_react ∈ aw_big := big_of 50 (by decide +kernel) (by decide +kernel)
theorem wd_51 : Cond.selects "ReactionDeskModel" yM_run yM_run ∈ aw_big := big_of 51 (by decide +kernel) (by decide +kernel)
theorem wd_52 : Cond.selects "ReactionDeskModel" yM_simple yM_simple ∈ aw_big := big_of 52 (by decide +kernel) (by decide +kernel)
theorem wd_53 : Cond.selects "ReactionDeskModel" yM_present yM_present ∈ aw_big := big_of 53 (by decide +kernel) (by decide +kernel)
theorem wd_54 : Cond.selects "ReactionDeskModel" yM_has yM_has ∈ aw_big := big_of 54 (by decide +kernel) (by decide +kernel)
theorem wd_55 : Cond.selects "ReactionDeskModel" yM_test yM_test ∈ aw_big := big_of 55 (by decide +kernel) (by decide +kernel)
theorem wd_56 : Cond.selects "ReactionDeskModel" yM_suspend yM_suspend ∈ aw_big := big_of 56 (by decide +kernel) (by decide +kernel)
theorem wd_57 : Cond.selects "ReactionDeskModel" yM_behind yM_behind ∈ aw_big := big_of 57 (by decide +kernel) (by decide +kernel)
theorem wd_58 : Cond.selects "ReactionDeskModel" yM_parallel yM_parallel ∈ aw_big := big_of 58 (by decide +kernel) (by decide +kernel)
theorem wd_59 : Cond.selects "ReactionDeskModel" yM_side yM_side ∈ aw_big := big_of 59 (by decide +kernel) (by decide +kernel)
theorem wd_60 : Cond.selects "ReactionDeskModel" yM_trap yM_trap ∈ aw_big := big_of 60 (by decide +kernel) (by decide +kernel)
theorem wd_61 : Cond.selects "ReactionDeskModel" yM_local yM_local ∈ aw_big := big_of 61 (by decide +kernel) (by decide +kernel)
theorem wd_62 : Cond.selects "ReactionDeskModel" yM_learns yM_learns ∈ aw_big := big_of 62 (by decide +kernel) (by decide +kernel)
theorem wd_63 : Cond.initialized "ReactionDeskLaw" ∈ aw_big := big_of 63 (by decide +kernel) (by decide +kernel)
theorem wd_64 : Cond.initialized "ReactionDesk" ∈ aw_big := big_of 64 (by decide +kernel) (by decide +kernel)
theorem wd_65 : Cond.initialized "ReactionDesk$Program" ∈ aw_big := big_of 65 (by decide +kernel) (by decide +kernel)
theorem wd_66 : Cond.initialized "ReactionDesk$Reaction" ∈ aw_big := big_of 66 (by decide +kernel) (by decide +kernel)
theorem wd_67 : Cond.initialized "ReactionDeskModel" ∈ aw_big := big_of 67 (by decide +kernel) (by decide +kernel)
theorem wd_68 : Cond.initialized "java/lang/Throwable" ∈ aw_big := big_of 68 (by decide +kernel) (by decide +kernel)
theorem wd_69 : Cond.initialized "java/lang/Exception" ∈ aw_big := big_of 69 (by decide +kernel) (by decide +kernel)
theorem wd_70 : Cond.initialized "java/lang/RuntimeException" ∈ aw_big := big_of 70 (by decide +kernel) (by decide +kernel)
theorem wd_71 : Cond.initialized "java/lang/IllegalStateException" ∈ aw_big := big_of 71 (by decide +kernel) (by decide +kernel)
theorem wd_72 : Cond.initialized "java/lang/IllegalArgumentException" ∈ aw_big := big_of 72 (by decide +kernel) (by decide +kernel)
theorem wd_73 : Cond.initialized "ReactionDesk$Codes" ∈ aw_big := big_of 73 (by decide +kernel) (by decide +kernel)
theorem wd_74 : Cond.initialized "java/lang/Math" ∈ aw_big := big_of 74 (by decide +kernel) (by decide +kernel)
theorem wd_75 : Cond.initialized "ReactionDesk$Outcome" ∈ aw_big := big_of 75 (by decide +kernel) (by decide +kernel)
theorem wd_76 : Cond.initialized "java/lang/IndexOutOfBoundsException" ∈ aw_big := big_of 76 (by decide +kernel) (by decide +kernel)
theorem wd_77 : Cond.initialized "java/lang/Integer" ∈ aw_big := big_of 77 (by decide +kernel) (by decide +kernel)
theorem wd_78 : Cond.classLink "ReactionDeskLaw" 8 "ReactionDesk" ∈ aw_big := big_of 78 (by decide +kernel) (by decide +kernel)
theorem wd_79 : Cond.instantiable "ReactionDesk" 6 ∈ aw_big := big_of 79 (by decide +kernel) (by decide +kernel)
theorem wd_80 : Cond.methodLink "ReactionDeskLaw" 40 yK_init ∈ aw_big := big_of 80 (by decide +kernel) (by decide +kernel)
theorem wd_81 : Cond.instanceMethod yK_init ∈ aw_big := big_of 81 (by decide +kernel) (by decide +kernel)
theorem wd_82 : Cond.code yK_init cK_init 1 none ∈ aw_big := big_of 82 (by decide +kernel) (by decide +kernel)
theorem wd_83 : Cond.methodLink "ReactionDesk" 1 ⟨"java/lang/Object", "<init>", "()V"⟩ ∈ aw_big := big_of 83 (by decide +kernel) (by decide +kernel)
theorem wd_84 : Cond.instanceMethod ⟨"java/lang/Object", "<init>", "()V"⟩ ∈ aw_big := big_of 84 (by decide +kernel) (by decide +kernel)
theorem wd_85 : Cond.code ⟨"java/lang/Object", "<init>", "()V"⟩ object_method_1_code 1 none ∈ aw_big := big_of 85 (by decide +kernel) (by decide +kernel)
theorem wd_86 : Cond.classLink "ReactionDesk" 7 "ReactionDesk$Program" ∈ aw_big := big_of 86 (by decide +kernel) (by decide +kernel)
theorem wd_87 : Cond.instantiable "ReactionDesk$Program" 15 ∈ aw_big := big_of 87 (by decide +kernel) (by decide +kernel)
theorem nl_88 : Cond.methodLinkNest "ReactionDesk" 9 yG_init "ReactionDesk" ∈ lw_tbl := List.mem_of_getElem? (i := 88) (by decide +kernel)
theorem wd_89 : Cond.instanceMethod yG_init ∈ aw_big := big_of 89 (by decide +kernel) (by decide +kernel)
theorem wd_90 : Cond.code yG_init cG_init 1 none ∈ aw_big := big_of 90 (by decide +kernel) (by decide +kernel)
theorem wd_91 : Cond.methodLink "ReactionDesk$Program" 3 ⟨"java/lang/Object", "<init>", "()V"⟩ ∈ aw_big := big_of 91 (by decide +kernel) (by decide +kernel)
theorem wd_92 : Cond.fieldLink "ReactionDesk$Program" 9 "ReactionDesk$Program" "sorts" "[I" ∈ aw_big := big_of 92 (by decide +kernel) (by decide +kernel)
theorem wd_93 : Cond.fieldLink "ReactionDesk$Program" 15 "ReactionDesk$Program" "operands" "[I" ∈ aw_big := big_of 93 (by decide +kernel) (by decide +kernel)
theorem wd_94 : Cond.fieldLink "ReactionDesk$Program" 18 "ReactionDesk$Program" "lastParts" "[I" ∈ aw_big := big_of 94 (by decide +kernel) (by decide +kernel)
theorem wd_95 : Cond.fieldLink "ReactionDesk$Program" 21 "ReactionDesk$Program" "weights" "[I" ∈ aw_big := big_of 95 (by decide +kernel) (by decide +kernel)
theorem wd_96 : Cond.fieldLink "ReactionDesk$Program" 24 "ReactionDesk$Program" "weightsBefore" "[I" ∈ aw_big := big_of 96 (by decide +kernel) (by decide +kernel)
theorem wd_97 : Cond.fieldLink "ReactionDesk$Program" 27 "ReactionDesk$Program" "pausesWithin" "[I" ∈ aw_big := big_of 97 (by decide +kernel) (by decide +kernel)
theorem wd_98 : Cond.fieldLink "ReactionDesk$Program" 30 "ReactionDesk$Program" "startCodes" "[I" ∈ aw_big := big_of 98 (by decide +kernel) (by decide +kernel)
theorem wd_99 : Cond.fieldLink "ReactionDesk$Program" 33 "ReactionDesk$Program" "open" "[I" ∈ aw_big := big_of 99 (by decide +kernel) (by decide +kernel)
theorem wd_100 : Cond.fieldLink "ReactionDesk$Program" 36 "ReactionDesk$Program" "missing" "[I" ∈ aw_big := big_of 100 (by decide +kernel) (by decide +kernel)
theorem wd_101 : Cond.fieldLink "ReactionDesk$Program" 46 "ReactionDesk$Program" "levels" "I" ∈ aw_big := big_of 101 (by decide +kernel) (by decide +kernel)
theorem wd_102 : Cond.fieldLink "ReactionDesk$Program" 43 "ReactionDesk$Program" "size" "I" ∈ aw_big := big_of 102 (by decide +kernel) (by decide +kernel)
theorem nl_103 : Cond.fieldLinkNest "ReactionDesk" 124 "ReactionDesk$Program" "size" "I" "ReactionDesk" ∈ lw_tbl := List.mem_of_getElem? (i := 103) (by decide +kernel)
theorem wd_104 : Cond.fieldLink "ReactionDesk$Program" 39 "ReactionDesk$Program" "due" "I" ∈ aw_big := big_of 104 (by decide +kernel) (by decide +kernel)
theorem nl_105 : Cond.fieldLinkNest "ReactionDesk" 61 "ReactionDesk$Program" "due" "I" "ReactionDesk" ∈ lw_tbl := List.mem_of_getElem? (i := 105) (by decide +kernel)
theorem wd_106 : Cond.fieldLink "ReactionDesk$Program" 49 "ReactionDesk$Program" "pauseCount" "I" ∈ aw_big := big_of 106 (by decide +kernel) (by decide +kernel)
theorem nl_107 : Cond.fieldLinkNest "ReactionDesk" 111 "ReactionDesk$Program" "pauseCount" "I" "ReactionDesk" ∈ lw_tbl := List.mem_of_getElem? (i := 107) (by decide +kernel)
theorem wd_108 : Cond.fieldLink "ReactionDesk$Program" 52 "ReactionDesk$Program" "loopCount" "I" ∈ aw_big := big_of 108 (by decide +kernel) (by decide +kernel)
theorem nl_109 : Cond.fieldLinkNest "ReactionDesk" 127 "ReactionDesk$Program" "loopCount" "I" "ReactionDesk" ∈ lw_tbl := List.mem_of_getElem? (i := 109) (by decide +kernel)
theorem wd_110 : Cond.fieldLink "ReactionDesk$Program" 55 "ReactionDesk$Program" "weight" "I" ∈ aw_big := big_of 110 (by decide +kernel) (by decide +kernel)
theorem nl_111 : Cond.fieldLinkNest "ReactionDesk$Reaction" 57 "ReactionDesk$Program" "weight" "I" "ReactionDesk" ∈ lw_tbl := List.mem_of_getElem? (i := 111) (by decide +kernel)
theorem nl_112 : Cond.fieldLinkNest "ReactionDesk" 130 "ReactionDesk$Program" "weight" "I" "ReactionDesk" ∈ lw_tbl := List.mem_of_getElem? (i := 112) (by decide +kernel)
theorem wd_144 : Cond.arrayClass .int ∈ aw_big := big_of 144 (by decide +kernel) (by decide +kernel)
theorem wd_145 : Cond.classLink "ReactionDesk" 16 "ReactionDesk$Reaction" ∈ aw_big := big_of 145 (by decide +kernel) (by decide +kernel)
theorem wd_146 : Cond.instantiable "ReactionDesk$Reaction" 9 ∈ aw_big := big_of 146 (by decide +kernel) (by decide +kernel)
theorem nl_147 : Cond.methodLinkNest "ReactionDesk" 18 yX_init "ReactionDesk" ∈ lw_tbl := List.mem_of_getElem? (i := 147) (by decide +kernel)
theorem wd_148 : Cond.instanceMethod yX_init ∈ aw_big := big_of 148 (by decide +kernel) (by decide +kernel)
theorem wd_149 : Cond.code yX_init cX_init 2 none ∈ aw_big := big_of 149 (by decide +kernel) (by decide +kernel)
theorem wd_150 : Cond.methodLink "ReactionDesk$Reaction" 3 ⟨"java/lang/Object", "<init>", "()V"⟩ ∈ aw_big := big_of 150 (by decide +kernel) (by decide +kernel)
theorem wd_151 : Cond.fieldLink "ReactionDesk$Reaction" 15 "ReactionDesk$Reaction" "program" "LReactionDesk$Program;" ∈ aw_big := big_of 151 (by decide +kernel) (by decide +kernel)
theorem wd_152 : Cond.fieldLink "ReactionDesk$Reaction" 9 "ReactionDesk$Reaction" "localStatus" "[I" ∈ aw_big := big_of 152 (by decide +kernel) (by decide +kernel)
theorem wd_153 : Cond.fieldLink "ReactionDesk$Reaction" 19 "ReactionDesk$Reaction" "selection" "I" ∈ aw_big := big_of 153 (by decide +kernel) (by decide +kernel)
theorem nl_154 : Cond.fieldLinkNest "ReactionDesk" 116 "ReactionDesk$Reaction" "selection" "I" "ReactionDesk" ∈ lw_tbl := List.mem_of_getElem? (i := 154) (by decide +kernel)
theorem wd_155 : Cond.fieldLink "ReactionDesk$Reaction" 39 "ReactionDesk$Reaction" "nextSelection" "I" ∈ aw_big := big_of 155 (by decide +kernel) (by decide +kernel)
theorem wd_156 : Cond.fieldLink "ReactionDesk$Reaction" 23 "ReactionDesk$Reaction" "begun" "Z" ∈ aw_big := big_of 156 (by decide +kernel) (by decide +kernel)
theorem wd_157 : Cond.fieldLink "ReactionDesk$Reaction" 30 "ReactionDesk$Reaction" "known" "I" ∈ aw_big := big_of 157 (by decide +kernel) (by decide +kernel)
theorem nl_158 : Cond.fieldLinkNest "ReactionDesk" 84 "ReactionDesk$Reaction" "known" "I" "ReactionDesk" ∈ lw_tbl := List.mem_of_getElem? (i := 158) (by decide +kernel)
theorem wd_159 : Cond.fieldLink "ReactionDesk$Reaction" 33 "ReactionDesk$Reaction" "present" "I" ∈ aw_big := big_of 159 (by decide +kernel) (by decide +kernel)
theorem nl_160 : Cond.fieldLinkNest "ReactionDesk" 87 "ReactionDesk$Reaction" "present" "I" "ReactionDesk" ∈ lw_tbl := List.mem_of_getElem? (i := 160) (by decide +kernel)
theorem wd_161 : Cond.fieldLink "ReactionDesk$Reaction" 36 "ReactionDesk$Reaction" "learned" "Z" ∈ aw_big := big_of 161 (by decide +kernel) (by decide +kernel)
theorem wd_162 : Cond.fieldLink "ReactionDesk$Reaction" 46 "ReactionDesk$Reaction" "whole" "J" ∈ aw_big := big_of 162 (by decide +kernel) (by decide +kernel)
theorem wd_182 : Cond.constant "ReactionDesk" 29 (65535) ∈ aw_big := big_of 182 (by decide +kernel) (by decide +kernel)
theorem wd_183 : Cond.fieldLink "ReactionDesk" 10 "ReactionDesk" "program" "LReactionDesk$Program;" ∈ aw_big := big_of 183 (by decide +kernel) (by decide +kernel)
theorem wd_184 : Cond.fieldLink "ReactionDesk" 21 "ReactionDesk" "reaction" "LReactionDesk$Reaction;" ∈ aw_big := big_of 184 (by decide +kernel) (by decide +kernel)
theorem wd_185 : Cond.fieldLink "ReactionDesk" 25 "ReactionDesk" "phase" "I" ∈ aw_big := big_of 185 (by decide +kernel) (by decide +kernel)
theorem wd_186 : Cond.fieldLink "ReactionDesk" 93 "ReactionDesk" "reactions" "I" ∈ aw_big := big_of 186 (by decide +kernel) (by decide +kernel)
theorem wd_187 : Cond.fieldLink "ReactionDesk" 30 "ReactionDesk" "latestKnown" "I" ∈ aw_big := big_of 187 (by decide +kernel) (by decide +kernel)
theorem wd_188 : Cond.fieldLink "ReactionDesk" 90 "ReactionDesk" "latestPresent" "I" ∈ aw_big := big_of 188 (by decide +kernel) (by decide +kernel)
theorem wd_202 : Cond.methodLink "ReactionDeskLaw" 57 yK_clear ∈ aw_big := big_of 202 (by decide +kernel) (by decide +kernel)
theorem wd_203 : Cond.instanceMethod yK_clear ∈ aw_big := big_of 203 (by decide +kernel) (by decide +kernel)
theorem wd_204 : Cond.selects "ReactionDesk" yK_clear yK_clear ∈ aw_big := big_of 204 (by decide +kernel) (by decide +kernel)
theorem wd_205 : Cond.code yK_clear cK_clear 1 (some .int) ∈ aw_big := big_of 205 (by decide +kernel) (by decide +kernel)
theorem wd_206 : Cond.methodLink "ReactionDesk" 70 yK_rewind ∈ aw_big := big_of 206 (by decide +kernel) (by decide +kernel)
theorem wd_208 : Cond.instanceMethod yK_rewind ∈ aw_big := big_of 208 (by decide +kernel) (by decide +kernel)
theorem wd_209 : Cond.code yK_rewind cK_rewind 2 none ∈ aw_big := big_of 209 (by decide +kernel) (by decide +kernel)
theorem nl_210 : Cond.methodLinkNest "ReactionDesk" 139 yX_rewind "ReactionDesk" ∈ lw_tbl := List.mem_of_getElem? (i := 210) (by decide +kernel)
theorem wd_212 : Cond.instanceMethod yX_rewind ∈ aw_big := big_of 212 (by decide +kernel) (by decide +kernel)
theorem wd_213 : Cond.code yX_rewind cX_rewind 1 none ∈ aw_big := big_of 213 (by decide +kernel) (by decide +kernel)
theorem nl_214 : Cond.methodLinkNest "ReactionDesk" 74 yG_forget "ReactionDesk" ∈ lw_tbl := List.mem_of_getElem? (i := 214) (by decide +kernel)
theorem wd_216 : Cond.instanceMethod yG_forget ∈ aw_big := big_of 216 (by decide +kernel) (by decide +kernel)
theorem wd_217 : Cond.code yG_forget cG_forget 2 (some .int) ∈ aw_big := big_of 217 (by decide +kernel) (by decide +kernel)
theorem wd_218 : Cond.methodLink "ReactionDeskLaw" 77 yK_count ∈ aw_big := big_of 218 (by decide +kernel) (by decide +kernel)
theorem wd_219 : Cond.instanceMethod yK_count ∈ aw_big := big_of 219 (by decide +kernel) (by decide +kernel)
theorem wd_220 : Cond.selects "ReactionDesk" yK_count yK_count ∈ aw_big := big_of 220 (by decide +kernel) (by decide +kernel)
theorem wd_221 : Cond.code yK_count cK_count 2 (some .int) ∈ aw_big := big_of 221 (by decide +kernel) (by decide +kernel)
theorem wd_222 : Cond.methodLink "ReactionDesk" 133 yI_bitCount ∈ aw_big := big_of 222 (by decide +kernel) (by decide +kernel)
theorem wd_223 : Cond.static yI_bitCount ∈ aw_big := big_of 223 (by decide +kernel) (by decide +kernel)
theorem wd_224 : Cond.code yI_bitCount cI_bitCount 1 (some .int) ∈ aw_big := big_of 224 (by decide +kernel) (by decide +kernel)
theorem wd_225 : Cond.constant "java/lang/Integer" 265 (1431655765) ∈ aw_big := big_of 225 (by decide +kernel) (by decide +kernel)
theorem wd_226 : Cond.constant "java/lang/Integer" 266 (858993459) ∈ aw_big := big_of 226 (by decide +kernel) (by decide +kernel)
theorem wd_227 : Cond.constant "java/lang/Integer" 267 (252645135) ∈ aw_big := big_of 227 (by decide +kernel) (by decide +kernel)
theorem wd_228 : Cond.methodLink "ReactionDeskLaw" 44 yL_put ∈ aw_big := big_of 228 (by decide +kernel) (by decide +kernel)
theorem wd_229 : Cond.static yL_put ∈ aw_big := big_of 229 (by decide +kernel) (by decide +kernel)
theorem wd_230 : Cond.codeWith yL_put cL_put 5 (some .int) [(0, 10, 13, 13), (0, 10, 17, 15)] ∈ aw_big := big_of 230 (by decide +kernel) (by decide +kernel)
theorem wd_231 : Cond.classLink "ReactionDeskLaw" 13 "java/lang/IllegalStateException" ∈ aw_big := big_of 231 (by decide +kernel) (by decide +kernel)
theorem wd_232 : Cond.classLink "ReactionDeskLaw" 15 "java/lang/IllegalArgumentException" ∈ aw_big := big_of 232 (by decide +kernel) (by decide +kernel)
theorem wd_233 : Cond.methodLink "ReactionDeskLaw" 7 yK_put ∈ aw_big := big_of 233 (by decide +kernel) (by decide +kernel)
theorem wd_234 : Cond.instanceMethod yK_put ∈ aw_big := big_of 234 (by decide +kernel) (by decide +kernel)
theorem wd_235 : Cond.selects "ReactionDesk" yK_put yK_put ∈ aw_big := big_of 235 (by decide +kernel) (by decide +kernel)
theorem wd_236 : Cond.code yK_put cK_put 3 (some .int) ∈ aw_big := big_of 236 (by decide +kernel) (by decide +kernel)
theorem nl_237 : Cond.methodLinkNest "ReactionDesk" 33 yG_isWhole "ReactionDesk" ∈ lw_tbl := List.mem_of_getElem? (i := 237) (by decide +kernel)
theorem wd_239 : Cond.instanceMethod yG_isWhole ∈ aw_big := big_of 239 (by decide +kernel) (by decide +kernel)
theorem wd_240 : Cond.code yG_isWhole cG_isWhole 1 (some .boolean) ∈ aw_big := big_of 240 (by decide +kernel) (by decide +kernel)
theorem wd_241 : Cond.classLink "ReactionDesk" 37 "java/lang/IllegalStateException" ∈ aw_big := big_of 241 (by decide +kernel) (by decide +kernel)
theorem wd_242 : Cond.instantiable "java/lang/IllegalStateException" 6 ∈ aw_big := big_of 242 (by decide +kernel) (by decide +kernel)
theorem wd_250 : Cond.selects "java/lang/IllegalStateException" ⟨"java/lang/Throwable", "fillInStackTrace", "(I)Ljava/lang/Throwable;"⟩ ⟨"java/lang/Throwable", "fillInStackTrace", "(I)Ljava/lang/Throwable;"⟩ ∈ aw_big := big_of 250 (by decide +kernel) (by decide +kernel)
theorem wd_251 : Cond.selects "java/lang/IllegalStateException" ⟨"java/lang/Throwable", "fillInStackTrace", "()Ljava/lang/Throwable;"⟩ ⟨"java/lang/Throwable", "fillInStackTrace", "()Ljava/lang/Throwable;"⟩ ∈ aw_big := big_of 251 (by decide +kernel) (by decide +kernel)
theorem wd_262 : Cond.fieldLink "java/lang/Throwable" 198 "java/lang/Throwable" "backtrace" "Ljava/lang/Object;" ∈ aw_big := big_of 262 (by decide +kernel) (by decide +kernel)
theorem wd_264 : Cond.instanceMethod ⟨"java/lang/Throwable", "<init>", "()V"⟩ ∈ aw_big := big_of 264 (by decide +kernel) (by decide +kernel)
theorem wd_265 : Cond.code ⟨"java/lang/Throwable", "<init>", "()V"⟩ prog_16_method_1_code 1 none ∈ aw_big := big_of 265 (by decide +kernel) (by decide +kernel)
theorem wd_266 : Cond.methodLink "java/lang/Throwable" 1 ⟨"java/lang/Object", "<init>", "()V"⟩ ∈ aw_big := big_of 266 (by decide +kernel) (by decide +kernel)
theorem wd_267 : Cond.fieldLink "java/lang/Throwable" 13 "java/lang/Throwable" "UNASSIGNED_STACK" "[Ljava/lang/StackTraceElement;" ∈ aw_big := big_of 267 (by decide +kernel) (by decide +kernel)
theorem wd_269 : Cond.fieldLink "java/lang/Throwable" 20 "java/lang/Throwable" "SUPPRESSED_SENTINEL" "Ljava/util/List;" ∈ aw_big := big_of 269 (by decide +kernel) (by decide +kernel)
theorem wd_271 : Cond.methodLink "java/lang/Throwable" 27 ⟨"java/lang/Throwable", "fillInStackTrace", "()Ljava/lang/Throwable;"⟩ ∈ aw_big := big_of 271 (by decide +kernel) (by decide +kernel)
theorem wd_272 : Cond.instanceMethod ⟨"java/lang/Throwable", "fillInStackTrace", "()Ljava/lang/Throwable;"⟩ ∈ aw_big := big_of 272 (by decide +kernel) (by decide +kernel)
theorem wd_274 : Cond.selects "java/lang/IllegalArgumentException" ⟨"java/lang/Throwable", "fillInStackTrace", "()Ljava/lang/Throwable;"⟩ ⟨"java/lang/Throwable", "fillInStackTrace", "()Ljava/lang/Throwable;"⟩ ∈ aw_big := big_of 274 (by decide +kernel) (by decide +kernel)
theorem wd_275 : Cond.selects "java/lang/IndexOutOfBoundsException" ⟨"java/lang/Throwable", "fillInStackTrace", "()Ljava/lang/Throwable;"⟩ ⟨"java/lang/Throwable", "fillInStackTrace", "()Ljava/lang/Throwable;"⟩ ∈ aw_big := big_of 275 (by decide +kernel) (by decide +kernel)
theorem wd_277 : Cond.methodLink "java/lang/Throwable" 202 ⟨"java/lang/Throwable", "fillInStackTrace", "(I)Ljava/lang/Throwable;"⟩ ∈ aw_big := big_of 277 (by decide +kernel) (by decide +kernel)
theorem wd_279 : Cond.instanceMethod ⟨"java/lang/Throwable", "fillInStackTrace", "(I)Ljava/lang/Throwable;"⟩ ∈ aw_big := big_of 279 (by decide +kernel) (by decide +kernel)
theorem wd_280 : Cond.instantiable "java/lang/Throwable" 6 ∈ aw_big := big_of 280 (by decide +kernel) (by decide +kernel)
theorem wd_283 : Cond.methodLink "ReactionDesk" 41 ⟨"java/lang/IllegalStateException", "<init>", "(Ljava/lang/String;)V"⟩ ∈ aw_big := big_of 283 (by decide +kernel) (by decide +kernel)
theorem wd_284 : Cond.instanceMethod ⟨"java/lang/IllegalStateException", "<init>", "(Ljava/lang/String;)V"⟩ ∈ aw_big := big_of 284 (by decide +kernel) (by decide +kernel)
theorem wd_285 : Cond.code ⟨"java/lang/IllegalStateException", "<init>", "(Ljava/lang/String;)V"⟩ prog_10_method_2_code 2 none ∈ aw_big := big_of 285 (by decide +kernel) (by decide +kernel)
theorem wd_286 : Cond.methodLink "java/lang/IllegalStateException" 7 ⟨"java/lang/RuntimeException", "<init>", "(Ljava/lang/String;)V"⟩ ∈ aw_big := big_of 286 (by decide +kernel) (by decide +kernel)
theorem wd_287 : Cond.instanceMethod ⟨"java/lang/RuntimeException", "<init>", "(Ljava/lang/String;)V"⟩ ∈ aw_big := big_of 287 (by decide +kernel) (by decide +kernel)
theorem wd_288 : Cond.code ⟨"java/lang/RuntimeException", "<init>", "(Ljava/lang/String;)V"⟩ prog_14_method_2_code 2 none ∈ aw_big := big_of 288 (by decide +kernel) (by decide +kernel)
theorem wd_289 : Cond.methodLink "java/lang/RuntimeException" 7 ⟨"java/lang/Exception", "<init>", "(Ljava/lang/String;)V"⟩ ∈ aw_big := big_of 289 (by decide +kernel) (by decide +kernel)
theorem wd_290 : Cond.instanceMethod ⟨"java/lang/Exception", "<init>", "(Ljava/lang/String;)V"⟩ ∈ aw_big := big_of 290 (by decide +kernel) (by decide +kernel)
theorem wd_291 : Cond.code ⟨"java/lang/Exception", "<init>", "(Ljava/lang/String;)V"⟩ prog_8_method_2_code 2 none ∈ aw_big := big_of 291 (by decide +kernel) (by decide +kernel)
theorem wd_292 : Cond.methodLink "java/lang/Exception" 7 ⟨"java/lang/Throwable", "<init>", "(Ljava/lang/String;)V"⟩ ∈ aw_big := big_of 292 (by decide +kernel) (by decide +kernel)
theorem wd_293 : Cond.instanceMethod ⟨"java/lang/Throwable", "<init>", "(Ljava/lang/String;)V"⟩ ∈ aw_big := big_of 293 (by decide +kernel) (by decide +kernel)
theorem wd_294 : Cond.code ⟨"java/lang/Throwable", "<init>", "(Ljava/lang/String;)V"⟩ prog_16_method_2_code 2 none ∈ aw_big := big_of 294 (by decide +kernel) (by decide +kernel)
theorem wd_296 : Cond.fieldLink "java/lang/Throwable" 31 "java/lang/Throwable" "detailMessage" "Ljava/lang/String;" ∈ aw_big := big_of 296 (by decide +kernel) (by decide +kernel)
theorem wd_297 : Cond.fieldLink "java/lang/Throwable" 7 "java/lang/Throwable" "cause" "Ljava/lang/Throwable;" ∈ aw_big := big_of 297 (by decide +kernel) (by decide +kernel)
theorem wd_298 : Cond.fieldLink "java/lang/Throwable" 17 "java/lang/Throwable" "stackTrace" "[Ljava/lang/StackTraceElement;" ∈ aw_big := big_of 298 (by decide +kernel) (by decide +kernel)
theorem wd_299 : Cond.fieldLink "java/lang/Throwable" 24 "java/lang/Throwable" "suppressedExceptions" "Ljava/util/List;" ∈ aw_big := big_of 299 (by decide +kernel) (by decide +kernel)
theorem wd_308 : Cond.arrayClass .byte ∈ aw_big := big_of 308 (by decide +kernel) (by decide +kernel)
theorem nl_309 : Cond.methodLinkNest "ReactionDesk" 44 yG_allows "ReactionDesk" ∈ lw_tbl := List.mem_of_getElem? (i := 309) (by decide +kernel)
theorem wd_311 : Cond.instanceMethod yG_allows ∈ aw_big := big_of 311 (by decide +kernel) (by decide +kernel)
theorem wd_312 : Cond.code yG_allows cG_allows 3 (some .boolean) ∈ aw_big := big_of 312 (by decide +kernel) (by decide +kernel)
theorem wd_313 : Cond.methodLink "ReactionDesk$Program" 62 yG_trapsAround ∈ aw_big := big_of 313 (by decide +kernel) (by decide +kernel)
theorem wd_315 : Cond.instanceMethod yG_trapsAround ∈ aw_big := big_of 315 (by decide +kernel) (by decide +kernel)
theorem wd_316 : Cond.code yG_trapsAround cG_trapsAround 3 (some .int) ∈ aw_big := big_of 316 (by decide +kernel) (by decide +kernel)
theorem wd_317 : Cond.methodLink "ReactionDesk$Program" 69 yG_sortOf ∈ aw_big := big_of 317 (by decide +kernel) (by decide +kernel)
theorem wd_319 : Cond.instanceMethod yG_sortOf ∈ aw_big := big_of 319 (by decide +kernel) (by decide +kernel)
theorem wd_320 : Cond.code yG_sortOf cG_sortOf 2 (some .int) ∈ aw_big := big_of 320 (by decide +kernel) (by decide +kernel)
theorem wd_321 : Cond.methodLink "ReactionDesk$Program" 58 yG_has ∈ aw_big := big_of 321 (by decide +kernel) (by decide +kernel)
theorem wd_323 : Cond.instanceMethod yG_has ∈ aw_big := big_of 323 (by decide +kernel) (by decide +kernel)
theorem wd_324 : Cond.code yG_has cG_has 2 (some .boolean) ∈ aw_big := big_of 324 (by decide +kernel) (by decide +kernel)
theorem wd_325 : Cond.classLink "ReactionDesk" 48 "java/lang/IllegalArgumentException" ∈ aw_big := big_of 325 (by decide +kernel) (by decide +kernel)
theorem wd_326 : Cond.instantiable "java/lang/IllegalArgumentException" 6 ∈ aw_big := big_of 326 (by decide +kernel) (by decide +kernel)
theorem wd_328 : Cond.selects "java/lang/IllegalArgumentException" ⟨"java/lang/Throwable", "fillInStackTrace", "(I)Ljava/lang/Throwable;"⟩ ⟨"java/lang/Throwable", "fillInStackTrace", "(I)Ljava/lang/Throwable;"⟩ ∈ aw_big := big_of 328 (by decide +kernel) (by decide +kernel)
theorem wd_335 : Cond.methodLink "ReactionDesk" 52 ⟨"java/lang/IllegalArgumentException", "<init>", "(Ljava/lang/String;)V"⟩ ∈ aw_big := big_of 335 (by decide +kernel) (by decide +kernel)
theorem wd_336 : Cond.instanceMethod ⟨"java/lang/IllegalArgumentException", "<init>", "(Ljava/lang/String;)V"⟩ ∈ aw_big := big_of 336 (by decide +kernel) (by decide +kernel)
theorem wd_337 : Cond.code ⟨"java/lang/IllegalArgumentException", "<init>", "(Ljava/lang/String;)V"⟩ prog_9_method_2_code 2 none ∈ aw_big := big_of 337 (by decide +kernel) (by decide +kernel)
theorem wd_338 : Cond.methodLink "java/lang/IllegalArgumentException" 7 ⟨"java/lang/RuntimeException", "<init>", "(Ljava/lang/String;)V"⟩ ∈ aw_big := big_of 338 (by decide +kernel) (by decide +kernel)
theorem nl_341 : Cond.methodLinkNest "ReactionDesk" 53 yG_hasRoomFor "ReactionDesk" ∈ lw_tbl := List.mem_of_getElem? (i := 341) (by decide +kernel)
theorem wd_343 : Cond.instanceMethod yG_hasRoomFor ∈ aw_big := big_of 343 (by decide +kernel) (by decide +kernel)
theorem wd_344 : Cond.code yG_hasRoomFor cG_hasRoomFor 2 (some .boolean) ∈ aw_big := big_of 344 (by decide +kernel) (by decide +kernel)
theorem wd_345 : Cond.methodLink "ReactionDesk$Program" 66 yG_nextWeight ∈ aw_big := big_of 345 (by decide +kernel) (by decide +kernel)
theorem wd_347 : Cond.instanceMethod yG_nextWeight ∈ aw_big := big_of 347 (by decide +kernel) (by decide +kernel)
theorem wd_348 : Cond.code yG_nextWeight cG_nextWeight 4 (some .int) ∈ aw_big := big_of 348 (by decide +kernel) (by decide +kernel)
theorem wd_349 : Cond.methodLink "ReactionDesk$Program" 73 yG_weightOf ∈ aw_big := big_of 349 (by decide +kernel) (by decide +kernel)
theorem wd_351 : Cond.instanceMethod yG_weightOf ∈ aw_big := big_of 351 (by decide +kernel) (by decide +kernel)
theorem wd_352 : Cond.code yG_weightOf cG_weightOf 2 (some .int) ∈ aw_big := big_of 352 (by decide +kernel) (by decide +kernel)
theorem nl_353 : Cond.methodLinkNest "ReactionDesk" 57 yG_add "ReactionDesk" ∈ lw_tbl := List.mem_of_getElem? (i := 353) (by decide +kernel)
theorem wd_355 : Cond.instanceMethod yG_add ∈ aw_big := big_of 355 (by decide +kernel) (by decide +kernel)
theorem wd_356 : Cond.code yG_add cG_add 5 none ∈ aw_big := big_of 356 (by decide +kernel) (by decide +kernel)
theorem nl_357 : Cond.fieldLinkNest "ReactionDesk$Program" 76 "ReactionDesk" "PARTS" "[I" "ReactionDesk" ∈ lw_tbl := List.mem_of_getElem? (i := 357) (by decide +kernel)
theorem wd_359 : Cond.methodLink "ReactionDesk$Program" 79 yG_numberPause ∈ aw_big := big_of 359 (by decide +kernel) (by decide +kernel)
theorem wd_361 : Cond.instanceMethod yG_numberPause ∈ aw_big := big_of 361 (by decide +kernel) (by decide +kernel)
theorem wd_362 : Cond.code yG_numberPause cG_numberPause 4 none ∈ aw_big := big_of 362 (by decide +kernel) (by decide +kernel)
theorem wd_363 : Cond.methodLink "ReactionDesk$Program" 83 yG_attach ∈ aw_big := big_of 363 (by decide +kernel) (by decide +kernel)
theorem wd_365 : Cond.instanceMethod yG_attach ∈ aw_big := big_of 365 (by decide +kernel) (by decide +kernel)
theorem wd_366 : Cond.code yG_attach cG_attach 2 none ∈ aw_big := big_of 366 (by decide +kernel) (by decide +kernel)
theorem wd_367 : Cond.methodLink "ReactionDesk$Program" 86 yG_openUp ∈ aw_big := big_of 367 (by decide +kernel) (by decide +kernel)
theorem wd_369 : Cond.instanceMethod yG_openUp ∈ aw_big := big_of 369 (by decide +kernel) (by decide +kernel)
theorem wd_370 : Cond.code yG_openUp cG_openUp 3 none ∈ aw_big := big_of 370 (by decide +kernel) (by decide +kernel)
theorem wd_371 : Cond.methodLink "ReactionDesk$Program" 90 yG_closeFull ∈ aw_big := big_of 371 (by decide +kernel) (by decide +kernel)
theorem wd_373 : Cond.instanceMethod yG_closeFull ∈ aw_big := big_of 373 (by decide +kernel) (by decide +kernel)
theorem wd_374 : Cond.code yG_closeFull cG_closeFull 1 none ∈ aw_big := big_of 374 (by decide +kernel) (by decide +kernel)
theorem wd_375 : Cond.methodLink "ReactionDeskLaw" 53 yL_start ∈ aw_big := big_of 375 (by decide +kernel) (by decide +kernel)
theorem wd_376 : Cond.static yL_start ∈ aw_big := big_of 376 (by decide +kernel) (by decide +kernel)
theorem wd_377 : Cond.codeWith yL_start cL_start 3 (some .int) [(0, 8, 11, 13)] ∈ aw_big := big_of 377 (by decide +kernel) (by decide +kernel)
theorem wd_378 : Cond.methodLink "ReactionDeskLaw" 17 yK_start ∈ aw_big := big_of 378 (by decide +kernel) (by decide +kernel)
theorem wd_379 : Cond.instanceMethod yK_start ∈ aw_big := big_of 379 (by decide +kernel) (by decide +kernel)
theorem wd_380 : Cond.selects "ReactionDesk" yK_start yK_start ∈ aw_big := big_of 380 (by decide +kernel) (by decide +kernel)
theorem wd_381 : Cond.code yK_start cK_start 2 (some .int) ∈ aw_big := big_of 381 (by decide +kernel) (by decide +kernel)
theorem nl_383 : Cond.methodLinkNest "ReactionDesk" 66 yG_firstLoopAtOnce "ReactionDesk" ∈ lw_tbl := List.mem_of_getElem? (i := 383) (by decide +kernel)
theorem wd_385 : Cond.instanceMethod yG_firstLoopAtOnce ∈ aw_big := big_of 385 (by decide +kernel) (by decide +kernel)
theorem wd_386 : Cond.code yG_firstLoopAtOnce cG_firstLoopAtOnce 4 (some .int) ∈ aw_big := big_of 386 (by decide +kernel) (by decide +kernel)
theorem wd_387 : Cond.methodLink "ReactionDesk$Program" 93 yG_findStartCodes ∈ aw_big := big_of 387 (by decide +kernel) (by decide +kernel)
theorem wd_389 : Cond.instanceMethod yG_findStartCodes ∈ aw_big := big_of 389 (by decide +kernel) (by decide +kernel)
theorem wd_390 : Cond.code yG_findStartCodes cG_findStartCodes 4 (some .int) ∈ aw_big := big_of 390 (by decide +kernel) (by decide +kernel)
theorem wd_391 : Cond.methodLink "ReactionDesk$Program" 96 yG_startCodesOf ∈ aw_big := big_of 391 (by decide +kernel) (by decide +kernel)
theorem wd_393 : Cond.instanceMethod yG_startCodesOf ∈ aw_big := big_of 393 (by decide +kernel) (by decide +kernel)
theorem wd_394 : Cond.code yG_startCodesOf cG_startCodesOf 2 (some .int) ∈ aw_big := big_of 394 (by decide +kernel) (by decide +kernel)
theorem wd_395 : Cond.methodLink "ReactionDesk$Program" 104 yG_secondOf ∈ aw_big := big_of 395 (by decide +kernel) (by decide +kernel)
theorem wd_397 : Cond.instanceMethod yG_secondOf ∈ aw_big := big_of 397 (by decide +kernel) (by decide +kernel)
theorem wd_398 : Cond.code yG_secondOf cG_secondOf 2 (some .int) ∈ aw_big := big_of 398 (by decide +kernel) (by decide +kernel)
theorem wd_399 : Cond.methodLink "ReactionDesk$Program" 107 yG_operandOf ∈ aw_big := big_of 399 (by decide +kernel) (by decide +kernel)
theorem wd_401 : Cond.instanceMethod yG_operandOf ∈ aw_big := big_of 401 (by decide +kernel) (by decide +kernel)
theorem wd_402 : Cond.code yG_operandOf cG_operandOf 2 (some .int) ∈ aw_big := big_of 402 (by decide +kernel) (by decide +kernel)
theorem nl_403 : Cond.methodLinkNest "ReactionDesk$Program" 110 yC_ofExit "ReactionDesk" ∈ lw_tbl := List.mem_of_getElem? (i := 403) (by decide +kernel)
theorem wd_404 : Cond.static yC_ofExit ∈ aw_big := big_of 404 (by decide +kernel) (by decide +kernel)
theorem wd_405 : Cond.code yC_ofExit cC_ofExit 1 (some .int) ∈ aw_big := big_of 405 (by decide +kernel) (by decide +kernel)
theorem nl_406 : Cond.methodLinkNest "ReactionDesk$Program" 113 yC_withoutZero "ReactionDesk" ∈ lw_tbl := List.mem_of_getElem? (i := 406) (by decide +kernel)
theorem wd_407 : Cond.static yC_withoutZero ∈ aw_big := big_of 407 (by decide +kernel) (by decide +kernel)
theorem wd_408 : Cond.code yC_withoutZero cC_withoutZero 1 (some .int) ∈ aw_big := big_of 408 (by decide +kernel) (by decide +kernel)
theorem nl_409 : Cond.methodLinkNest "ReactionDesk$Program" 116 yC_inSequence "ReactionDesk" ∈ lw_tbl := List.mem_of_getElem? (i := 409) (by decide +kernel)
theorem wd_410 : Cond.static yC_inSequence ∈ aw_big := big_of 410 (by decide +kernel) (by decide +kernel)
theorem wd_411 : Cond.code yC_inSequence cC_inSequence 2 (some .int) ∈ aw_big := big_of 411 (by decide +kernel) (by decide +kernel)
theorem wd_412 : Cond.methodLink "ReactionDesk$Codes" 9 yC_haveZero ∈ aw_big := big_of 412 (by decide +kernel) (by decide +kernel)
theorem wd_413 : Cond.static yC_haveZero ∈ aw_big := big_of 413 (by decide +kernel) (by decide +kernel)
theorem wd_414 : Cond.code yC_haveZero cC_haveZero 1 (some .boolean) ∈ aw_big := big_of 414 (by decide +kernel) (by decide +kernel)
theorem wd_415 : Cond.methodLink "ReactionDesk$Codes" 13 yC_withoutZero ∈ aw_big := big_of 415 (by decide +kernel) (by decide +kernel)
theorem nl_416 : Cond.methodLinkNest "ReactionDesk$Program" 120 yC_greaterOfPairs "ReactionDesk" ∈ lw_tbl := List.mem_of_getElem? (i := 416) (by decide +kernel)
theorem wd_417 : Cond.static yC_greaterOfPairs ∈ aw_big := big_of 417 (by decide +kernel) (by decide +kernel)
theorem wd_418 : Cond.code yC_greaterOfPairs cC_greaterOfPairs 3 (some .int) ∈ aw_big := big_of 418 (by decide +kernel) (by decide +kernel)
theorem wd_419 : Cond.methodLink "ReactionDesk$Codes" 17 ⟨"java/lang/Math", "max", "(II)I"⟩ ∈ aw_big := big_of 419 (by decide +kernel) (by decide +kernel)
theorem wd_420 : Cond.static ⟨"java/lang/Math", "max", "(II)I"⟩ ∈ aw_big := big_of 420 (by decide +kernel) (by decide +kernel)
theorem wd_421 : Cond.code ⟨"java/lang/Math", "max", "(II)I"⟩ prog_13_method_65_code 2 (some .int) ∈ aw_big := big_of 421 (by decide +kernel) (by decide +kernel)
theorem nl_422 : Cond.methodLinkNest "ReactionDesk$Program" 123 yC_outsideTrap "ReactionDesk" ∈ lw_tbl := List.mem_of_getElem? (i := 422) (by decide +kernel)
theorem wd_423 : Cond.static yC_outsideTrap ∈ aw_big := big_of 423 (by decide +kernel) (by decide +kernel)
theorem wd_424 : Cond.code yC_outsideTrap cC_outsideTrap 3 (some .int) ∈ aw_big := big_of 424 (by decide +kernel) (by decide +kernel)
theorem nl_425 : Cond.methodLinkNest "ReactionDesk$Program" 99 yC_haveZero "ReactionDesk" ∈ lw_tbl := List.mem_of_getElem? (i := 425) (by decide +kernel)
theorem wd_426 : Cond.methodLink "ReactionDeskLaw" 61 yL_instant ∈ aw_big := big_of 426 (by decide +kernel) (by decide +kernel)
theorem wd_427 : Cond.static yL_instant ∈ aw_big := big_of 427 (by decide +kernel) (by decide +kernel)
theorem wd_428 : Cond.codeWith yL_instant cL_instant 4 (some .int) [(0, 9, 12, 13), (0, 9, 15, 15)] ∈ aw_big := big_of 428 (by decide +kernel) (by decide +kernel)
theorem wd_429 : Cond.methodLink "ReactionDeskLaw" 21 yK_instant ∈ aw_big := big_of 429 (by decide +kernel) (by decide +kernel)
theorem wd_430 : Cond.instanceMethod yK_instant ∈ aw_big := big_of 430 (by decide +kernel) (by decide +kernel)
theorem wd_431 : Cond.selects "ReactionDesk" yK_instant yK_instant ∈ aw_big := big_of 431 (by decide +kernel) (by decide +kernel)
theorem wd_432 : Cond.code yK_instant cK_instant 3 (some .int) ∈ aw_big := big_of 432 (by decide +kernel) (by decide +kernel)
theorem nl_435 : Cond.methodLinkNest "ReactionDesk" 81 yX_isFound "ReactionDesk" ∈ lw_tbl := List.mem_of_getElem? (i := 435) (by decide +kernel)
theorem wd_437 : Cond.instanceMethod yX_isFound ∈ aw_big := big_of 437 (by decide +kernel) (by decide +kernel)
theorem wd_438 : Cond.code yX_isFound cX_isFound 3 (some .boolean) ∈ aw_big := big_of 438 (by decide +kernel) (by decide +kernel)
theorem wd_439 : Cond.methodLink "ReactionDesk$Reaction" 27 yX_forgetLocals ∈ aw_big := big_of 439 (by decide +kernel) (by decide +kernel)
theorem wd_441 : Cond.instanceMethod yX_forgetLocals ∈ aw_big := big_of 441 (by decide +kernel) (by decide +kernel)
theorem wd_442 : Cond.code yX_forgetLocals cX_forgetLocals 2 none ∈ aw_big := big_of 442 (by decide +kernel) (by decide +kernel)
theorem wd_443 : Cond.methodLink "ReactionDesk$Reaction" 42 yX_run ∈ aw_big := big_of 443 (by decide +kernel) (by decide +kernel)
theorem wd_445 : Cond.instanceMethod yX_run ∈ aw_big := big_of 445 (by decide +kernel) (by decide +kernel)
theorem wd_446 : Cond.code yX_run cX_run 4 (some .long) ∈ aw_big := big_of 446 (by decide +kernel) (by decide +kernel)
theorem nl_447 : Cond.methodLinkNest "ReactionDesk$Reaction" 78 yG_sortOf "ReactionDesk" ∈ lw_tbl := List.mem_of_getElem? (i := 447) (by decide +kernel)
theorem wd_448 : Cond.methodLink "ReactionDesk$Reaction" 81 yX_runTrap ∈ aw_big := big_of 448 (by decide +kernel) (by decide +kernel)
theorem wd_450 : Cond.instanceMethod yX_runTrap ∈ aw_big := big_of 450 (by decide +kernel) (by decide +kernel)
theorem wd_451 : Cond.code yX_runTrap cX_runTrap 6 (some .long) ∈ aw_big := big_of 451 (by decide +kernel) (by decide +kernel)
theorem nl_452 : Cond.methodLinkNest "ReactionDesk$Reaction" 64 yO_must "ReactionDesk" ∈ lw_tbl := List.mem_of_getElem? (i := 452) (by decide +kernel)
theorem wd_453 : Cond.static yO_must ∈ aw_big := big_of 453 (by decide +kernel) (by decide +kernel)
theorem wd_454 : Cond.code yO_must cO_must 2 (some .int) ∈ aw_big := big_of 454 (by decide +kernel) (by decide +kernel)
theorem nl_455 : Cond.methodLinkNest "ReactionDesk$Reaction" 70 yO_codesIn "ReactionDesk" ∈ lw_tbl := List.mem_of_getElem? (i := 455) (by decide +kernel)
theorem wd_456 : Cond.static yO_codesIn ∈ aw_big := big_of 456 (by decide +kernel) (by decide +kernel)
theorem wd_457 : Cond.code yO_codesIn cO_codesIn 1 (some .int) ∈ aw_big := big_of 457 (by decide +kernel) (by decide +kernel)
theorem nl_458 : Cond.methodLinkNest "ReactionDesk$Reaction" 97 yG_pausesIn "ReactionDesk" ∈ lw_tbl := List.mem_of_getElem? (i := 458) (by decide +kernel)
theorem wd_460 : Cond.instanceMethod yG_pausesIn ∈ aw_big := big_of 460 (by decide +kernel) (by decide +kernel)
theorem wd_461 : Cond.code yG_pausesIn cG_pausesIn 2 (some .int) ∈ aw_big := big_of 461 (by decide +kernel) (by decide +kernel)
theorem nl_462 : Cond.methodLinkNest "ReactionDesk$Reaction" 147 yO_outsideTrap "ReactionDesk" ∈ lw_tbl := List.mem_of_getElem? (i := 462) (by decide +kernel)
theorem wd_463 : Cond.static yO_outsideTrap ∈ aw_big := big_of 463 (by decide +kernel) (by decide +kernel)
theorem wd_464 : Cond.code yO_outsideTrap cO_outsideTrap 2 (some .long) ∈ aw_big := big_of 464 (by decide +kernel) (by decide +kernel)
theorem wd_465 : Cond.methodLink "ReactionDesk$Outcome" 28 yO_must ∈ aw_big := big_of 465 (by decide +kernel) (by decide +kernel)
theorem wd_466 : Cond.methodLink "ReactionDesk$Outcome" 38 yO_outsideTrapHalf ∈ aw_big := big_of 466 (by decide +kernel) (by decide +kernel)
theorem wd_467 : Cond.static yO_outsideTrapHalf ∈ aw_big := big_of 467 (by decide +kernel) (by decide +kernel)
theorem wd_468 : Cond.code yO_outsideTrapHalf cO_outsideTrapHalf 1 (some .int) ∈ aw_big := big_of 468 (by decide +kernel) (by decide +kernel)
theorem wd_469 : Cond.methodLink "ReactionDesk$Outcome" 42 yO_emittedIn ∈ aw_big := big_of 469 (by decide +kernel) (by decide +kernel)
theorem wd_470 : Cond.static yO_emittedIn ∈ aw_big := big_of 470 (by decide +kernel) (by decide +kernel)
theorem wd_471 : Cond.code yO_emittedIn cO_emittedIn 1 (some .int) ∈ aw_big := big_of 471 (by decide +kernel) (by decide +kernel)
theorem wd_472 : Cond.constant "ReactionDesk$Outcome" 19 (65535) ∈ aw_big := big_of 472 (by decide +kernel) (by decide +kernel)
theorem wd_473 : Cond.methodLink "ReactionDesk$Outcome" 45 yO_codesIn ∈ aw_big := big_of 473 (by decide +kernel) (by decide +kernel)
theorem nl_474 : Cond.methodLinkNest "ReactionDesk$Outcome" 53 yC_outsideTrap "ReactionDesk" ∈ lw_tbl := List.mem_of_getElem? (i := 474) (by decide +kernel)
theorem wd_475 : Cond.methodLink "ReactionDesk$Outcome" 11 yO_half ∈ aw_big := big_of 475 (by decide +kernel) (by decide +kernel)
theorem wd_476 : Cond.static yO_half ∈ aw_big := big_of 476 (by decide +kernel) (by decide +kernel)
theorem wd_477 : Cond.code yO_half cO_half 2 (some .int) ∈ aw_big := big_of 477 (by decide +kernel) (by decide +kernel)
theorem wd_478 : Cond.methodLink "ReactionDesk$Outcome" 35 yO_can ∈ aw_big := big_of 478 (by decide +kernel) (by decide +kernel)
theorem wd_479 : Cond.static yO_can ∈ aw_big := big_of 479 (by decide +kernel) (by decide +kernel)
theorem wd_480 : Cond.code yO_can cO_can 2 (some .int) ∈ aw_big := big_of 480 (by decide +kernel) (by decide +kernel)
theorem wd_481 : Cond.methodLink "ReactionDesk$Outcome" 15 yO_whole ∈ aw_big := big_of 481 (by decide +kernel) (by decide +kernel)
theorem wd_482 : Cond.static yO_whole ∈ aw_big := big_of 482 (by decide +kernel) (by decide +kernel)
theorem wd_483 : Cond.code yO_whole cO_whole 2 (some .long) ∈ aw_big := big_of 483 (by decide +kernel) (by decide +kernel)
theorem wd_484 : Cond.methodLink "ReactionDesk$Reaction" 84 yX_runLocal ∈ aw_big := big_of 484 (by decide +kernel) (by decide +kernel)
theorem wd_486 : Cond.instanceMethod yX_runLocal ∈ aw_big := big_of 486 (by decide +kernel) (by decide +kernel)
theorem wd_487 : Cond.code yX_runLocal cX_runLocal 10 (some .long) ∈ aw_big := big_of 487 (by decide +kernel) (by decide +kernel)
theorem nl_488 : Cond.methodLinkNest "ReactionDesk$Reaction" 94 yG_operandOf "ReactionDesk" ∈ lw_tbl := List.mem_of_getElem? (i := 488) (by decide +kernel)
theorem nl_489 : Cond.methodLinkNest "ReactionDesk$Reaction" 150 yG_weightBefore "ReactionDesk" ∈ lw_tbl := List.mem_of_getElem? (i := 489) (by decide +kernel)
theorem wd_491 : Cond.instanceMethod yG_weightBefore ∈ aw_big := big_of 491 (by decide +kernel) (by decide +kernel)
theorem wd_492 : Cond.code yG_weightBefore cG_weightBefore 2 (some .int) ∈ aw_big := big_of 492 (by decide +kernel) (by decide +kernel)
theorem wd_493 : Cond.methodLink "ReactionDesk$Reaction" 153 yX_runWithStatus ∈ aw_big := big_of 493 (by decide +kernel) (by decide +kernel)
theorem wd_495 : Cond.instanceMethod yX_runWithStatus ∈ aw_big := big_of 495 (by decide +kernel) (by decide +kernel)
theorem wd_496 : Cond.code yX_runWithStatus cX_runWithStatus 6 (some .long) ∈ aw_big := big_of 496 (by decide +kernel) (by decide +kernel)
theorem wd_497 : Cond.methodLink "ReactionDesk$Reaction" 156 yX_statusAt ∈ aw_big := big_of 497 (by decide +kernel) (by decide +kernel)
theorem wd_499 : Cond.instanceMethod yX_statusAt ∈ aw_big := big_of 499 (by decide +kernel) (by decide +kernel)
theorem wd_500 : Cond.code yX_statusAt cX_statusAt 2 (some .int) ∈ aw_big := big_of 500 (by decide +kernel) (by decide +kernel)
theorem wd_501 : Cond.methodLink "ReactionDesk$Reaction" 159 yX_learnLocal ∈ aw_big := big_of 501 (by decide +kernel) (by decide +kernel)
theorem wd_503 : Cond.instanceMethod yX_learnLocal ∈ aw_big := big_of 503 (by decide +kernel) (by decide +kernel)
theorem wd_504 : Cond.code yX_learnLocal cX_learnLocal 5 (some .boolean) ∈ aw_big := big_of 504 (by decide +kernel) (by decide +kernel)
theorem nl_505 : Cond.methodLinkNest "ReactionDesk$Reaction" 167 yK_hasBit "ReactionDesk" ∈ lw_tbl := List.mem_of_getElem? (i := 505) (by decide +kernel)
theorem wd_506 : Cond.static yK_hasBit ∈ aw_big := big_of 506 (by decide +kernel) (by decide +kernel)
theorem wd_507 : Cond.code yK_hasBit cK_hasBit 2 (some .boolean) ∈ aw_big := big_of 507 (by decide +kernel) (by decide +kernel)
theorem wd_508 : Cond.methodLink "ReactionDesk$Reaction" 171 yX_learnStatus ∈ aw_big := big_of 508 (by decide +kernel) (by decide +kernel)
theorem wd_510 : Cond.instanceMethod yX_learnStatus ∈ aw_big := big_of 510 (by decide +kernel) (by decide +kernel)
theorem wd_511 : Cond.code yX_learnStatus cX_learnStatus 3 none ∈ aw_big := big_of 511 (by decide +kernel) (by decide +kernel)
theorem nl_512 : Cond.methodLinkNest "ReactionDesk$Reaction" 75 yO_can "ReactionDesk" ∈ lw_tbl := List.mem_of_getElem? (i := 512) (by decide +kernel)
theorem nl_513 : Cond.methodLinkNest "ReactionDesk$Reaction" 163 yO_withoutSignal "ReactionDesk" ∈ lw_tbl := List.mem_of_getElem? (i := 513) (by decide +kernel)
theorem wd_514 : Cond.static yO_withoutSignal ∈ aw_big := big_of 514 (by decide +kernel) (by decide +kernel)
theorem wd_515 : Cond.code yO_withoutSignal cO_withoutSignal 5 (some .long) ∈ aw_big := big_of 515 (by decide +kernel) (by decide +kernel)
theorem wd_516 : Cond.constantLong "ReactionDesk$Outcome" 26 (-1) ∈ aw_big := big_of 516 (by decide +kernel) (by decide +kernel)
theorem wd_517 : Cond.methodLink "ReactionDesk$Reaction" 87 yX_resume ∈ aw_big := big_of 517 (by decide +kernel) (by decide +kernel)
theorem wd_519 : Cond.instanceMethod yX_resume ∈ aw_big := big_of 519 (by decide +kernel) (by decide +kernel)
theorem wd_520 : Cond.code yX_resume cX_resume 5 (some .long) ∈ aw_big := big_of 520 (by decide +kernel) (by decide +kernel)
theorem nl_521 : Cond.methodLinkNest "ReactionDesk$Reaction" 109 yG_secondOf "ReactionDesk" ∈ lw_tbl := List.mem_of_getElem? (i := 521) (by decide +kernel)
theorem wd_522 : Cond.methodLink "ReactionDesk$Reaction" 123 yX_isSelectedIn ∈ aw_big := big_of 522 (by decide +kernel) (by decide +kernel)
theorem wd_524 : Cond.instanceMethod yX_isSelectedIn ∈ aw_big := big_of 524 (by decide +kernel) (by decide +kernel)
theorem wd_525 : Cond.code yX_isSelectedIn cX_isSelectedIn 2 (some .boolean) ∈ aw_big := big_of 525 (by decide +kernel) (by decide +kernel)
theorem wd_526 : Cond.methodLink "ReactionDesk$Reaction" 127 yX_resumeSuspend ∈ aw_big := big_of 526 (by decide +kernel) (by decide +kernel)
theorem wd_528 : Cond.instanceMethod yX_resumeSuspend ∈ aw_big := big_of 528 (by decide +kernel) (by decide +kernel)
theorem wd_529 : Cond.code yX_resumeSuspend cX_resumeSuspend 3 (some .long) ∈ aw_big := big_of 529 (by decide +kernel) (by decide +kernel)
theorem wd_530 : Cond.methodLink "ReactionDesk$Reaction" 120 yX_tested ∈ aw_big := big_of 530 (by decide +kernel) (by decide +kernel)
theorem wd_532 : Cond.instanceMethod yX_tested ∈ aw_big := big_of 532 (by decide +kernel) (by decide +kernel)
theorem wd_533 : Cond.code yX_tested cX_tested 4 (some .int) ∈ aw_big := big_of 533 (by decide +kernel) (by decide +kernel)
theorem nl_534 : Cond.methodLinkNest "ReactionDesk$Reaction" 175 yK_statusIn "ReactionDesk" ∈ lw_tbl := List.mem_of_getElem? (i := 534) (by decide +kernel)
theorem wd_535 : Cond.static yK_statusIn ∈ aw_big := big_of 535 (by decide +kernel) (by decide +kernel)
theorem wd_536 : Cond.code yK_statusIn cK_statusIn 3 (some .int) ∈ aw_big := big_of 536 (by decide +kernel) (by decide +kernel)
theorem wd_537 : Cond.methodLink "ReactionDesk" 119 yK_hasBit ∈ aw_big := big_of 537 (by decide +kernel) (by decide +kernel)
theorem nl_538 : Cond.methodLinkNest "ReactionDesk$Reaction" 100 yO_of "ReactionDesk" ∈ lw_tbl := List.mem_of_getElem? (i := 538) (by decide +kernel)
theorem wd_539 : Cond.static yO_of ∈ aw_big := big_of 539 (by decide +kernel) (by decide +kernel)
theorem wd_540 : Cond.code yO_of cO_of 4 (some .long) ∈ aw_big := big_of 540 (by decide +kernel) (by decide +kernel)
theorem nl_541 : Cond.methodLinkNest "ReactionDesk$Reaction" 130 yG_weightOf "ReactionDesk" ∈ lw_tbl := List.mem_of_getElem? (i := 541) (by decide +kernel)
theorem wd_542 : Cond.methodLink "ReactionDesk$Reaction" 112 yX_andThen ∈ aw_big := big_of 542 (by decide +kernel) (by decide +kernel)
theorem wd_544 : Cond.instanceMethod yX_andThen ∈ aw_big := big_of 544 (by decide +kernel) (by decide +kernel)
theorem wd_545 : Cond.code yX_andThen cX_andThen 5 (some .long) ∈ aw_big := big_of 545 (by decide +kernel) (by decide +kernel)
theorem nl_546 : Cond.methodLinkNest "ReactionDesk$Reaction" 136 yO_canEndWithZero "ReactionDesk" ∈ lw_tbl := List.mem_of_getElem? (i := 546) (by decide +kernel)
theorem wd_547 : Cond.static yO_canEndWithZero ∈ aw_big := big_of 547 (by decide +kernel) (by decide +kernel)
theorem wd_548 : Cond.code yO_canEndWithZero cO_canEndWithZero 2 (some .boolean) ∈ aw_big := big_of 548 (by decide +kernel) (by decide +kernel)
theorem wd_549 : Cond.constantLong "ReactionDesk$Outcome" 20 (65536) ∈ aw_big := big_of 549 (by decide +kernel) (by decide +kernel)
theorem nl_550 : Cond.methodLinkNest "ReactionDesk$Reaction" 140 yO_withoutZero "ReactionDesk" ∈ lw_tbl := List.mem_of_getElem? (i := 550) (by decide +kernel)
theorem wd_551 : Cond.static yO_withoutZero ∈ aw_big := big_of 551 (by decide +kernel) (by decide +kernel)
theorem wd_552 : Cond.code yO_withoutZero cO_withoutZero 2 (some .long) ∈ aw_big := big_of 552 (by decide +kernel) (by decide +kernel)
theorem wd_553 : Cond.constantLong "ReactionDesk$Outcome" 24 (-281474976776193) ∈ aw_big := big_of 553 (by decide +kernel) (by decide +kernel)
theorem nl_554 : Cond.methodLinkNest "ReactionDesk$Reaction" 144 yO_mustEndWithZero "ReactionDesk" ∈ lw_tbl := List.mem_of_getElem? (i := 554) (by decide +kernel)
theorem wd_555 : Cond.static yO_mustEndWithZero ∈ aw_big := big_of 555 (by decide +kernel) (by decide +kernel)
theorem wd_556 : Cond.code yO_mustEndWithZero cO_mustEndWithZero 2 (some .boolean) ∈ aw_big := big_of 556 (by decide +kernel) (by decide +kernel)
theorem wd_557 : Cond.constantLong "ReactionDesk$Outcome" 22 (281474976710656) ∈ aw_big := big_of 557 (by decide +kernel) (by decide +kernel)
theorem wd_558 : Cond.methodLink "ReactionDesk$Reaction" 133 yX_resumeBranch ∈ aw_big := big_of 558 (by decide +kernel) (by decide +kernel)
theorem wd_560 : Cond.instanceMethod yX_resumeBranch ∈ aw_big := big_of 560 (by decide +kernel) (by decide +kernel)
theorem wd_561 : Cond.code yX_resumeBranch cX_resumeBranch 3 (some .long) ∈ aw_big := big_of 561 (by decide +kernel) (by decide +kernel)
theorem nl_562 : Cond.methodLinkNest "ReactionDesk$Reaction" 116 yO_inParallel "ReactionDesk" ∈ lw_tbl := List.mem_of_getElem? (i := 562) (by decide +kernel)
theorem wd_563 : Cond.static yO_inParallel ∈ aw_big := big_of 563 (by decide +kernel) (by decide +kernel)
theorem wd_564 : Cond.code yO_inParallel cO_inParallel 4 (some .long) ∈ aw_big := big_of 564 (by decide +kernel) (by decide +kernel)
theorem wd_565 : Cond.methodLink "ReactionDesk$Outcome" 32 yO_joined ∈ aw_big := big_of 565 (by decide +kernel) (by decide +kernel)
theorem wd_566 : Cond.static yO_joined ∈ aw_big := big_of 566 (by decide +kernel) (by decide +kernel)
theorem wd_567 : Cond.code yO_joined cO_joined 2 (some .int) ∈ aw_big := big_of 567 (by decide +kernel) (by decide +kernel)
theorem nl_568 : Cond.methodLinkNest "ReactionDesk$Outcome" 48 yC_greaterOfPairs "ReactionDesk" ∈ lw_tbl := List.mem_of_getElem? (i := 568) (by decide +kernel)
theorem wd_569 : Cond.methodLink "ReactionDesk$Reaction" 91 yX_begin ∈ aw_big := big_of 569 (by decide +kernel) (by decide +kernel)
theorem wd_571 : Cond.instanceMethod yX_begin ∈ aw_big := big_of 571 (by decide +kernel) (by decide +kernel)
theorem wd_572 : Cond.code yX_begin cX_begin 5 (some .long) ∈ aw_big := big_of 572 (by decide +kernel) (by decide +kernel)
theorem nl_573 : Cond.methodLinkNest "ReactionDesk$Reaction" 103 yC_ofExit "ReactionDesk" ∈ lw_tbl := List.mem_of_getElem? (i := 573) (by decide +kernel)
theorem wd_574 : Cond.methodLink "ReactionDesk$Reaction" 106 yX_beginPresent ∈ aw_big := big_of 574 (by decide +kernel) (by decide +kernel)
theorem wd_576 : Cond.instanceMethod yX_beginPresent ∈ aw_big := big_of 576 (by decide +kernel) (by decide +kernel)
theorem wd_577 : Cond.code yX_beginPresent cX_beginPresent 6 (some .long) ∈ aw_big := big_of 577 (by decide +kernel) (by decide +kernel)
theorem wd_578 : Cond.methodLink "ReactionDesk$Reaction" 50 yX_learnSignals ∈ aw_big := big_of 578 (by decide +kernel) (by decide +kernel)
theorem wd_580 : Cond.instanceMethod yX_learnSignals ∈ aw_big := big_of 580 (by decide +kernel) (by decide +kernel)
theorem wd_581 : Cond.code yX_learnSignals cX_learnSignals 4 none ∈ aw_big := big_of 581 (by decide +kernel) (by decide +kernel)
theorem wd_582 : Cond.constant "ReactionDesk$Reaction" 74 (65520) ∈ aw_big := big_of 582 (by decide +kernel) (by decide +kernel)
theorem wd_583 : Cond.methodLink "ReactionDesk$Reaction" 53 yX_mustCodes ∈ aw_big := big_of 583 (by decide +kernel) (by decide +kernel)
theorem wd_585 : Cond.instanceMethod yX_mustCodes ∈ aw_big := big_of 585 (by decide +kernel) (by decide +kernel)
theorem wd_586 : Cond.code yX_mustCodes cX_mustCodes 1 (some .int) ∈ aw_big := big_of 586 (by decide +kernel) (by decide +kernel)
theorem nl_587 : Cond.methodLinkNest "ReactionDesk" 96 yX_settle "ReactionDesk" ∈ lw_tbl := List.mem_of_getElem? (i := 587) (by decide +kernel)
theorem wd_589 : Cond.instanceMethod yX_settle ∈ aw_big := big_of 589 (by decide +kernel) (by decide +kernel)
theorem wd_590 : Cond.code yX_settle cX_settle 1 none ∈ aw_big := big_of 590 (by decide +kernel) (by decide +kernel)
theorem nl_591 : Cond.methodLinkNest "ReactionDesk" 99 yX_ends "ReactionDesk" ∈ lw_tbl := List.mem_of_getElem? (i := 591) (by decide +kernel)
theorem wd_593 : Cond.instanceMethod yX_ends ∈ aw_big := big_of 593 (by decide +kernel) (by decide +kernel)
theorem wd_594 : Cond.code yX_ends cX_ends 1 (some .boolean) ∈ aw_big := big_of 594 (by decide +kernel) (by decide +kernel)
theorem wd_595 : Cond.methodLink "ReactionDeskLaw" 65 yL_status ∈ aw_big := big_of 595 (by decide +kernel) (by decide +kernel)
theorem wd_596 : Cond.static yL_status ∈ aw_big := big_of 596 (by decide +kernel) (by decide +kernel)
theorem wd_597 : Cond.codeWith yL_status cL_status 4 (some .int) [(0, 9, 12, 28)] ∈ aw_big := big_of 597 (by decide +kernel) (by decide +kernel)
theorem wd_598 : Cond.classLink "ReactionDeskLaw" 28 "java/lang/IndexOutOfBoundsException" ∈ aw_big := big_of 598 (by decide +kernel) (by decide +kernel)
theorem wd_599 : Cond.methodLink "ReactionDeskLaw" 25 yK_status ∈ aw_big := big_of 599 (by decide +kernel) (by decide +kernel)
theorem wd_600 : Cond.instanceMethod yK_status ∈ aw_big := big_of 600 (by decide +kernel) (by decide +kernel)
theorem wd_601 : Cond.selects "ReactionDesk" yK_status yK_status ∈ aw_big := big_of 601 (by decide +kernel) (by decide +kernel)
theorem wd_602 : Cond.code yK_status cK_status 2 (some .int) ∈ aw_big := big_of 602 (by decide +kernel) (by decide +kernel)
theorem wd_603 : Cond.classLink "ReactionDesk" 102 "java/lang/IndexOutOfBoundsException" ∈ aw_big := big_of 603 (by decide +kernel) (by decide +kernel)
theorem wd_604 : Cond.instantiable "java/lang/IndexOutOfBoundsException" 6 ∈ aw_big := big_of 604 (by decide +kernel) (by decide +kernel)
theorem wd_606 : Cond.selects "java/lang/IndexOutOfBoundsException" ⟨"java/lang/Throwable", "fillInStackTrace", "(I)Ljava/lang/Throwable;"⟩ ⟨"java/lang/Throwable", "fillInStackTrace", "(I)Ljava/lang/Throwable;"⟩ ∈ aw_big := big_of 606 (by decide +kernel) (by decide +kernel)
theorem wd_613 : Cond.methodLink "ReactionDesk" 106 ⟨"java/lang/IndexOutOfBoundsException", "<init>", "(Ljava/lang/String;)V"⟩ ∈ aw_big := big_of 613 (by decide +kernel) (by decide +kernel)
theorem wd_614 : Cond.instanceMethod ⟨"java/lang/IndexOutOfBoundsException", "<init>", "(Ljava/lang/String;)V"⟩ ∈ aw_big := big_of 614 (by decide +kernel) (by decide +kernel)
theorem wd_615 : Cond.code ⟨"java/lang/IndexOutOfBoundsException", "<init>", "(Ljava/lang/String;)V"⟩ prog_11_method_2_code 2 none ∈ aw_big := big_of 615 (by decide +kernel) (by decide +kernel)
theorem wd_616 : Cond.methodLink "java/lang/IndexOutOfBoundsException" 7 ⟨"java/lang/RuntimeException", "<init>", "(Ljava/lang/String;)V"⟩ ∈ aw_big := big_of 616 (by decide +kernel) (by decide +kernel)
theorem wd_619 : Cond.methodLink "ReactionDesk" 107 yK_statusIn ∈ aw_big := big_of 619 (by decide +kernel) (by decide +kernel)
theorem wd_620 : Cond.methodLink "ReactionDeskLaw" 68 yL_selected ∈ aw_big := big_of 620 (by decide +kernel) (by decide +kernel)
theorem wd_621 : Cond.static yL_selected ∈ aw_big := big_of 621 (by decide +kernel) (by decide +kernel)
theorem wd_622 : Cond.codeWith yL_selected cL_selected 4 (some .int) [(0, 16, 19, 28)] ∈ aw_big := big_of 622 (by decide +kernel) (by decide +kernel)
theorem wd_623 : Cond.methodLink "ReactionDeskLaw" 30 yK_selected ∈ aw_big := big_of 623 (by decide +kernel) (by decide +kernel)
theorem wd_624 : Cond.instanceMethod yK_selected ∈ aw_big := big_of 624 (by decide +kernel) (by decide +kernel)
theorem wd_625 : Cond.selects "ReactionDesk" yK_selected yK_selected ∈ aw_big := big_of 625 (by decide +kernel) (by decide +kernel)
theorem wd_626 : Cond.code yK_selected cK_selected 2 (some .boolean) ∈ aw_big := big_of 626 (by decide +kernel) (by decide +kernel)
theorem wd_628 : Cond.methodLink "ReactionDeskLaw" 71 yL_reacts ∈ aw_big := big_of 628 (by decide +kernel) (by decide +kernel)
theorem wd_629 : Cond.static yL_reacts ∈ aw_big := big_of 629 (by decide +kernel) (by decide +kernel)
theorem wd_630 : Cond.codeWith yL_reacts cL_reacts 3 (some .int) [(0, 8, 11, 13)] ∈ aw_big := big_of 630 (by decide +kernel) (by decide +kernel)
theorem wd_631 : Cond.methodLink "ReactionDeskLaw" 34 yK_reacts ∈ aw_big := big_of 631 (by decide +kernel) (by decide +kernel)
theorem wd_632 : Cond.instanceMethod yK_reacts ∈ aw_big := big_of 632 (by decide +kernel) (by decide +kernel)
theorem wd_633 : Cond.selects "ReactionDesk" yK_reacts yK_reacts ∈ aw_big := big_of 633 (by decide +kernel) (by decide +kernel)
theorem wd_634 : Cond.code yK_reacts cK_reacts 3 (some .int) ∈ aw_big := big_of 634 (by decide +kernel) (by decide +kernel)
theorem wd_635 : Cond.methodLink "ReactionDeskLaw" 74 yL_emits ∈ aw_big := big_of 635 (by decide +kernel) (by decide +kernel)
theorem wd_636 : Cond.static yL_emits ∈ aw_big := big_of 636 (by decide +kernel) (by decide +kernel)
theorem wd_637 : Cond.codeWith yL_emits cL_emits 4 (some .int) [(0, 9, 12, 13), (0, 9, 15, 28)] ∈ aw_big := big_of 637 (by decide +kernel) (by decide +kernel)
theorem wd_638 : Cond.methodLink "ReactionDeskLaw" 37 yK_emits ∈ aw_big := big_of 638 (by decide +kernel) (by decide +kernel)
theorem wd_639 : Cond.instanceMethod yK_emits ∈ aw_big := big_of 639 (by decide +kernel) (by decide +kernel)
theorem wd_640 : Cond.selects "ReactionDesk" yK_emits yK_emits ∈ aw_big := big_of 640 (by decide +kernel) (by decide +kernel)
theorem wd_641 : Cond.code yK_emits cK_emits 4 (some .int) ∈ aw_big := big_of 641 (by decide +kernel) (by decide +kernel)
theorem wd_643 : Cond.classLink "ReactionDeskLaw" 41 "ReactionDeskModel" ∈ aw_big := big_of 643 (by decide +kernel) (by decide +kernel)
theorem wd_644 : Cond.instantiable "ReactionDeskModel" 29 ∈ aw_big := big_of 644 (by decide +kernel) (by decide +kernel)
theorem wd_645 : Cond.methodLink "ReactionDeskLaw" 43 yM_init ∈ aw_big := big_of 645 (by decide +kernel) (by decide +kernel)
theorem wd_646 : Cond.instanceMethod yM_init ∈ aw_big := big_of 646 (by decide +kernel) (by decide +kernel)
theorem wd_647 : Cond.code yM_init cM_init 1 none ∈ aw_big := big_of 647 (by decide +kernel) (by decide +kernel)
theorem wd_648 : Cond.methodLink "ReactionDeskModel" 1 ⟨"java/lang/Object", "<init>", "()V"⟩ ∈ aw_big := big_of 648 (by decide +kernel) (by decide +kernel)
theorem wd_649 : Cond.fieldLink "ReactionDeskModel" 69 "ReactionDeskModel" "thrown" "I" ∈ aw_big := big_of 649 (by decide +kernel) (by decide +kernel)
theorem wd_650 : Cond.fieldLink "ReactionDeskModel" 87 "ReactionDeskModel" "size" "I" ∈ aw_big := big_of 650 (by decide +kernel) (by decide +kernel)
theorem wd_651 : Cond.fieldLink "ReactionDeskModel" 90 "ReactionDeskModel" "pauses" "I" ∈ aw_big := big_of 651 (by decide +kernel) (by decide +kernel)
theorem wd_652 : Cond.fieldLink "ReactionDeskModel" 93 "ReactionDeskModel" "weights" "I" ∈ aw_big := big_of 652 (by decide +kernel) (by decide +kernel)
theorem wd_653 : Cond.fieldLink "ReactionDeskModel" 7 "ReactionDeskModel" "due" "I" ∈ aw_big := big_of 653 (by decide +kernel) (by decide +kernel)
theorem wd_654 : Cond.fieldLink "ReactionDeskModel" 13 "ReactionDeskModel" "sort" "[I" ∈ aw_big := big_of 654 (by decide +kernel) (by decide +kernel)
theorem wd_655 : Cond.fieldLink "ReactionDeskModel" 17 "ReactionDeskModel" "x" "[I" ∈ aw_big := big_of 655 (by decide +kernel) (by decide +kernel)
theorem wd_656 : Cond.fieldLink "ReactionDeskModel" 20 "ReactionDeskModel" "first" "[I" ∈ aw_big := big_of 656 (by decide +kernel) (by decide +kernel)
theorem wd_657 : Cond.fieldLink "ReactionDeskModel" 23 "ReactionDeskModel" "second" "[I" ∈ aw_big := big_of 657 (by decide +kernel) (by decide +kernel)
theorem wd_658 : Cond.fieldLink "ReactionDeskModel" 26 "ReactionDeskModel" "end" "[I" ∈ aw_big := big_of 658 (by decide +kernel) (by decide +kernel)
theorem wd_659 : Cond.fieldLink "ReactionDeskModel" 29 "ReactionDeskModel" "depth" "[I" ∈ aw_big := big_of 659 (by decide +kernel) (by decide +kernel)
theorem wd_660 : Cond.fieldLink "ReactionDeskModel" 32 "ReactionDeskModel" "traps" "[I" ∈ aw_big := big_of 660 (by decide +kernel) (by decide +kernel)
theorem wd_661 : Cond.fieldLink "ReactionDeskModel" 35 "ReactionDeskModel" "weight" "[I" ∈ aw_big := big_of 661 (by decide +kernel) (by decide +kernel)
theorem wd_662 : Cond.fieldLink "ReactionDeskModel" 38 "ReactionDeskModel" "pause" "[I" ∈ aw_big := big_of 662 (by decide +kernel) (by decide +kernel)
theorem wd_663 : Cond.fieldLink "ReactionDeskModel" 41 "ReactionDeskModel" "open" "[I" ∈ aw_big := big_of 663 (by decide +kernel) (by decide +kernel)
theorem wd_664 : Cond.fieldLink "ReactionDeskModel" 44 "ReactionDeskModel" "left" "[I" ∈ aw_big := big_of 664 (by decide +kernel) (by decide +kernel)
theorem wd_665 : Cond.fieldLink "ReactionDeskModel" 72 "ReactionDeskModel" "opened" "I" ∈ aw_big := big_of 665 (by decide +kernel) (by decide +kernel)
theorem wd_666 : Cond.fieldLink "ReactionDeskModel" 114 "ReactionDeskModel" "going" "I" ∈ aw_big := big_of 666 (by decide +kernel) (by decide +kernel)
theorem wd_667 : Cond.fieldLink "ReactionDeskModel" 121 "ReactionDeskModel" "reactions" "I" ∈ aw_big := big_of 667 (by decide +kernel) (by decide +kernel)
theorem wd_668 : Cond.fieldLink "ReactionDeskModel" 117 "ReactionDeskModel" "begins" "Z" ∈ aw_big := big_of 668 (by decide +kernel) (by decide +kernel)
theorem wd_669 : Cond.fieldLink "ReactionDeskModel" 47 "ReactionDeskModel" "selected" "[Z" ∈ aw_big := big_of 669 (by decide +kernel) (by decide +kernel)
theorem wd_670 : Cond.fieldLink "ReactionDeskModel" 51 "ReactionDeskModel" "next" "[Z" ∈ aw_big := big_of 670 (by decide +kernel) (by decide +kernel)
theorem wd_671 : Cond.fieldLink "ReactionDeskModel" 54 "ReactionDeskModel" "shown" "[I" ∈ aw_big := big_of 671 (by decide +kernel) (by decide +kernel)
theorem wd_672 : Cond.fieldLink "ReactionDeskModel" 57 "ReactionDeskModel" "status" "[I" ∈ aw_big := big_of 672 (by decide +kernel) (by decide +kernel)
theorem wd_673 : Cond.fieldLink "ReactionDeskModel" 60 "ReactionDeskModel" "must" "[Z" ∈ aw_big := big_of 673 (by decide +kernel) (by decide +kernel)
theorem wd_674 : Cond.fieldLink "ReactionDeskModel" 63 "ReactionDeskModel" "can" "[Z" ∈ aw_big := big_of 674 (by decide +kernel) (by decide +kernel)
theorem wd_675 : Cond.fieldLink "ReactionDeskModel" 66 "ReactionDeskModel" "meant" "[I" ∈ aw_big := big_of 675 (by decide +kernel) (by decide +kernel)
theorem wd_676 : Cond.fieldLink "ReactionDeskModel" 167 "ReactionDeskModel" "way" "I" ∈ aw_big := big_of 676 (by decide +kernel) (by decide +kernel)
theorem wd_677 : Cond.fieldLink "ReactionDeskModel" 173 "ReactionDeskModel" "doubt" "Z" ∈ aw_big := big_of 677 (by decide +kernel) (by decide +kernel)
theorem wd_737 : Cond.arrayClass .boolean ∈ aw_big := big_of 737 (by decide +kernel) (by decide +kernel)
theorem wd_738 : Cond.methodLink "ReactionDeskLaw" 50 yM_thrown ∈ aw_big := big_of 738 (by decide +kernel) (by decide +kernel)
theorem wd_739 : Cond.instanceMethod yM_thrown ∈ aw_big := big_of 739 (by decide +kernel) (by decide +kernel)
theorem wd_740 : Cond.selects "ReactionDeskModel" yM_thrown yM_thrown ∈ aw_big := big_of 740 (by decide +kernel) (by decide +kernel)
theorem wd_741 : Cond.code yM_thrown cM_thrown 1 (some .int) ∈ aw_big := big_of 741 (by decide +kernel) (by decide +kernel)
theorem wd_742 : Cond.methodLink "ReactionDeskLaw" 49 yM_put ∈ aw_big := big_of 742 (by decide +kernel) (by decide +kernel)
theorem wd_743 : Cond.instanceMethod yM_put ∈ aw_big := big_of 743 (by decide +kernel) (by decide +kernel)
theorem wd_744 : Cond.selects "ReactionDeskModel" yM_put yM_put ∈ aw_big := big_of 744 (by decide +kernel) (by decide +kernel)
theorem wd_745 : Cond.code yM_put cM_put 9 (some .int) ∈ aw_big := big_of 745 (by decide +kernel) (by decide +kernel)
theorem wd_746 : Cond.methodLink "ReactionDeskModel" 79 yM_isSaid ∈ aw_big := big_of 746 (by decide +kernel) (by decide +kernel)
theorem wd_748 : Cond.instanceMethod yM_isSaid ∈ aw_big := big_of 748 (by decide +kernel) (by decide +kernel)
theorem wd_749 : Cond.code yM_isSaid cM_isSaid 3 (some .boolean) ∈ aw_big := big_of 749 (by decide +kernel) (by decide +kernel)
theorem wd_750 : Cond.methodLink "ReactionDeskModel" 75 yM_trapsHere ∈ aw_big := big_of 750 (by decide +kernel) (by decide +kernel)
theorem wd_752 : Cond.instanceMethod yM_trapsHere ∈ aw_big := big_of 752 (by decide +kernel) (by decide +kernel)
theorem wd_753 : Cond.code yM_trapsHere cM_trapsHere 1 (some .int) ∈ aw_big := big_of 753 (by decide +kernel) (by decide +kernel)
theorem wd_754 : Cond.methodLink "ReactionDeskModel" 83 yM_fails ∈ aw_big := big_of 754 (by decide +kernel) (by decide +kernel)
theorem wd_756 : Cond.instanceMethod yM_fails ∈ aw_big := big_of 756 (by decide +kernel) (by decide +kernel)
theorem wd_757 : Cond.code yM_fails cM_fails 3 (some .boolean) ∈ aw_big := big_of 757 (by decide +kernel) (by decide +kernel)
theorem wd_758 : Cond.methodLink "ReactionDeskModel" 96 yM_partsOf ∈ aw_big := big_of 758 (by decide +kernel) (by decide +kernel)
theorem wd_759 : Cond.static yM_partsOf ∈ aw_big := big_of 759 (by decide +kernel) (by decide +kernel)
theorem wd_760 : Cond.code yM_partsOf cM_partsOf 1 (some .int) ∈ aw_big := big_of 760 (by decide +kernel) (by decide +kernel)
theorem wd_761 : Cond.methodLink "ReactionDeskLaw" 56 yM_start ∈ aw_big := big_of 761 (by decide +kernel) (by decide +kernel)
theorem wd_762 : Cond.instanceMethod yM_start ∈ aw_big := big_of 762 (by decide +kernel) (by decide +kernel)
theorem wd_763 : Cond.selects "ReactionDeskModel" yM_start yM_start ∈ aw_big := big_of 763 (by decide +kernel) (by decide +kernel)
theorem wd_764 : Cond.code yM_start cM_start 3 (some .int) ∈ aw_big := big_of 764 (by decide +kernel) (by decide +kernel)
theorem wd_765 : Cond.methodLink "ReactionDeskModel" 110 yM_rest ∈ aw_big := big_of 765 (by decide +kernel) (by decide +kernel)
theorem wd_767 : Cond.instanceMethod yM_rest ∈ aw_big := big_of 767 (by decide +kernel) (by decide +kernel)
theorem wd_768 : Cond.code yM_rest cM_rest 3 none ∈ aw_big := big_of 768 (by decide +kernel) (by decide +kernel)
theorem wd_769 : Cond.methodLink "ReactionDeskModel" 100 yM_codes ∈ aw_big := big_of 769 (by decide +kernel) (by decide +kernel)
theorem wd_771 : Cond.instanceMethod yM_codes ∈ aw_big := big_of 771 (by decide +kernel) (by decide +kernel)
theorem wd_772 : Cond.code yM_codes cM_codes 4 (some .int) ∈ aw_big := big_of 772 (by decide +kernel) (by decide +kernel)
theorem wd_773 : Cond.methodLink "ReactionDeskModel" 103 yM_pairs ∈ aw_big := big_of 773 (by decide +kernel) (by decide +kernel)
theorem wd_774 : Cond.static yM_pairs ∈ aw_big := big_of 774 (by decide +kernel) (by decide +kernel)
theorem wd_775 : Cond.code yM_pairs cM_pairs 5 (some .int) ∈ aw_big := big_of 775 (by decide +kernel) (by decide +kernel)
theorem wd_776 : Cond.methodLink "ReactionDeskModel" 107 yM_caught ∈ aw_big := big_of 776 (by decide +kernel) (by decide +kernel)
theorem wd_777 : Cond.static yM_caught ∈ aw_big := big_of 777 (by decide +kernel) (by decide +kernel)
theorem wd_778 : Cond.code yM_caught cM_caught 1 (some .int) ∈ aw_big := big_of 778 (by decide +kernel) (by decide +kernel)
theorem wd_779 : Cond.methodLink "ReactionDeskLaw" 60 yM_clear ∈ aw_big := big_of 779 (by decide +kernel) (by decide +kernel)
theorem wd_780 : Cond.instanceMethod yM_clear ∈ aw_big := big_of 780 (by decide +kernel) (by decide +kernel)
theorem wd_781 : Cond.selects "ReactionDeskModel" yM_clear yM_clear ∈ aw_big := big_of 781 (by decide +kernel) (by decide +kernel)
theorem wd_782 : Cond.code yM_clear cM_clear 2 (some .int) ∈ aw_big := big_of 782 (by decide +kernel) (by decide +kernel)
theorem wd_783 : Cond.methodLink "ReactionDeskLaw" 64 yM_instant ∈ aw_big := big_of 783 (by decide +kernel) (by decide +kernel)
theorem wd_784 : Cond.instanceMethod yM_instant ∈ aw_big := big_of 784 (by decide +kernel) (by decide +kernel)
theorem wd_785 : Cond.selects "ReactionDeskModel" yM_instant yM_instant ∈ aw_big := big_of 785 (by decide +kernel) (by decide +kernel)
theorem wd_786 : Cond.code yM_instant cM_instant 5 (some .int) ∈ aw_big := big_of 786 (by decide +kernel) (by decide +kernel)
theorem wd_787 : Cond.methodLink "ReactionDeskModel" 180 yM_react ∈ aw_big := big_of 787 (by decide +kernel) (by decide +kernel)
theorem wd_789 : Cond.instanceMethod yM_react ∈ aw_big := big_of 789 (by decide +kernel) (by decide +kernel)
theorem wd_790 : Cond.code yM_react cM_react 5 (some .int) ∈ aw_big := big_of 790 (by decide +kernel) (by decide +kernel)
theorem wd_791 : Cond.methodLink "ReactionDeskModel" 142 yM_run ∈ aw_big := big_of 791 (by decide +kernel) (by decide +kernel)
theorem wd_793 : Cond.instanceMethod yM_run ∈ aw_big := big_of 793 (by decide +kernel) (by decide +kernel)
theorem wd_794 : Cond.code yM_run cM_run 4 (some .int) ∈ aw_big := big_of 794 (by decide +kernel) (by decide +kernel)
theorem wd_795 : Cond.methodLink "ReactionDeskModel" 127 yM_simple ∈ aw_big := big_of 795 (by decide +kernel) (by decide +kernel)
theorem wd_797 : Cond.instanceMethod yM_simple ∈ aw_big := big_of 797 (by decide +kernel) (by decide +kernel)
theorem wd_798 : Cond.code yM_simple cM_simple 4 (some .int) ∈ aw_big := big_of 798 (by decide +kernel) (by decide +kernel)
theorem wd_799 : Cond.methodLink "ReactionDeskModel" 124 yM_outcome ∈ aw_big := big_of 799 (by decide +kernel) (by decide +kernel)
theorem wd_800 : Cond.static yM_outcome ∈ aw_big := big_of 800 (by decide +kernel) (by decide +kernel)
theorem wd_801 : Cond.code yM_outcome cM_outcome 2 (some .int) ∈ aw_big := big_of 801 (by decide +kernel) (by decide +kernel)
theorem wd_802 : Cond.methodLink "ReactionDeskModel" 131 yM_present ∈ aw_big := big_of 802 (by decide +kernel) (by decide +kernel)
theorem wd_804 : Cond.instanceMethod yM_present ∈ aw_big := big_of 804 (by decide +kernel) (by decide +kernel)
theorem wd_805 : Cond.code yM_present cM_present 7 (some .int) ∈ aw_big := big_of 805 (by decide +kernel) (by decide +kernel)
theorem wd_806 : Cond.methodLink "ReactionDeskModel" 138 yM_has ∈ aw_big := big_of 806 (by decide +kernel) (by decide +kernel)
theorem wd_808 : Cond.instanceMethod yM_has ∈ aw_big := big_of 808 (by decide +kernel) (by decide +kernel)
theorem wd_809 : Cond.code yM_has cM_has 3 (some .boolean) ∈ aw_big := big_of 809 (by decide +kernel) (by decide +kernel)
theorem wd_810 : Cond.methodLink "ReactionDeskModel" 158 yM_test ∈ aw_big := big_of 810 (by decide +kernel) (by decide +kernel)
theorem wd_812 : Cond.instanceMethod yM_test ∈ aw_big := big_of 812 (by decide +kernel) (by decide +kernel)
theorem wd_813 : Cond.code yM_test cM_test 3 (some .int) ∈ aw_big := big_of 813 (by decide +kernel) (by decide +kernel)
theorem wd_814 : Cond.methodLink "ReactionDeskModel" 161 yM_canOf ∈ aw_big := big_of 814 (by decide +kernel) (by decide +kernel)
theorem wd_815 : Cond.static yM_canOf ∈ aw_big := big_of 815 (by decide +kernel) (by decide +kernel)
theorem wd_816 : Cond.code yM_canOf cM_canOf 1 (some .int) ∈ aw_big := big_of 816 (by decide +kernel) (by decide +kernel)
theorem wd_817 : Cond.methodLink "ReactionDeskModel" 135 yM_suspend ∈ aw_big := big_of 817 (by decide +kernel) (by decide +kernel)
theorem wd_819 : Cond.instanceMethod yM_suspend ∈ aw_big := big_of 819 (by decide +kernel) (by decide +kernel)
theorem wd_820 : Cond.code yM_suspend cM_suspend 6 (some .int) ∈ aw_big := big_of 820 (by decide +kernel) (by decide +kernel)
theorem wd_821 : Cond.methodLink "ReactionDeskModel" 145 yM_behind ∈ aw_big := big_of 821 (by decide +kernel) (by decide +kernel)
theorem wd_823 : Cond.instanceMethod yM_behind ∈ aw_big := big_of 823 (by decide +kernel) (by decide +kernel)
theorem wd_824 : Cond.code yM_behind cM_behind 9 (some .int) ∈ aw_big := big_of 824 (by decide +kernel) (by decide +kernel)
theorem wd_825 : Cond.methodLink "ReactionDeskModel" 164 yM_mustOf ∈ aw_big := big_of 825 (by decide +kernel) (by decide +kernel)
theorem wd_826 : Cond.static yM_mustOf ∈ aw_big := big_of 826 (by decide +kernel) (by decide +kernel)
theorem wd_827 : Cond.code yM_mustOf cM_mustOf 1 (some .int) ∈ aw_big := big_of 827 (by decide +kernel) (by decide +kernel)
theorem wd_828 : Cond.methodLink "ReactionDeskModel" 149 yM_parallel ∈ aw_big := big_of 828 (by decide +kernel) (by decide +kernel)
theorem wd_830 : Cond.instanceMethod yM_parallel ∈ aw_big := big_of 830 (by decide +kernel) (by decide +kernel)
theorem wd_831 : Cond.code yM_parallel cM_parallel 7 (some .int) ∈ aw_big := big_of 831 (by decide +kernel) (by decide +kernel)
theorem wd_832 : Cond.methodLink "ReactionDeskModel" 170 yM_side ∈ aw_big := big_of 832 (by decide +kernel) (by decide +kernel)
theorem wd_834 : Cond.instanceMethod yM_side ∈ aw_big := big_of 834 (by decide +kernel) (by decide +kernel)
theorem wd_835 : Cond.code yM_side cM_side 4 (some .int) ∈ aw_big := big_of 835 (by decide +kernel) (by decide +kernel)
theorem wd_836 : Cond.methodLink "ReactionDeskModel" 152 yM_trap ∈ aw_big := big_of 836 (by decide +kernel) (by decide +kernel)
theorem wd_838 : Cond.instanceMethod yM_trap ∈ aw_big := big_of 838 (by decide +kernel) (by decide +kernel)
theorem wd_839 : Cond.code yM_trap cM_trap 7 (some .int) ∈ aw_big := big_of 839 (by decide +kernel) (by decide +kernel)
theorem wd_840 : Cond.methodLink "ReactionDeskModel" 155 yM_local ∈ aw_big := big_of 840 (by decide +kernel) (by decide +kernel)
theorem wd_842 : Cond.instanceMethod yM_local ∈ aw_big := big_of 842 (by decide +kernel) (by decide +kernel)
theorem wd_843 : Cond.code yM_local cM_local 7 (some .int) ∈ aw_big := big_of 843 (by decide +kernel) (by decide +kernel)
theorem wd_844 : Cond.methodLink "ReactionDeskModel" 176 yM_learns ∈ aw_big := big_of 844 (by decide +kernel) (by decide +kernel)
theorem wd_846 : Cond.instanceMethod yM_learns ∈ aw_big := big_of 846 (by decide +kernel) (by decide +kernel)
theorem wd_847 : Cond.code yM_learns cM_learns 3 (some .boolean) ∈ aw_big := big_of 847 (by decide +kernel) (by decide +kernel)
theorem wd_848 : Cond.methodLink "ReactionDeskLaw" 67 yM_status ∈ aw_big := big_of 848 (by decide +kernel) (by decide +kernel)
theorem wd_849 : Cond.instanceMethod yM_status ∈ aw_big := big_of 849 (by decide +kernel) (by decide +kernel)
theorem wd_850 : Cond.selects "ReactionDeskModel" yM_status yM_status ∈ aw_big := big_of 850 (by decide +kernel) (by decide +kernel)
theorem wd_851 : Cond.code yM_status cM_status 2 (some .int) ∈ aw_big := big_of 851 (by decide +kernel) (by decide +kernel)
theorem wd_852 : Cond.methodLink "ReactionDeskLaw" 70 yM_selected ∈ aw_big := big_of 852 (by decide +kernel) (by decide +kernel)
theorem wd_853 : Cond.instanceMethod yM_selected ∈ aw_big := big_of 853 (by decide +kernel) (by decide +kernel)
theorem wd_854 : Cond.selects "ReactionDeskModel" yM_selected yM_selected ∈ aw_big := big_of 854 (by decide +kernel) (by decide +kernel)
theorem wd_855 : Cond.code yM_selected cM_selected 2 (some .boolean) ∈ aw_big := big_of 855 (by decide +kernel) (by decide +kernel)
theorem wd_856 : Cond.methodLink "ReactionDeskLaw" 73 yM_reacts ∈ aw_big := big_of 856 (by decide +kernel) (by decide +kernel)
theorem wd_857 : Cond.instanceMethod yM_reacts ∈ aw_big := big_of 857 (by decide +kernel) (by decide +kernel)
theorem wd_858 : Cond.selects "ReactionDeskModel" yM_reacts yM_reacts ∈ aw_big := big_of 858 (by decide +kernel) (by decide +kernel)
theorem wd_859 : Cond.code yM_reacts cM_reacts 3 (some .int) ∈ aw_big := big_of 859 (by decide +kernel) (by decide +kernel)
theorem wd_860 : Cond.methodLink "ReactionDeskLaw" 76 yM_emits ∈ aw_big := big_of 860 (by decide +kernel) (by decide +kernel)
theorem wd_861 : Cond.instanceMethod yM_emits ∈ aw_big := big_of 861 (by decide +kernel) (by decide +kernel)
theorem wd_862 : Cond.selects "ReactionDeskModel" yM_emits yM_emits ∈ aw_big := big_of 862 (by decide +kernel) (by decide +kernel)
theorem wd_863 : Cond.code yM_emits cM_emits 5 (some .int) ∈ aw_big := big_of 863 (by decide +kernel) (by decide +kernel)
theorem wd_864 : Cond.methodLink "ReactionDeskLaw" 80 yM_count ∈ aw_big := big_of 864 (by decide +kernel) (by decide +kernel)
theorem wd_865 : Cond.instanceMethod yM_count ∈ aw_big := big_of 865 (by decide +kernel) (by decide +kernel)
theorem wd_866 : Cond.selects "ReactionDeskModel" yM_count yM_count ∈ aw_big := big_of 866 (by decide +kernel) (by decide +kernel)
theorem wd_867 : Cond.code yM_count cM_count 4 (some .int) ∈ aw_big := big_of 867 (by decide +kernel) (by decide +kernel)
theorem wd_868 : Cond.arrayClass .long ∈ aw_big := big_of 868 (by decide +kernel) (by decide +kernel)
theorem iw_K : ∀ w ∈ u_ws RK TK 6, w ∈ aw_big := by decide +kernel
theorem iw_G : ∀ w ∈ u_ws RG TG 15, w ∈ aw_big := by decide +kernel
theorem iw_X : ∀ w ∈ u_ws RX TX 9, w ∈ aw_big := by decide +kernel
theorem iw_M : ∀ w ∈ u_ws RM TM 29, w ∈ aw_big := by decide +kernel
end
section
theorem dK_init_0 : decode cK_init 0 = .ok (.aload_n 0, 1) := by decide +kernel
theorem dK_init_1 : decode cK_init 1 = .ok (.invokespecial 1, 3) := by decide +kernel
theorem dK_init_4 : decode cK_init 4 = .ok (.aload_n 0, 1) := by decide +kernel
theorem dK_init_5 : decode cK_init 5 = .ok (.new 7, 3) := by decide +kernel
theorem dK_init_8 : decode cK_init 8 = .ok (.dup, 1) := by decide +kernel
theorem dK_init_9 : decode cK_init 9 = .ok (.invokespecial 9, 3) := by decide +kernel
theorem dK_init_12 : decode cK_init 12 = .ok (.putfield 10, 3) := by decide +kernel
theorem dK_init_15 : decode cK_init 15 = .ok (.aload_n 0, 1) := by decide +kernel
theorem dK_init_16 : decode cK_init 16 = .ok (.new 16, 3) := by decide +kernel
theorem dK_init_19 : decode cK_init 19 = .ok (.dup, 1) := by decide +kernel
theorem dK_init_20 : decode cK_init 20 = .ok (.aload_n 0, 1) := by decide +kernel
theorem dK_init_21 : decode cK_init 21 = .ok (.getfield 10, 3) := by decide +kernel
theorem dK_init_24 : decode cK_init 24 = .ok (.invokespecial 18, 3) := by decide +kernel
theorem dK_init_27 : decode cK_init 27 = .ok (.putfield 21, 3) := by decide +kernel
theorem dK_init_30 : decode cK_init 30 = .ok (.aload_n 0, 1) := by decide +kernel
theorem dK_init_31 : decode cK_init 31 = .ok (.iconst 0, 1) := by decide +kernel
theorem dK_init_32 : decode cK_init 32 = .ok (.putfield 25, 3) := by decide +kernel
theorem dK_init_35 : decode cK_init 35 = .ok (.aload_n 0, 1) := by decide +kernel
theorem dK_init_36 : decode cK_init 36 = .ok (.ldc 29, 2) := by decide +kernel
theorem dK_init_38 : decode cK_init 38 = .ok (.putfield 30, 3) := by decide +kernel
theorem dK_init_41 : decode cK_init 41 = .ok (.return_, 1) := by decide +kernel
theorem dG_init_0 : decode cG_init 0 = .ok (.aload_n 0, 1) := by decide +kernel
theorem dG_init_1 : decode cG_init 1 = .ok (.invokespecial 3, 3) := by decide +kernel
theorem dG_init_4 : decode cG_init 4 = .ok (.aload_n 0, 1) := by decide +kernel
theorem dG_init_5 : decode cG_init 5 = .ok (.bipush 120, 2) := by decide +kernel
theorem dG_init_7 : decode cG_init 7 = .ok (.newarray .int, 2) := by decide +kernel
theorem dG_init_9 : decode cG_init 9 = .ok (.putfield 9, 3) := by decide +kernel
theorem dG_init_12 : decode cG_init 12 = .ok (.aload_n 0, 1) := by decide +kernel
theorem dG_init_13 : decode cG_init 13 = .ok (.bipush 120, 2) := by decide +kernel
theorem dG_init_15 : decode cG_init 15 = .ok (.newarray .int, 2) := by decide +kernel
theorem dG_init_17 : decode cG_init 17 = .ok (.putfield 15, 3) := by decide +kernel
theorem dG_init_20 : decode cG_init 20 = .ok (.aload_n 0, 1) := by decide +kernel
theorem dG_init_21 : decode cG_init 21 = .ok (.bipush 120, 2) := by decide +kernel
theorem dG_init_23 : decode cG_init 23 = .ok (.newarray .int, 2) := by decide +kernel
theorem dG_init_25 : decode cG_init 25 = .ok (.putfield 18, 3) := by decide +kernel
theorem dG_init_28 : decode cG_init 28 = .ok (.aload_n 0, 1) := by decide +kernel
theorem dG_init_29 : decode cG_init 29 = .ok (.bipush 120, 2) := by decide +kernel
theorem dG_init_31 : decode cG_init 31 = .ok (.newarray .int, 2) := by decide +kernel
theorem dG_init_33 : decode cG_init 33 = .ok (.putfield 21, 3) := by decide +kernel
theorem dG_init_36 : decode cG_init 36 = .ok (.aload_n 0, 1) := by decide +kernel
theorem dG_init_37 : decode cG_init 37 = .ok (.bipush 120, 2) := by decide +kernel
theorem dG_init_39 : decode cG_init 39 = .ok (.newarray .int, 2) := by decide +kernel
theorem dG_init_41 : decode cG_init 41 = .ok (.putfield 24, 3) := by decide +kernel
theorem dG_init_44 : decode cG_init 44 = .ok (.aload_n 0, 1) := by decide +kernel
theorem dG_init_45 : decode cG_init 45 = .ok (.bipush 120, 2) := by decide +kernel
theorem dG_init_47 : decode cG_init 47 = .ok (.newarray .int, 2) := by decide +kernel
theorem dG_init_49 : decode cG_init 49 = .ok (.putfield 27, 3) := by decide +kernel
theorem dG_init_52 : decode cG_init 52 = .ok (.aload_n 0, 1) := by decide +kernel
theorem dG_init_53 : decode cG_init 53 = .ok (.bipush 120, 2) := by decide +kernel
theorem dG_init_55 : decode cG_init 55 = .ok (.newarray .int, 2) := by decide +kernel
theorem dG_init_57 : decode cG_init 57 = .ok (.putfield 30, 3) := by decide +kernel
theorem dG_init_60 : decode cG_init 60 = .ok (.aload_n 0, 1) := by decide +kernel
theorem dG_init_61 : decode cG_init 61 = .ok (.bipush 24, 2) := by decide +kernel
theorem dG_init_63 : decode cG_init 63 = .ok (.newarray .int, 2) := by decide +kernel
theorem dG_init_65 : decode cG_init 65 = .ok (.putfield 33, 3) := by decide +kernel
theorem dG_init_68 : decode cG_init 68 = .ok (.aload_n 0, 1) := by decide +kernel
theorem dG_init_69 : decode cG_init 69 = .ok (.bipush 24, 2) := by decide +kernel
theorem dG_init_71 : decode cG_init 71 = .ok (.newarray .int, 2) := by decide +kernel
theorem dG_init_73 : decode cG_init 73 = .ok (.putfield 36, 3) := by decide +kernel
theorem dG_init_76 : decode cG_init 76 = .ok (.aload_n 0, 1) := by decide +kernel
theorem dG_init_77 : decode cG_init 77 = .ok (.iconst 1, 1) := by decide +kernel
theorem dG_init_78 : decode cG_init 78 = .ok (.putfield 39, 3) := by decide +kernel
theorem dG_init_81 : decode cG_init 81 = .ok (.return_, 1) := by decide +kernel
theorem dX_init_0 : decode cX_init 0 = .ok (.aload_n 0, 1) := by decide +kernel
theorem dX_init_1 : decode cX_init 1 = .ok (.invokespecial 3, 3) := by decide +kernel
theorem dX_init_4 : decode cX_init 4 = .ok (.aload_n 0, 1) := by decide +kernel
theorem dX_init_5 : decode cX_init 5 = .ok (.sipush 360, 3) := by decide +kernel
theorem dX_init_8 : decode cX_init 8 = .ok (.newarray .int, 2) := by decide +kernel
theorem dX_init_10 : decode cX_init 10 = .ok (.putfield 9, 3) := by decide +kernel
theorem dX_init_13 : decode cX_init 13 = .ok (.aload_n 0, 1) := by decide +kernel
theorem dX_init_14 : decode cX_init 14 = .ok (.aload_n 1, 1) := by decide +kernel
theorem dX_init_15 : decode cX_init 15 = .ok (.putfield 15, 3) := by decide +kernel
theorem dX_init_18 : decode cX_init 18 = .ok (.return_, 1) := by decide +kernel
theorem dK_clear_0 : decode cK_clear 0 = .ok (.aload_n 0, 1) := by decide +kernel
theorem dK_clear_1 : decode cK_clear 1 = .ok (.iconst 0, 1) := by decide +kernel
theorem dK_clear_2 : decode cK_clear 2 = .ok (.invokevirtual 70, 3) := by decide +kernel
theorem dK_clear_5 : decode cK_clear 5 = .ok (.aload_n 0, 1) := by decide +kernel
theorem dK_clear_6 : decode cK_clear 6 = .ok (.getfield 10, 3) := by decide +kernel
theorem dK_clear_9 : decode cK_clear 9 = .ok (.invokevirtual 74, 3) := by decide +kernel
theorem dK_clear_12 : decode cK_clear 12 = .ok (.ireturn, 1) := by decide +kernel
theorem dK_rewind_0 : decode cK_rewind 0 = .ok (.aload_n 0, 1) := by decide +kernel
theorem dK_rewind_1 : decode cK_rewind 1 = .ok (.iload_n 1, 1) := by decide +kernel
theorem dK_rewind_2 : decode cK_rewind 2 = .ok (.putfield 25, 3) := by decide +kernel
theorem dK_rewind_5 : decode cK_rewind 5 = .ok (.aload_n 0, 1) := by decide +kernel
theorem dK_rewind_6 : decode cK_rewind 6 = .ok (.iconst 0, 1) := by decide +kernel
theorem dK_rewind_7 : decode cK_rewind 7 = .ok (.putfield 93, 3) := by decide +kernel
theorem dK_rewind_10 : decode cK_rewind 10 = .ok (.aload_n 0, 1) := by decide +kernel
theorem dK_rewind_11 : decode cK_rewind 11 = .ok (.ldc 29, 2) := by decide +kernel
theorem dK_rewind_13 : decode cK_rewind 13 = .ok (.putfield 30, 3) := by decide +kernel
theorem dK_rewind_16 : decode cK_rewind 16 = .ok (.aload_n 0, 1) := by decide +kernel
theorem dK_rewind_17 : decode cK_rewind 17 = .ok (.iconst 0, 1) := by decide +kernel
theorem dK_rewind_18 : decode cK_rewind 18 = .ok (.putfield 90, 3) := by decide +kernel
theorem dK_rewind_21 : decode cK_rewind 21 = .ok (.aload_n 0, 1) := by decide +kernel
theorem dK_rewind_22 : decode cK_rewind 22 = .ok (.getfield 21, 3) := by decide +kernel
theorem dK_rewind_25 : decode cK_rewind 25 = .ok (.invokevirtual 139, 3) := by decide +kernel
theorem dK_rewind_28 : decode cK_rewind 28 = .ok (.return_, 1) := by decide +kernel
theorem dX_rewind_0 : decode cX_rewind 0 = .ok (.aload_n 0, 1) := by decide +kernel
theorem dX_rewind_1 : decode cX_rewind 1 = .ok (.iconst 0, 1) := by decide +kernel
theorem dX_rewind_2 : decode cX_rewind 2 = .ok (.putfield 19, 3) := by decide +kernel
theorem dX_rewind_5 : decode cX_rewind 5 = .ok (.aload_n 0, 1) := by decide +kernel
theorem dX_rewind_6 : decode cX_rewind 6 = .ok (.iconst 0, 1) := by decide +kernel
theorem dX_rewind_7 : decode cX_rewind 7 = .ok (.putfield 23, 3) := by decide +kernel
theorem dX_rewind_10 : decode cX_rewind 10 = .ok (.return_, 1) := by decide +kernel
theorem dG_forget_0 : decode cG_forget 0 = .ok (.aload_n 0, 1) := by decide +kernel
theorem dG_forget_1 : decode cG_forget 1 = .ok (.getfield 43, 3) := by decide +kernel
theorem dG_forget_4 : decode cG_forget 4 = .ok (.istore_n 1, 1) := by decide +kernel
theorem dG_forget_5 : decode cG_forget 5 = .ok (.aload_n 0, 1) := by decide +kernel
theorem dG_forget_6 : decode cG_forget 6 = .ok (.iconst 0, 1) := by decide +kernel
theorem dG_forget_7 : decode cG_forget 7 = .ok (.putfield 46, 3) := by decide +kernel
theorem dG_forget_10 : decode cG_forget 10 = .ok (.aload_n 0, 1) := by decide +kernel
theorem dG_forget_11 : decode cG_forget 11 = .ok (.iconst 0, 1) := by decide +kernel
theorem dG_forget_12 : decode cG_forget 12 = .ok (.putfield 43, 3) := by decide +kernel
theorem dG_forget_15 : decode cG_forget 15 = .ok (.aload_n 0, 1) := by decide +kernel
theorem dG_forget_16 : decode cG_forget 16 = .ok (.iconst 1, 1) := by decide +kernel
theorem dG_forget_17 : decode cG_forget 17 = .ok (.putfield 39, 3) := by decide +kernel
theorem dG_forget_20 : decode cG_forget 20 = .ok (.aload_n 0, 1) := by decide +kernel
theorem dG_forget_21 : decode cG_forget 21 = .ok (.iconst 0, 1) := by decide +kernel
theorem dG_forget_22 : decode cG_forget 22 = .ok (.putfield 49, 3) := by decide +kernel
theorem dG_forget_25 : decode cG_forget 25 = .ok (.aload_n 0, 1) := by decide +kernel
theorem dG_forget_26 : decode cG_forget 26 = .ok (.iconst 0, 1) := by decide +kernel
theorem dG_forget_27 : decode cG_forget 27 = .ok (.putfield 52, 3) := by decide +kernel
theorem dG_forget_30 : decode cG_forget 30 = .ok (.aload_n 0, 1) := by decide +kernel
theorem dG_forget_31 : decode cG_forget 31 = .ok (.iconst 0, 1) := by decide +kernel
theorem dG_forget_32 : decode cG_forget 32 = .ok (.putfield 55, 3) := by decide +kernel
theorem dG_forget_35 : decode cG_forget 35 = .ok (.iload_n 1, 1) := by decide +kernel
theorem dG_forget_36 : decode cG_forget 36 = .ok (.ireturn, 1) := by decide +kernel
theorem dK_count_0 : decode cK_count 0 = .ok (.iload_n 1, 1) := by decide +kernel
theorem dK_count_1 : decode cK_count 1 = .ok (.tableswitch 108 0 7 #[47, 55, 63, 71, 79, 87, 92, 103], 47) := by decide +kernel
theorem dK_count_48 : decode cK_count 48 = .ok (.aload_n 0, 1) := by decide +kernel
theorem dK_count_49 : decode cK_count 49 = .ok (.getfield 10, 3) := by decide +kernel
theorem dK_count_52 : decode cK_count 52 = .ok (.getfield 124, 3) := by decide +kernel
theorem dK_count_55 : decode cK_count 55 = .ok (.ireturn, 1) := by decide +kernel
theorem dK_count_56 : decode cK_count 56 = .ok (.aload_n 0, 1) := by decide +kernel
theorem dK_count_57 : decode cK_count 57 = .ok (.getfield 10, 3) := by decide +kernel
theorem dK_count_60 : decode cK_count 60 = .ok (.getfield 61, 3) := by decide +kernel
theorem dK_count_63 : decode cK_count 63 = .ok (.ireturn, 1) := by decide +kernel
theorem dK_count_64 : decode cK_count 64 = .ok (.aload_n 0, 1) := by decide +kernel
theorem dK_count_65 : decode cK_count 65 = .ok (.getfield 10, 3) := by decide +kernel
theorem dK_count_68 : decode cK_count 68 = .ok (.getfield 111, 3) := by decide +kernel
theorem dK_count_71 : decode cK_count 71 = .ok (.ireturn, 1) := by decide +kernel
theorem dK_count_72 : decode cK_count 72 = .ok (.aload_n 0, 1) := by decide +kernel
theorem dK_count_73 : decode cK_count 73 = .ok (.getfield 10, 3) := by decide +kernel
theorem dK_count_76 : decode cK_count 76 = .ok (.getfield 127, 3) := by decide +kernel
theorem dK_count_79 : decode cK_count 79 = .ok (.ireturn, 1) := by decide +kernel
theorem dK_count_80 : decode cK_count 80 = .ok (.aload_n 0, 1) := by decide +kernel
theorem dK_count_81 : decode cK_count 81 = .ok (.getfield 10, 3) := by decide +kernel
theorem dK_count_84 : decode cK_count 84 = .ok (.getfield 130, 3) := by decide +kernel
theorem dK_count_87 : decode cK_count 87 = .ok (.ireturn, 1) := by decide +kernel
theorem dK_count_88 : decode cK_count 88 = .ok (.aload_n 0, 1) := by decide +kernel
theorem dK_count_89 : decode cK_count 89 = .ok (.getfield 93, 3) := by decide +kernel
theorem dK_count_92 : decode cK_count 92 = .ok (.ireturn, 1) := by decide +kernel
theorem dK_count_93 : decode cK_count 93 = .ok (.aload_n 0, 1) := by decide +kernel
theorem dK_count_94 : decode cK_count 94 = .ok (.getfield 21, 3) := by decide +kernel
theorem dK_count_97 : decode cK_count 97 = .ok (.getfield 116, 3) := by decide +kernel
theorem dK_count_100 : decode cK_count 100 = .ok (.invokestatic 133, 3) := by decide +kernel
theorem dK_count_103 : decode cK_count 103 = .ok (.ireturn, 1) := by decide +kernel
theorem dK_count_104 : decode cK_count 104 = .ok (.aload_n 0, 1) := by decide +kernel
theorem dK_count_105 : decode cK_count 105 = .ok (.getfield 25, 3) := by decide +kernel
theorem dK_count_108 : decode cK_count 108 = .ok (.ireturn, 1) := by decide +kernel
theorem dK_count_109 : decode cK_count 109 = .ok (.iconst (-1), 1) := by decide +kernel
theorem dK_count_110 : decode cK_count 110 = .ok (.ireturn, 1) := by decide +kernel
theorem dI_bitCount_0 : decode cI_bitCount 0 = .ok (.iload_n 0, 1) := by decide +kernel
theorem dI_bitCount_1 : decode cI_bitCount 1 = .ok (.iload_n 0, 1) := by decide +kernel
theorem dI_bitCount_2 : decode cI_bitCount 2 = .ok (.iconst 1, 1) := by decide +kernel
theorem dI_bitCount_3 : decode cI_bitCount 3 = .ok (.iushr, 1) := by decide +kernel
theorem dI_bitCount_4 : decode cI_bitCount 4 = .ok (.ldc_w 265, 3) := by decide +kernel
theorem dI_bitCount_7 : decode cI_bitCount 7 = .ok (.iand, 1) := by decide +kernel
theorem dI_bitCount_8 : decode cI_bitCount 8 = .ok (.isub, 1) := by decide +kernel
theorem dI_bitCount_9 : decode cI_bitCount 9 = .ok (.istore_n 0, 1) := by decide +kernel
theorem dI_bitCount_10 : decode cI_bitCount 10 = .ok (.iload_n 0, 1) := by decide +kernel
theorem dI_bitCount_11 : decode cI_bitCount 11 = .ok (.ldc_w 266, 3) := by decide +kernel
theorem dI_bitCount_14 : decode cI_bitCount 14 = .ok (.iand, 1) := by decide +kernel
theorem dI_bitCount_15 : decode cI_bitCount 15 = .ok (.iload_n 0, 1) := by decide +kernel
theorem dI_bitCount_16 : decode cI_bitCount 16 = .ok (.iconst 2, 1) := by decide +kernel
theorem dI_bitCount_17 : decode cI_bitCount 17 = .ok (.iushr, 1) := by decide +kernel
theorem dI_bitCount_18 : decode cI_bitCount 18 = .ok (.ldc_w 266, 3) := by decide +kernel
theorem dI_bitCount_21 : decode cI_bitCount 21 = .ok (.iand, 1) := by decide +kernel
theorem dI_bitCount_22 : decode cI_bitCount 22 = .ok (.iadd, 1) := by decide +kernel
theorem dI_bitCount_23 : decode cI_bitCount 23 = .ok (.istore_n 0, 1) := by decide +kernel
theorem dI_bitCount_24 : decode cI_bitCount 24 = .ok (.iload_n 0, 1) := by decide +kernel
theorem dI_bitCount_25 : decode cI_bitCount 25 = .ok (.iload_n 0, 1) := by decide +kernel
theorem dI_bitCount_26 : decode cI_bitCount 26 = .ok (.iconst 4, 1) := by decide +kernel
theorem dI_bitCount_27 : decode cI_bitCount 27 = .ok (.iushr, 1) := by decide +kernel
theorem dI_bitCount_28 : decode cI_bitCount 28 = .ok (.iadd, 1) := by decide +kernel
theorem dI_bitCount_29 : decode cI_bitCount 29 = .ok (.ldc_w 267, 3) := by decide +kernel
theorem dI_bitCount_32 : decode cI_bitCount 32 = .ok (.iand, 1) := by decide +kernel
theorem dI_bitCount_33 : decode cI_bitCount 33 = .ok (.istore_n 0, 1) := by decide +kernel
theorem dI_bitCount_34 : decode cI_bitCount 34 = .ok (.iload_n 0, 1) := by decide +kernel
theorem dI_bitCount_35 : decode cI_bitCount 35 = .ok (.iload_n 0, 1) := by decide +kernel
theorem dI_bitCount_36 : decode cI_bitCount 36 = .ok (.bipush 8, 2) := by decide +kernel
theorem dI_bitCount_38 : decode cI_bitCount 38 = .ok (.iushr, 1) := by decide +kernel
theorem dI_bitCount_39 : decode cI_bitCount 39 = .ok (.iadd, 1) := by decide +kernel
theorem dI_bitCount_40 : decode cI_bitCount 40 = .ok (.istore_n 0, 1) := by decide +kernel
theorem dI_bitCount_41 : decode cI_bitCount 41 = .ok (.iload_n 0, 1) := by decide +kernel
theorem dI_bitCount_42 : decode cI_bitCount 42 = .ok (.iload_n 0, 1) := by decide +kernel
theorem dI_bitCount_43 : decode cI_bitCount 43 = .ok (.bipush 16, 2) := by decide +kernel
theorem dI_bitCount_45 : decode cI_bitCount 45 = .ok (.iushr, 1) := by decide +kernel
theorem dI_bitCount_46 : decode cI_bitCount 46 = .ok (.iadd, 1) := by decide +kernel
theorem dI_bitCount_47 : decode cI_bitCount 47 = .ok (.istore_n 0, 1) := by decide +kernel
theorem dI_bitCount_48 : decode cI_bitCount 48 = .ok (.iload_n 0, 1) := by decide +kernel
theorem dI_bitCount_49 : decode cI_bitCount 49 = .ok (.bipush 63, 2) := by decide +kernel
theorem dI_bitCount_51 : decode cI_bitCount 51 = .ok (.iand, 1) := by decide +kernel
theorem dI_bitCount_52 : decode cI_bitCount 52 = .ok (.ireturn, 1) := by decide +kernel
theorem dL_put_0 : decode cL_put 0 = .ok (.aload_n 3, 1) := by decide +kernel
theorem dL_put_1 : decode cL_put 1 = .ok (.iconst 0, 1) := by decide +kernel
theorem dL_put_2 : decode cL_put 2 = .ok (.aload_n 0, 1) := by decide +kernel
theorem dL_put_3 : decode cL_put 3 = .ok (.iload_n 1, 1) := by decide +kernel
theorem dL_put_4 : decode cL_put 4 = .ok (.iload_n 2, 1) := by decide +kernel
theorem dL_put_5 : decode cL_put 5 = .ok (.invokevirtual 7, 3) := by decide +kernel
theorem dL_put_8 : decode cL_put 8 = .ok (.i2l, 1) := by decide +kernel
theorem dL_put_9 : decode cL_put 9 = .ok (.lastore, 1) := by decide +kernel
theorem dL_put_10 : decode cL_put 10 = .ok (.goto 11, 3) := by decide +kernel
theorem dL_put_13 : decode cL_put 13 = .ok (.astore 4, 2) := by decide +kernel
theorem dL_put_15 : decode cL_put 15 = .ok (.iconst 1, 1) := by decide +kernel
theorem dL_put_16 : decode cL_put 16 = .ok (.ireturn, 1) := by decide +kernel
theorem dL_put_17 : decode cL_put 17 = .ok (.astore 4, 2) := by decide +kernel
theorem dL_put_19 : decode cL_put 19 = .ok (.iconst 2, 1) := by decide +kernel
theorem dL_put_20 : decode cL_put 20 = .ok (.ireturn, 1) := by decide +kernel
theorem dL_put_21 : decode cL_put 21 = .ok (.iconst 0, 1) := by decide +kernel
theorem dL_put_22 : decode cL_put 22 = .ok (.ireturn, 1) := by decide +kernel
theorem dK_put_0 : decode cK_put 0 = .ok (.aload_n 0, 1) := by decide +kernel
theorem dK_put_1 : decode cK_put 1 = .ok (.getfield 10, 3) := by decide +kernel
theorem dK_put_4 : decode cK_put 4 = .ok (.invokevirtual 33, 3) := by decide +kernel
theorem dK_put_7 : decode cK_put 7 = .ok (.ifCond .eq 13, 3) := by decide +kernel
theorem dK_put_10 : decode cK_put 10 = .ok (.new 37, 3) := by decide +kernel
theorem dK_put_13 : decode cK_put 13 = .ok (.dup, 1) := by decide +kernel
theorem dK_put_14 : decode cK_put 14 = .ok (.ldc 39, 2) := by decide +kernel
theorem dK_put_16 : decode cK_put 16 = .ok (.invokespecial 41, 3) := by decide +kernel
theorem dK_put_19 : decode cK_put 19 = .ok (.athrow, 1) := by decide +kernel
theorem dK_put_20 : decode cK_put 20 = .ok (.aload_n 0, 1) := by decide +kernel
theorem dK_put_21 : decode cK_put 21 = .ok (.getfield 10, 3) := by decide +kernel
theorem dK_put_24 : decode cK_put 24 = .ok (.iload_n 1, 1) := by decide +kernel
theorem dK_put_25 : decode cK_put 25 = .ok (.iload_n 2, 1) := by decide +kernel
theorem dK_put_26 : decode cK_put 26 = .ok (.invokevirtual 44, 3) := by decide +kernel
theorem dK_put_29 : decode cK_put 29 = .ok (.ifCond .ne 13, 3) := by decide +kernel
theorem dK_put_32 : decode cK_put 32 = .ok (.new 48, 3) := by decide +kernel
theorem dK_put_35 : decode cK_put 35 = .ok (.dup, 1) := by decide +kernel
theorem dK_put_36 : decode cK_put 36 = .ok (.ldc 50, 2) := by decide +kernel
theorem dK_put_38 : decode cK_put 38 = .ok (.invokespecial 52, 3) := by decide +kernel
theorem dK_put_41 : decode cK_put 41 = .ok (.athrow, 1) := by decide +kernel
theorem dK_put_42 : decode cK_put 42 = .ok (.aload_n 0, 1) := by decide +kernel
theorem dK_put_43 : decode cK_put 43 = .ok (.getfield 10, 3) := by decide +kernel
theorem dK_put_46 : decode cK_put 46 = .ok (.iload_n 1, 1) := by decide +kernel
theorem dK_put_47 : decode cK_put 47 = .ok (.invokevirtual 53, 3) := by decide +kernel
theorem dK_put_50 : decode cK_put 50 = .ok (.ifCond .ne 5, 3) := by decide +kernel
theorem dK_put_53 : decode cK_put 53 = .ok (.iconst (-1), 1) := by decide +kernel
theorem dK_put_54 : decode cK_put 54 = .ok (.ireturn, 1) := by decide +kernel
theorem dK_put_55 : decode cK_put 55 = .ok (.aload_n 0, 1) := by decide +kernel
theorem dK_put_56 : decode cK_put 56 = .ok (.getfield 10, 3) := by decide +kernel
theorem dK_put_59 : decode cK_put 59 = .ok (.iload_n 1, 1) := by decide +kernel
theorem dK_put_60 : decode cK_put 60 = .ok (.iload_n 2, 1) := by decide +kernel
theorem dK_put_61 : decode cK_put 61 = .ok (.invokevirtual 57, 3) := by decide +kernel
theorem dK_put_64 : decode cK_put 64 = .ok (.aload_n 0, 1) := by decide +kernel
theorem dK_put_65 : decode cK_put 65 = .ok (.getfield 10, 3) := by decide +kernel
theorem dK_put_68 : decode cK_put 68 = .ok (.getfield 61, 3) := by decide +kernel
theorem dK_put_71 : decode cK_put 71 = .ok (.ireturn, 1) := by decide +kernel
theorem dG_isWhole_0 : decode cG_isWhole 0 = .ok (.aload_n 0, 1) := by decide +kernel
theorem dG_isWhole_1 : decode cG_isWhole 1 = .ok (.getfield 39, 3) := by decide +kernel
theorem dG_isWhole_4 : decode cG_isWhole 4 = .ok (.ifCond .ne 7, 3) := by decide +kernel
theorem dG_isWhole_7 : decode cG_isWhole 7 = .ok (.iconst 1, 1) := by decide +kernel
theorem dG_isWhole_8 : decode cG_isWhole 8 = .ok (.goto 4, 3) := by decide +kernel
theorem dG_isWhole_11 : decode cG_isWhole 11 = .ok (.iconst 0, 1) := by decide +kernel
theorem dG_isWhole_12 : decode cG_isWhole 12 = .ok (.ireturn, 1) := by decide +kernel
theorem dG_allows_0 : decode cG_allows 0 = .ok (.iload_n 1, 1) := by decide +kernel
theorem dG_allows_1 : decode cG_allows 1 = .ok (.tableswitch 104 2 10 #[51, 68, 86, 86, 104, 104, 104, 104, 51], 51) := by decide +kernel
theorem dG_allows_52 : decode cG_allows 52 = .ok (.iload_n 2, 1) := by decide +kernel
theorem dG_allows_53 : decode cG_allows 53 = .ok (.iconst 4, 1) := by decide +kernel
theorem dG_allows_54 : decode cG_allows 54 = .ok (.if_icmp .lt 13, 3) := by decide +kernel
theorem dG_allows_57 : decode cG_allows 57 = .ok (.iload_n 2, 1) := by decide +kernel
theorem dG_allows_58 : decode cG_allows 58 = .ok (.bipush 16, 2) := by decide +kernel
theorem dG_allows_60 : decode cG_allows 60 = .ok (.if_icmp .ge 7, 3) := by decide +kernel
theorem dG_allows_63 : decode cG_allows 63 = .ok (.iconst 1, 1) := by decide +kernel
theorem dG_allows_64 : decode cG_allows 64 = .ok (.goto 4, 3) := by decide +kernel
theorem dG_allows_67 : decode cG_allows 67 = .ok (.iconst 0, 1) := by decide +kernel
theorem dG_allows_68 : decode cG_allows 68 = .ok (.ireturn, 1) := by decide +kernel
theorem dG_allows_69 : decode cG_allows 69 = .ok (.iload_n 2, 1) := by decide +kernel
theorem dG_allows_70 : decode cG_allows 70 = .ok (.ifCond .lt 15, 3) := by decide +kernel
theorem dG_allows_73 : decode cG_allows 73 = .ok (.iload_n 2, 1) := by decide +kernel
theorem dG_allows_74 : decode cG_allows 74 = .ok (.aload_n 0, 1) := by decide +kernel
theorem dG_allows_75 : decode cG_allows 75 = .ok (.invokevirtual 62, 3) := by decide +kernel
theorem dG_allows_78 : decode cG_allows 78 = .ok (.if_icmp .ge 7, 3) := by decide +kernel
theorem dG_allows_81 : decode cG_allows 81 = .ok (.iconst 1, 1) := by decide +kernel
theorem dG_allows_82 : decode cG_allows 82 = .ok (.goto 4, 3) := by decide +kernel
theorem dG_allows_85 : decode cG_allows 85 = .ok (.iconst 0, 1) := by decide +kernel
theorem dG_allows_86 : decode cG_allows 86 = .ok (.ireturn, 1) := by decide +kernel
theorem dG_allows_87 : decode cG_allows 87 = .ok (.iload_n 2, 1) := by decide +kernel
theorem dG_allows_88 : decode cG_allows 88 = .ok (.bipush (-16), 2) := by decide +kernel
theorem dG_allows_90 : decode cG_allows 90 = .ok (.if_icmp .lt 13, 3) := by decide +kernel
theorem dG_allows_93 : decode cG_allows 93 = .ok (.iload_n 2, 1) := by decide +kernel
theorem dG_allows_94 : decode cG_allows 94 = .ok (.bipush 16, 2) := by decide +kernel
theorem dG_allows_96 : decode cG_allows 96 = .ok (.if_icmp .ge 7, 3) := by decide +kernel
theorem dG_allows_99 : decode cG_allows 99 = .ok (.iconst 1, 1) := by decide +kernel
theorem dG_allows_100 : decode cG_allows 100 = .ok (.goto 4, 3) := by decide +kernel
theorem dG_allows_103 : decode cG_allows 103 = .ok (.iconst 0, 1) := by decide +kernel
theorem dG_allows_104 : decode cG_allows 104 = .ok (.ireturn, 1) := by decide +kernel
theorem dG_allows_105 : decode cG_allows 105 = .ok (.iload_n 1, 1) := by decide +kernel
theorem dG_allows_106 : decode cG_allows 106 = .ok (.ifCond .lt 17, 3) := by decide +kernel
theorem dG_allows_109 : decode cG_allows 109 = .ok (.iload_n 1, 1) := by decide +kernel
theorem dG_allows_110 : decode cG_allows 110 = .ok (.bipush 10, 2) := by decide +kernel
theorem dG_allows_112 : decode cG_allows 112 = .ok (.if_icmp .gt 11, 3) := by decide +kernel
theorem dG_allows_115 : decode cG_allows 115 = .ok (.iload_n 2, 1) := by decide +kernel
theorem dG_allows_116 : decode cG_allows 116 = .ok (.ifCond .ne 7, 3) := by decide +kernel
theorem dG_allows_119 : decode cG_allows 119 = .ok (.iconst 1, 1) := by decide +kernel
theorem dG_allows_120 : decode cG_allows 120 = .ok (.goto 4, 3) := by decide +kernel
theorem dG_allows_123 : decode cG_allows 123 = .ok (.iconst 0, 1) := by decide +kernel
theorem dG_allows_124 : decode cG_allows 124 = .ok (.ireturn, 1) := by decide +kernel
theorem dG_trapsAround_0 : decode cG_trapsAround 0 = .ok (.iconst 0, 1) := by decide +kernel
theorem dG_trapsAround_1 : decode cG_trapsAround 1 = .ok (.istore_n 1, 1) := by decide +kernel
theorem dG_trapsAround_2 : decode cG_trapsAround 2 = .ok (.iconst 0, 1) := by decide +kernel
theorem dG_trapsAround_3 : decode cG_trapsAround 3 = .ok (.istore_n 2, 1) := by decide +kernel
theorem dG_trapsAround_4 : decode cG_trapsAround 4 = .ok (.iload_n 2, 1) := by decide +kernel
theorem dG_trapsAround_5 : decode cG_trapsAround 5 = .ok (.aload_n 0, 1) := by decide +kernel
theorem dG_trapsAround_6 : decode cG_trapsAround 6 = .ok (.getfield 46, 3) := by decide +kernel
theorem dG_trapsAround_9 : decode cG_trapsAround 9 = .ok (.if_icmp .ge 27, 3) := by decide +kernel
theorem dG_trapsAround_12 : decode cG_trapsAround 12 = .ok (.aload_n 0, 1) := by decide +kernel
theorem dG_trapsAround_13 : decode cG_trapsAround 13 = .ok (.aload_n 0, 1) := by decide +kernel
theorem dG_trapsAround_14 : decode cG_trapsAround 14 = .ok (.getfield 33, 3) := by decide +kernel
theorem dG_trapsAround_17 : decode cG_trapsAround 17 = .ok (.iload_n 2, 1) := by decide +kernel
theorem dG_trapsAround_18 : decode cG_trapsAround 18 = .ok (.iaload, 1) := by decide +kernel
theorem dG_trapsAround_19 : decode cG_trapsAround 19 = .ok (.invokevirtual 69, 3) := by decide +kernel
theorem dG_trapsAround_22 : decode cG_trapsAround 22 = .ok (.bipush 9, 2) := by decide +kernel
theorem dG_trapsAround_24 : decode cG_trapsAround 24 = .ok (.if_icmp .ne 6, 3) := by decide +kernel
theorem dG_trapsAround_27 : decode cG_trapsAround 27 = .ok (.iinc 1 1, 3) := by decide +kernel
theorem dG_trapsAround_30 : decode cG_trapsAround 30 = .ok (.iinc 2 1, 3) := by decide +kernel
theorem dG_trapsAround_33 : decode cG_trapsAround 33 = .ok (.goto (-29), 3) := by decide +kernel
theorem dG_trapsAround_36 : decode cG_trapsAround 36 = .ok (.iload_n 1, 1) := by decide +kernel
theorem dG_trapsAround_37 : decode cG_trapsAround 37 = .ok (.ireturn, 1) := by decide +kernel
theorem dG_sortOf_0 : decode cG_sortOf 0 = .ok (.aload_n 0, 1) := by decide +kernel
theorem dG_sortOf_1 : decode cG_sortOf 1 = .ok (.iload_n 1, 1) := by decide +kernel
theorem dG_sortOf_2 : decode cG_sortOf 2 = .ok (.invokevirtual 58, 3) := by decide +kernel
theorem dG_sortOf_5 : decode cG_sortOf 5 = .ok (.ifCond .eq 12, 3) := by decide +kernel
theorem dG_sortOf_8 : decode cG_sortOf 8 = .ok (.aload_n 0, 1) := by decide +kernel
theorem dG_sortOf_9 : decode cG_sortOf 9 = .ok (.getfield 9, 3) := by decide +kernel
theorem dG_sortOf_12 : decode cG_sortOf 12 = .ok (.iload_n 1, 1) := by decide +kernel
theorem dG_sortOf_13 : decode cG_sortOf 13 = .ok (.iaload, 1) := by decide +kernel
theorem dG_sortOf_14 : decode cG_sortOf 14 = .ok (.goto 4, 3) := by decide +kernel
theorem dG_sortOf_17 : decode cG_sortOf 17 = .ok (.iconst 0, 1) := by decide +kernel
theorem dG_sortOf_18 : decode cG_sortOf 18 = .ok (.ireturn, 1) := by decide +kernel
theorem dG_has_0 : decode cG_has 0 = .ok (.iload_n 1, 1) := by decide +kernel
theorem dG_has_1 : decode cG_has 1 = .ok (.ifCond .lt 15, 3) := by decide +kernel
theorem dG_has_4 : decode cG_has 4 = .ok (.iload_n 1, 1) := by decide +kernel
theorem dG_has_5 : decode cG_has 5 = .ok (.aload_n 0, 1) := by decide +kernel
theorem dG_has_6 : decode cG_has 6 = .ok (.getfield 43, 3) := by decide +kernel
theorem dG_has_9 : decode cG_has 9 = .ok (.if_icmp .ge 7, 3) := by decide +kernel
theorem dG_has_12 : decode cG_has 12 = .ok (.iconst 1, 1) := by decide +kernel
theorem dG_has_13 : decode cG_has 13 = .ok (.goto 4, 3) := by decide +kernel
theorem dG_has_16 : decode cG_has 16 = .ok (.iconst 0, 1) := by decide +kernel
theorem dG_has_17 : decode cG_has 17 = .ok (.ireturn, 1) := by decide +kernel
theorem dG_hasRoomFor_0 : decode cG_hasRoomFor 0 = .ok (.aload_n 0, 1) := by decide +kernel
theorem dG_hasRoomFor_1 : decode cG_hasRoomFor 1 = .ok (.getfield 43, 3) := by decide +kernel
theorem dG_hasRoomFor_4 : decode cG_hasRoomFor 4 = .ok (.bipush 120, 2) := by decide +kernel
theorem dG_hasRoomFor_6 : decode cG_hasRoomFor 6 = .ok (.if_icmp .ge 59, 3) := by decide +kernel
theorem dG_hasRoomFor_9 : decode cG_hasRoomFor 9 = .ok (.aload_n 0, 1) := by decide +kernel
theorem dG_hasRoomFor_10 : decode cG_hasRoomFor 10 = .ok (.getfield 46, 3) := by decide +kernel
theorem dG_hasRoomFor_13 : decode cG_hasRoomFor 13 = .ok (.bipush 24, 2) := by decide +kernel
theorem dG_hasRoomFor_15 : decode cG_hasRoomFor 15 = .ok (.if_icmp .ge 50, 3) := by decide +kernel
theorem dG_hasRoomFor_18 : decode cG_hasRoomFor 18 = .ok (.iload_n 1, 1) := by decide +kernel
theorem dG_hasRoomFor_19 : decode cG_hasRoomFor 19 = .ok (.iconst 1, 1) := by decide +kernel
theorem dG_hasRoomFor_20 : decode cG_hasRoomFor 20 = .ok (.if_icmp .ne 12, 3) := by decide +kernel
theorem dG_hasRoomFor_23 : decode cG_hasRoomFor 23 = .ok (.aload_n 0, 1) := by decide +kernel
theorem dG_hasRoomFor_24 : decode cG_hasRoomFor 24 = .ok (.getfield 49, 3) := by decide +kernel
theorem dG_hasRoomFor_27 : decode cG_hasRoomFor 27 = .ok (.bipush 32, 2) := by decide +kernel
theorem dG_hasRoomFor_29 : decode cG_hasRoomFor 29 = .ok (.if_icmp .ge 36, 3) := by decide +kernel
theorem dG_hasRoomFor_32 : decode cG_hasRoomFor 32 = .ok (.iload_n 1, 1) := by decide +kernel
theorem dG_hasRoomFor_33 : decode cG_hasRoomFor 33 = .ok (.bipush 9, 2) := by decide +kernel
theorem dG_hasRoomFor_35 : decode cG_hasRoomFor 35 = .ok (.if_icmp .ne 11, 3) := by decide +kernel
theorem dG_hasRoomFor_38 : decode cG_hasRoomFor 38 = .ok (.aload_n 0, 1) := by decide +kernel
theorem dG_hasRoomFor_39 : decode cG_hasRoomFor 39 = .ok (.invokevirtual 62, 3) := by decide +kernel
theorem dG_hasRoomFor_42 : decode cG_hasRoomFor 42 = .ok (.iconst 5, 1) := by decide +kernel
theorem dG_hasRoomFor_43 : decode cG_hasRoomFor 43 = .ok (.if_icmp .ge 22, 3) := by decide +kernel
theorem dG_hasRoomFor_46 : decode cG_hasRoomFor 46 = .ok (.aload_n 0, 1) := by decide +kernel
theorem dG_hasRoomFor_47 : decode cG_hasRoomFor 47 = .ok (.getfield 55, 3) := by decide +kernel
theorem dG_hasRoomFor_50 : decode cG_hasRoomFor 50 = .ok (.aload_n 0, 1) := by decide +kernel
theorem dG_hasRoomFor_51 : decode cG_hasRoomFor 51 = .ok (.invokevirtual 66, 3) := by decide +kernel
theorem dG_hasRoomFor_54 : decode cG_hasRoomFor 54 = .ok (.iadd, 1) := by decide +kernel
theorem dG_hasRoomFor_55 : decode cG_hasRoomFor 55 = .ok (.sipush 360, 3) := by decide +kernel
theorem dG_hasRoomFor_58 : decode cG_hasRoomFor 58 = .ok (.if_icmp .gt 7, 3) := by decide +kernel
theorem dG_hasRoomFor_61 : decode cG_hasRoomFor 61 = .ok (.iconst 1, 1) := by decide +kernel
theorem dG_hasRoomFor_62 : decode cG_hasRoomFor 62 = .ok (.goto 4, 3) := by decide +kernel
theorem dG_hasRoomFor_65 : decode cG_hasRoomFor 65 = .ok (.iconst 0, 1) := by decide +kernel
theorem dG_hasRoomFor_66 : decode cG_hasRoomFor 66 = .ok (.ireturn, 1) := by decide +kernel
theorem dG_nextWeight_0 : decode cG_nextWeight 0 = .ok (.aload_n 0, 1) := by decide +kernel
theorem dG_nextWeight_1 : decode cG_nextWeight 1 = .ok (.getfield 46, 3) := by decide +kernel
theorem dG_nextWeight_4 : decode cG_nextWeight 4 = .ok (.ifCond .ne 5, 3) := by decide +kernel
theorem dG_nextWeight_7 : decode cG_nextWeight 7 = .ok (.iconst 1, 1) := by decide +kernel
theorem dG_nextWeight_8 : decode cG_nextWeight 8 = .ok (.ireturn, 1) := by decide +kernel
theorem dG_nextWeight_9 : decode cG_nextWeight 9 = .ok (.aload_n 0, 1) := by decide +kernel
theorem dG_nextWeight_10 : decode cG_nextWeight 10 = .ok (.getfield 33, 3) := by decide +kernel
theorem dG_nextWeight_13 : decode cG_nextWeight 13 = .ok (.aload_n 0, 1) := by decide +kernel
theorem dG_nextWeight_14 : decode cG_nextWeight 14 = .ok (.getfield 46, 3) := by decide +kernel
theorem dG_nextWeight_17 : decode cG_nextWeight 17 = .ok (.iconst 1, 1) := by decide +kernel
theorem dG_nextWeight_18 : decode cG_nextWeight 18 = .ok (.isub, 1) := by decide +kernel
theorem dG_nextWeight_19 : decode cG_nextWeight 19 = .ok (.iaload, 1) := by decide +kernel
theorem dG_nextWeight_20 : decode cG_nextWeight 20 = .ok (.istore_n 1, 1) := by decide +kernel
theorem dG_nextWeight_21 : decode cG_nextWeight 21 = .ok (.aload_n 0, 1) := by decide +kernel
theorem dG_nextWeight_22 : decode cG_nextWeight 22 = .ok (.iload_n 1, 1) := by decide +kernel
theorem dG_nextWeight_23 : decode cG_nextWeight 23 = .ok (.invokevirtual 69, 3) := by decide +kernel
theorem dG_nextWeight_26 : decode cG_nextWeight 26 = .ok (.istore_n 2, 1) := by decide +kernel
theorem dG_nextWeight_27 : decode cG_nextWeight 27 = .ok (.iload_n 2, 1) := by decide +kernel
theorem dG_nextWeight_28 : decode cG_nextWeight 28 = .ok (.bipush 6, 2) := by decide +kernel
theorem dG_nextWeight_30 : decode cG_nextWeight 30 = .ok (.if_icmp .ne 22, 3) := by decide +kernel
theorem dG_nextWeight_33 : decode cG_nextWeight 33 = .ok (.aload_n 0, 1) := by decide +kernel
theorem dG_nextWeight_34 : decode cG_nextWeight 34 = .ok (.getfield 36, 3) := by decide +kernel
theorem dG_nextWeight_37 : decode cG_nextWeight 37 = .ok (.aload_n 0, 1) := by decide +kernel
theorem dG_nextWeight_38 : decode cG_nextWeight 38 = .ok (.getfield 46, 3) := by decide +kernel
theorem dG_nextWeight_41 : decode cG_nextWeight 41 = .ok (.iconst 1, 1) := by decide +kernel
theorem dG_nextWeight_42 : decode cG_nextWeight 42 = .ok (.isub, 1) := by decide +kernel
theorem dG_nextWeight_43 : decode cG_nextWeight 43 = .ok (.iaload, 1) := by decide +kernel
theorem dG_nextWeight_44 : decode cG_nextWeight 44 = .ok (.iconst 1, 1) := by decide +kernel
theorem dG_nextWeight_45 : decode cG_nextWeight 45 = .ok (.if_icmp .ne 7, 3) := by decide +kernel
theorem dG_nextWeight_48 : decode cG_nextWeight 48 = .ok (.iconst 1, 1) := by decide +kernel
theorem dG_nextWeight_49 : decode cG_nextWeight 49 = .ok (.goto 4, 3) := by decide +kernel
theorem dG_nextWeight_52 : decode cG_nextWeight 52 = .ok (.iconst 0, 1) := by decide +kernel
theorem dG_nextWeight_53 : decode cG_nextWeight 53 = .ok (.istore_n 3, 1) := by decide +kernel
theorem dG_nextWeight_54 : decode cG_nextWeight 54 = .ok (.aload_n 0, 1) := by decide +kernel
theorem dG_nextWeight_55 : decode cG_nextWeight 55 = .ok (.iload_n 1, 1) := by decide +kernel
theorem dG_nextWeight_56 : decode cG_nextWeight 56 = .ok (.invokevirtual 73, 3) := by decide +kernel
theorem dG_nextWeight_59 : decode cG_nextWeight 59 = .ok (.iload_n 2, 1) := by decide +kernel
theorem dG_nextWeight_60 : decode cG_nextWeight 60 = .ok (.bipush 8, 2) := by decide +kernel
theorem dG_nextWeight_62 : decode cG_nextWeight 62 = .ok (.if_icmp .eq 7, 3) := by decide +kernel
theorem dG_nextWeight_65 : decode cG_nextWeight 65 = .ok (.iload_n 3, 1) := by decide +kernel
theorem dG_nextWeight_66 : decode cG_nextWeight 66 = .ok (.ifCond .eq 7, 3) := by decide +kernel
theorem dG_nextWeight_69 : decode cG_nextWeight 69 = .ok (.iconst 1, 1) := by decide +kernel
theorem dG_nextWeight_70 : decode cG_nextWeight 70 = .ok (.goto 4, 3) := by decide +kernel
theorem dG_nextWeight_73 : decode cG_nextWeight 73 = .ok (.iconst 0, 1) := by decide +kernel
theorem dG_nextWeight_74 : decode cG_nextWeight 74 = .ok (.iadd, 1) := by decide +kernel
theorem dG_nextWeight_75 : decode cG_nextWeight 75 = .ok (.ireturn, 1) := by decide +kernel
theorem dG_weightOf_0 : decode cG_weightOf 0 = .ok (.aload_n 0, 1) := by decide +kernel
theorem dG_weightOf_1 : decode cG_weightOf 1 = .ok (.iload_n 1, 1) := by decide +kernel
theorem dG_weightOf_2 : decode cG_weightOf 2 = .ok (.invokevirtual 58, 3) := by decide +kernel
theorem dG_weightOf_5 : decode cG_weightOf 5 = .ok (.ifCond .eq 12, 3) := by decide +kernel
theorem dG_weightOf_8 : decode cG_weightOf 8 = .ok (.aload_n 0, 1) := by decide +kernel
theorem dG_weightOf_9 : decode cG_weightOf 9 = .ok (.getfield 21, 3) := by decide +kernel
theorem dG_weightOf_12 : decode cG_weightOf 12 = .ok (.iload_n 1, 1) := by decide +kernel
theorem dG_weightOf_13 : decode cG_weightOf 13 = .ok (.iaload, 1) := by decide +kernel
theorem dG_weightOf_14 : decode cG_weightOf 14 = .ok (.goto 4, 3) := by decide +kernel
theorem dG_weightOf_17 : decode cG_weightOf 17 = .ok (.iconst 0, 1) := by decide +kernel
theorem dG_weightOf_18 : decode cG_weightOf 18 = .ok (.ireturn, 1) := by decide +kernel
theorem dG_add_0 : decode cG_add 0 = .ok (.aload_n 0, 1) := by decide +kernel
theorem dG_add_1 : decode cG_add 1 = .ok (.getfield 43, 3) := by decide +kernel
theorem dG_add_4 : decode cG_add 4 = .ok (.istore_n 3, 1) := by decide +kernel
theorem dG_add_5 : decode cG_add 5 = .ok (.aload_n 0, 1) := by decide +kernel
theorem dG_add_6 : decode cG_add 6 = .ok (.invokevirtual 66, 3) := by decide +kernel
theorem dG_add_9 : decode cG_add 9 = .ok (.istore 4, 2) := by decide +kernel
theorem dG_add_11 : decode cG_add 11 = .ok (.aload_n 0, 1) := by decide +kernel
theorem dG_add_12 : decode cG_add 12 = .ok (.getfield 9, 3) := by decide +kernel
theorem dG_add_15 : decode cG_add 15 = .ok (.iload_n 3, 1) := by decide +kernel
theorem dG_add_16 : decode cG_add 16 = .ok (.iload_n 1, 1) := by decide +kernel
theorem dG_add_17 : decode cG_add 17 = .ok (.iastore, 1) := by decide +kernel
theorem dG_add_18 : decode cG_add 18 = .ok (.aload_n 0, 1) := by decide +kernel
theorem dG_add_19 : decode cG_add 19 = .ok (.getfield 15, 3) := by decide +kernel
theorem dG_add_22 : decode cG_add 22 = .ok (.iload_n 3, 1) := by decide +kernel
theorem dG_add_23 : decode cG_add 23 = .ok (.iload_n 2, 1) := by decide +kernel
theorem dG_add_24 : decode cG_add 24 = .ok (.iastore, 1) := by decide +kernel
theorem dG_add_25 : decode cG_add 25 = .ok (.aload_n 0, 1) := by decide +kernel
theorem dG_add_26 : decode cG_add 26 = .ok (.getfield 18, 3) := by decide +kernel
theorem dG_add_29 : decode cG_add 29 = .ok (.iload_n 3, 1) := by decide +kernel
theorem dG_add_30 : decode cG_add 30 = .ok (.iconst (-1), 1) := by decide +kernel
theorem dG_add_31 : decode cG_add 31 = .ok (.iastore, 1) := by decide +kernel
theorem dG_add_32 : decode cG_add 32 = .ok (.aload_n 0, 1) := by decide +kernel
theorem dG_add_33 : decode cG_add 33 = .ok (.getfield 21, 3) := by decide +kernel
theorem dG_add_36 : decode cG_add 36 = .ok (.iload_n 3, 1) := by decide +kernel
theorem dG_add_37 : decode cG_add 37 = .ok (.iload 4, 2) := by decide +kernel
theorem dG_add_39 : decode cG_add 39 = .ok (.iastore, 1) := by decide +kernel
theorem dG_add_40 : decode cG_add 40 = .ok (.aload_n 0, 1) := by decide +kernel
theorem dG_add_41 : decode cG_add 41 = .ok (.getfield 24, 3) := by decide +kernel
theorem dG_add_44 : decode cG_add 44 = .ok (.iload_n 3, 1) := by decide +kernel
theorem dG_add_45 : decode cG_add 45 = .ok (.aload_n 0, 1) := by decide +kernel
theorem dG_add_46 : decode cG_add 46 = .ok (.getfield 55, 3) := by decide +kernel
theorem dG_add_49 : decode cG_add 49 = .ok (.iastore, 1) := by decide +kernel
theorem dG_add_50 : decode cG_add 50 = .ok (.aload_n 0, 1) := by decide +kernel
theorem dG_add_51 : decode cG_add 51 = .ok (.getfield 27, 3) := by decide +kernel
theorem dG_add_54 : decode cG_add 54 = .ok (.iload_n 3, 1) := by decide +kernel
theorem dG_add_55 : decode cG_add 55 = .ok (.iconst 0, 1) := by decide +kernel
theorem dG_add_56 : decode cG_add 56 = .ok (.iastore, 1) := by decide +kernel
theorem dG_add_57 : decode cG_add 57 = .ok (.aload_n 0, 1) := by decide +kernel
theorem dG_add_58 : decode cG_add 58 = .ok (.dup, 1) := by decide +kernel
theorem dG_add_59 : decode cG_add 59 = .ok (.getfield 43, 3) := by decide +kernel
theorem dG_add_62 : decode cG_add 62 = .ok (.iconst 1, 1) := by decide +kernel
theorem dG_add_63 : decode cG_add 63 = .ok (.iadd, 1) := by decide +kernel
theorem dG_add_64 : decode cG_add 64 = .ok (.putfield 43, 3) := by decide +kernel
theorem dG_add_67 : decode cG_add 67 = .ok (.aload_n 0, 1) := by decide +kernel
theorem dG_add_68 : decode cG_add 68 = .ok (.dup, 1) := by decide +kernel
theorem dG_add_69 : decode cG_add 69 = .ok (.getfield 55, 3) := by decide +kernel
theorem dG_add_72 : decode cG_add 72 = .ok (.iload 4, 2) := by decide +kernel
theorem dG_add_74 : decode cG_add 74 = .ok (.iadd, 1) := by decide +kernel
theorem dG_add_75 : decode cG_add 75 = .ok (.putfield 55, 3) := by decide +kernel
theorem dG_add_78 : decode cG_add 78 = .ok (.aload_n 0, 1) := by decide +kernel
theorem dG_add_79 : decode cG_add 79 = .ok (.dup, 1) := by decide +kernel
theorem dG_add_80 : decode cG_add 80 = .ok (.getfield 39, 3) := by decide +kernel
theorem dG_add_83 : decode cG_add 83 = .ok (.getstatic 76, 3) := by decide +kernel
theorem dG_add_86 : decode cG_add 86 = .ok (.iload_n 1, 1) := by decide +kernel
theorem dG_add_87 : decode cG_add 87 = .ok (.iaload, 1) := by decide +kernel
theorem dG_add_88 : decode cG_add 88 = .ok (.iconst 1, 1) := by decide +kernel
theorem dG_add_89 : decode cG_add 89 = .ok (.isub, 1) := by decide +kernel
theorem dG_add_90 : decode cG_add 90 = .ok (.iadd, 1) := by decide +kernel
theorem dG_add_91 : decode cG_add 91 = .ok (.putfield 39, 3) := by decide +kernel
theorem dG_add_94 : decode cG_add 94 = .ok (.iload_n 1, 1) := by decide +kernel
theorem dG_add_95 : decode cG_add 95 = .ok (.bipush 8, 2) := by decide +kernel
theorem dG_add_97 : decode cG_add 97 = .ok (.if_icmp .ne 13, 3) := by decide +kernel
theorem dG_add_100 : decode cG_add 100 = .ok (.aload_n 0, 1) := by decide +kernel
theorem dG_add_101 : decode cG_add 101 = .ok (.dup, 1) := by decide +kernel
theorem dG_add_102 : decode cG_add 102 = .ok (.getfield 52, 3) := by decide +kernel
theorem dG_add_105 : decode cG_add 105 = .ok (.iconst 1, 1) := by decide +kernel
theorem dG_add_106 : decode cG_add 106 = .ok (.iadd, 1) := by decide +kernel
theorem dG_add_107 : decode cG_add 107 = .ok (.putfield 52, 3) := by decide +kernel
theorem dG_add_110 : decode cG_add 110 = .ok (.iload_n 1, 1) := by decide +kernel
theorem dG_add_111 : decode cG_add 111 = .ok (.iconst 1, 1) := by decide +kernel
theorem dG_add_112 : decode cG_add 112 = .ok (.if_icmp .ne 8, 3) := by decide +kernel
theorem dG_add_115 : decode cG_add 115 = .ok (.aload_n 0, 1) := by decide +kernel
theorem dG_add_116 : decode cG_add 116 = .ok (.iload_n 3, 1) := by decide +kernel
theorem dG_add_117 : decode cG_add 117 = .ok (.invokevirtual 79, 3) := by decide +kernel
theorem dG_add_120 : decode cG_add 120 = .ok (.aload_n 0, 1) := by decide +kernel
theorem dG_add_121 : decode cG_add 121 = .ok (.iload_n 3, 1) := by decide +kernel
theorem dG_add_122 : decode cG_add 122 = .ok (.invokevirtual 83, 3) := by decide +kernel
theorem dG_add_125 : decode cG_add 125 = .ok (.getstatic 76, 3) := by decide +kernel
theorem dG_add_128 : decode cG_add 128 = .ok (.iload_n 1, 1) := by decide +kernel
theorem dG_add_129 : decode cG_add 129 = .ok (.iaload, 1) := by decide +kernel
theorem dG_add_130 : decode cG_add 130 = .ok (.ifCond .le 16, 3) := by decide +kernel
theorem dG_add_133 : decode cG_add 133 = .ok (.aload_n 0, 1) := by decide +kernel
theorem dG_add_134 : decode cG_add 134 = .ok (.iload_n 3, 1) := by decide +kernel
theorem dG_add_135 : decode cG_add 135 = .ok (.getstatic 76, 3) := by decide +kernel
theorem dG_add_138 : decode cG_add 138 = .ok (.iload_n 1, 1) := by decide +kernel
theorem dG_add_139 : decode cG_add 139 = .ok (.iaload, 1) := by decide +kernel
theorem dG_add_140 : decode cG_add 140 = .ok (.invokevirtual 86, 3) := by decide +kernel
theorem dG_add_143 : decode cG_add 143 = .ok (.goto 7, 3) := by decide +kernel
theorem dG_add_146 : decode cG_add 146 = .ok (.aload_n 0, 1) := by decide +kernel
theorem dG_add_147 : decode cG_add 147 = .ok (.invokevirtual 90, 3) := by decide +kernel
theorem dG_add_150 : decode cG_add 150 = .ok (.return_, 1) := by decide +kernel
theorem dG_numberPause_0 : decode cG_numberPause 0 = .ok (.iconst 1, 1) := by decide +kernel
theorem dG_numberPause_1 : decode cG_numberPause 1 = .ok (.aload_n 0, 1) := by decide +kernel
theorem dG_numberPause_2 : decode cG_numberPause 2 = .ok (.getfield 49, 3) := by decide +kernel
theorem dG_numberPause_5 : decode cG_numberPause 5 = .ok (.ishl, 1) := by decide +kernel
theorem dG_numberPause_6 : decode cG_numberPause 6 = .ok (.istore_n 2, 1) := by decide +kernel
theorem dG_numberPause_7 : decode cG_numberPause 7 = .ok (.aload_n 0, 1) := by decide +kernel
theorem dG_numberPause_8 : decode cG_numberPause 8 = .ok (.dup, 1) := by decide +kernel
theorem dG_numberPause_9 : decode cG_numberPause 9 = .ok (.getfield 49, 3) := by decide +kernel
theorem dG_numberPause_12 : decode cG_numberPause 12 = .ok (.iconst 1, 1) := by decide +kernel
theorem dG_numberPause_13 : decode cG_numberPause 13 = .ok (.iadd, 1) := by decide +kernel
theorem dG_numberPause_14 : decode cG_numberPause 14 = .ok (.putfield 49, 3) := by decide +kernel
theorem dG_numberPause_17 : decode cG_numberPause 17 = .ok (.aload_n 0, 1) := by decide +kernel
theorem dG_numberPause_18 : decode cG_numberPause 18 = .ok (.getfield 27, 3) := by decide +kernel
theorem dG_numberPause_21 : decode cG_numberPause 21 = .ok (.iload_n 1, 1) := by decide +kernel
theorem dG_numberPause_22 : decode cG_numberPause 22 = .ok (.iload_n 2, 1) := by decide +kernel
theorem dG_numberPause_23 : decode cG_numberPause 23 = .ok (.iastore, 1) := by decide +kernel
theorem dG_numberPause_24 : decode cG_numberPause 24 = .ok (.iconst 0, 1) := by decide +kernel
theorem dG_numberPause_25 : decode cG_numberPause 25 = .ok (.istore_n 3, 1) := by decide +kernel
theorem dG_numberPause_26 : decode cG_numberPause 26 = .ok (.iload_n 3, 1) := by decide +kernel
theorem dG_numberPause_27 : decode cG_numberPause 27 = .ok (.aload_n 0, 1) := by decide +kernel
theorem dG_numberPause_28 : decode cG_numberPause 28 = .ok (.getfield 46, 3) := by decide +kernel
theorem dG_numberPause_31 : decode cG_numberPause 31 = .ok (.if_icmp .ge 24, 3) := by decide +kernel
theorem dG_numberPause_34 : decode cG_numberPause 34 = .ok (.aload_n 0, 1) := by decide +kernel
theorem dG_numberPause_35 : decode cG_numberPause 35 = .ok (.getfield 27, 3) := by decide +kernel
theorem dG_numberPause_38 : decode cG_numberPause 38 = .ok (.aload_n 0, 1) := by decide +kernel
theorem dG_numberPause_39 : decode cG_numberPause 39 = .ok (.getfield 33, 3) := by decide +kernel
theorem dG_numberPause_42 : decode cG_numberPause 42 = .ok (.iload_n 3, 1) := by decide +kernel
theorem dG_numberPause_43 : decode cG_numberPause 43 = .ok (.iaload, 1) := by decide +kernel
theorem dG_numberPause_44 : decode cG_numberPause 44 = .ok (.dup2, 1) := by decide +kernel
theorem dG_numberPause_45 : decode cG_numberPause 45 = .ok (.iaload, 1) := by decide +kernel
theorem dG_numberPause_46 : decode cG_numberPause 46 = .ok (.iload_n 2, 1) := by decide +kernel
theorem dG_numberPause_47 : decode cG_numberPause 47 = .ok (.ior, 1) := by decide +kernel
theorem dG_numberPause_48 : decode cG_numberPause 48 = .ok (.iastore, 1) := by decide +kernel
theorem dG_numberPause_49 : decode cG_numberPause 49 = .ok (.iinc 3 1, 3) := by decide +kernel
theorem dG_numberPause_52 : decode cG_numberPause 52 = .ok (.goto (-26), 3) := by decide +kernel
theorem dG_numberPause_55 : decode cG_numberPause 55 = .ok (.return_, 1) := by decide +kernel
theorem dG_attach_0 : decode cG_attach 0 = .ok (.aload_n 0, 1) := by decide +kernel
theorem dG_attach_1 : decode cG_attach 1 = .ok (.getfield 46, 3) := by decide +kernel
theorem dG_attach_4 : decode cG_attach 4 = .ok (.ifCond .le 35, 3) := by decide +kernel
theorem dG_attach_7 : decode cG_attach 7 = .ok (.aload_n 0, 1) := by decide +kernel
theorem dG_attach_8 : decode cG_attach 8 = .ok (.getfield 18, 3) := by decide +kernel
theorem dG_attach_11 : decode cG_attach 11 = .ok (.aload_n 0, 1) := by decide +kernel
theorem dG_attach_12 : decode cG_attach 12 = .ok (.getfield 33, 3) := by decide +kernel
theorem dG_attach_15 : decode cG_attach 15 = .ok (.aload_n 0, 1) := by decide +kernel
theorem dG_attach_16 : decode cG_attach 16 = .ok (.getfield 46, 3) := by decide +kernel
theorem dG_attach_19 : decode cG_attach 19 = .ok (.iconst 1, 1) := by decide +kernel
theorem dG_attach_20 : decode cG_attach 20 = .ok (.isub, 1) := by decide +kernel
theorem dG_attach_21 : decode cG_attach 21 = .ok (.iaload, 1) := by decide +kernel
theorem dG_attach_22 : decode cG_attach 22 = .ok (.iload_n 1, 1) := by decide +kernel
theorem dG_attach_23 : decode cG_attach 23 = .ok (.iastore, 1) := by decide +kernel
theorem dG_attach_24 : decode cG_attach 24 = .ok (.aload_n 0, 1) := by decide +kernel
theorem dG_attach_25 : decode cG_attach 25 = .ok (.getfield 36, 3) := by decide +kernel
theorem dG_attach_28 : decode cG_attach 28 = .ok (.aload_n 0, 1) := by decide +kernel
theorem dG_attach_29 : decode cG_attach 29 = .ok (.getfield 46, 3) := by decide +kernel
theorem dG_attach_32 : decode cG_attach 32 = .ok (.iconst 1, 1) := by decide +kernel
theorem dG_attach_33 : decode cG_attach 33 = .ok (.isub, 1) := by decide +kernel
theorem dG_attach_34 : decode cG_attach 34 = .ok (.dup2, 1) := by decide +kernel
theorem dG_attach_35 : decode cG_attach 35 = .ok (.iaload, 1) := by decide +kernel
theorem dG_attach_36 : decode cG_attach 36 = .ok (.iconst 1, 1) := by decide +kernel
theorem dG_attach_37 : decode cG_attach 37 = .ok (.isub, 1) := by decide +kernel
theorem dG_attach_38 : decode cG_attach 38 = .ok (.iastore, 1) := by decide +kernel
theorem dG_attach_39 : decode cG_attach 39 = .ok (.return_, 1) := by decide +kernel
theorem dG_openUp_0 : decode cG_openUp 0 = .ok (.aload_n 0, 1) := by decide +kernel
theorem dG_openUp_1 : decode cG_openUp 1 = .ok (.getfield 46, 3) := by decide +kernel
theorem dG_openUp_4 : decode cG_openUp 4 = .ok (.bipush 24, 2) := by decide +kernel
theorem dG_openUp_6 : decode cG_openUp 6 = .ok (.if_icmp .ge 33, 3) := by decide +kernel
theorem dG_openUp_9 : decode cG_openUp 9 = .ok (.aload_n 0, 1) := by decide +kernel
theorem dG_openUp_10 : decode cG_openUp 10 = .ok (.getfield 33, 3) := by decide +kernel
theorem dG_openUp_13 : decode cG_openUp 13 = .ok (.aload_n 0, 1) := by decide +kernel
theorem dG_openUp_14 : decode cG_openUp 14 = .ok (.getfield 46, 3) := by decide +kernel
theorem dG_openUp_17 : decode cG_openUp 17 = .ok (.iload_n 1, 1) := by decide +kernel
theorem dG_openUp_18 : decode cG_openUp 18 = .ok (.iastore, 1) := by decide +kernel
theorem dG_openUp_19 : decode cG_openUp 19 = .ok (.aload_n 0, 1) := by decide +kernel
theorem dG_openUp_20 : decode cG_openUp 20 = .ok (.getfield 36, 3) := by decide +kernel
theorem dG_openUp_23 : decode cG_openUp 23 = .ok (.aload_n 0, 1) := by decide +kernel
theorem dG_openUp_24 : decode cG_openUp 24 = .ok (.getfield 46, 3) := by decide +kernel
theorem dG_openUp_27 : decode cG_openUp 27 = .ok (.iload_n 2, 1) := by decide +kernel
theorem dG_openUp_28 : decode cG_openUp 28 = .ok (.iastore, 1) := by decide +kernel
theorem dG_openUp_29 : decode cG_openUp 29 = .ok (.aload_n 0, 1) := by decide +kernel
theorem dG_openUp_30 : decode cG_openUp 30 = .ok (.dup, 1) := by decide +kernel
theorem dG_openUp_31 : decode cG_openUp 31 = .ok (.getfield 46, 3) := by decide +kernel
theorem dG_openUp_34 : decode cG_openUp 34 = .ok (.iconst 1, 1) := by decide +kernel
theorem dG_openUp_35 : decode cG_openUp 35 = .ok (.iadd, 1) := by decide +kernel
theorem dG_openUp_36 : decode cG_openUp 36 = .ok (.putfield 46, 3) := by decide +kernel
theorem dG_openUp_39 : decode cG_openUp 39 = .ok (.return_, 1) := by decide +kernel
theorem dG_closeFull_0 : decode cG_closeFull 0 = .ok (.aload_n 0, 1) := by decide +kernel
theorem dG_closeFull_1 : decode cG_closeFull 1 = .ok (.getfield 46, 3) := by decide +kernel
theorem dG_closeFull_4 : decode cG_closeFull 4 = .ok (.ifCond .le 30, 3) := by decide +kernel
theorem dG_closeFull_7 : decode cG_closeFull 7 = .ok (.aload_n 0, 1) := by decide +kernel
theorem dG_closeFull_8 : decode cG_closeFull 8 = .ok (.getfield 36, 3) := by decide +kernel
theorem dG_closeFull_11 : decode cG_closeFull 11 = .ok (.aload_n 0, 1) := by decide +kernel
theorem dG_closeFull_12 : decode cG_closeFull 12 = .ok (.getfield 46, 3) := by decide +kernel
theorem dG_closeFull_15 : decode cG_closeFull 15 = .ok (.iconst 1, 1) := by decide +kernel
theorem dG_closeFull_16 : decode cG_closeFull 16 = .ok (.isub, 1) := by decide +kernel
theorem dG_closeFull_17 : decode cG_closeFull 17 = .ok (.iaload, 1) := by decide +kernel
theorem dG_closeFull_18 : decode cG_closeFull 18 = .ok (.ifCond .ne 16, 3) := by decide +kernel
theorem dG_closeFull_21 : decode cG_closeFull 21 = .ok (.aload_n 0, 1) := by decide +kernel
theorem dG_closeFull_22 : decode cG_closeFull 22 = .ok (.dup, 1) := by decide +kernel
theorem dG_closeFull_23 : decode cG_closeFull 23 = .ok (.getfield 46, 3) := by decide +kernel
theorem dG_closeFull_26 : decode cG_closeFull 26 = .ok (.iconst 1, 1) := by decide +kernel
theorem dG_closeFull_27 : decode cG_closeFull 27 = .ok (.isub, 1) := by decide +kernel
theorem dG_closeFull_28 : decode cG_closeFull 28 = .ok (.putfield 46, 3) := by decide +kernel
theorem dG_closeFull_31 : decode cG_closeFull 31 = .ok (.goto (-31), 3) := by decide +kernel
theorem dG_closeFull_34 : decode cG_closeFull 34 = .ok (.return_, 1) := by decide +kernel
theorem dL_start_0 : decode cL_start 0 = .ok (.aload_n 1, 1) := by decide +kernel
theorem dL_start_1 : decode cL_start 1 = .ok (.iconst 0, 1) := by decide +kernel
theorem dL_start_2 : decode cL_start 2 = .ok (.aload_n 0, 1) := by decide +kernel
theorem dL_start_3 : decode cL_start 3 = .ok (.invokevirtual 17, 3) := by decide +kernel
theorem dL_start_6 : decode cL_start 6 = .ok (.i2l, 1) := by decide +kernel
theorem dL_start_7 : decode cL_start 7 = .ok (.lastore, 1) := by decide +kernel
theorem dL_start_8 : decode cL_start 8 = .ok (.goto 6, 3) := by decide +kernel
theorem dL_start_11 : decode cL_start 11 = .ok (.astore_n 2, 1) := by decide +kernel
theorem dL_start_12 : decode cL_start 12 = .ok (.iconst 1, 1) := by decide +kernel
theorem dL_start_13 : decode cL_start 13 = .ok (.ireturn, 1) := by decide +kernel
theorem dL_start_14 : decode cL_start 14 = .ok (.iconst 0, 1) := by decide +kernel
theorem dL_start_15 : decode cL_start 15 = .ok (.ireturn, 1) := by decide +kernel
theorem dK_start_0 : decode cK_start 0 = .ok (.aload_n 0, 1) := by decide +kernel
theorem dK_start_1 : decode cK_start 1 = .ok (.getfield 10, 3) := by decide +kernel
theorem dK_start_4 : decode cK_start 4 = .ok (.invokevirtual 33, 3) := by decide +kernel
theorem dK_start_7 : decode cK_start 7 = .ok (.ifCond .ne 13, 3) := by decide +kernel
theorem dK_start_10 : decode cK_start 10 = .ok (.new 37, 3) := by decide +kernel
theorem dK_start_13 : decode cK_start 13 = .ok (.dup, 1) := by decide +kernel
theorem dK_start_14 : decode cK_start 14 = .ok (.ldc 64, 2) := by decide +kernel
theorem dK_start_16 : decode cK_start 16 = .ok (.invokespecial 41, 3) := by decide +kernel
theorem dK_start_19 : decode cK_start 19 = .ok (.athrow, 1) := by decide +kernel
theorem dK_start_20 : decode cK_start 20 = .ok (.aload_n 0, 1) := by decide +kernel
theorem dK_start_21 : decode cK_start 21 = .ok (.getfield 10, 3) := by decide +kernel
theorem dK_start_24 : decode cK_start 24 = .ok (.invokevirtual 66, 3) := by decide +kernel
theorem dK_start_27 : decode cK_start 27 = .ok (.istore_n 1, 1) := by decide +kernel
theorem dK_start_28 : decode cK_start 28 = .ok (.iload_n 1, 1) := by decide +kernel
theorem dK_start_29 : decode cK_start 29 = .ok (.iconst (-1), 1) := by decide +kernel
theorem dK_start_30 : decode cK_start 30 = .ok (.if_icmp .eq 7, 3) := by decide +kernel
theorem dK_start_33 : decode cK_start 33 = .ok (.iconst 1, 1) := by decide +kernel
theorem dK_start_34 : decode cK_start 34 = .ok (.iload_n 1, 1) := by decide +kernel
theorem dK_start_35 : decode cK_start 35 = .ok (.iadd, 1) := by decide +kernel
theorem dK_start_36 : decode cK_start 36 = .ok (.ireturn, 1) := by decide +kernel
theorem dK_start_37 : decode cK_start 37 = .ok (.aload_n 0, 1) := by decide +kernel
theorem dK_start_38 : decode cK_start 38 = .ok (.iconst 1, 1) := by decide +kernel
theorem dK_start_39 : decode cK_start 39 = .ok (.invokevirtual 70, 3) := by decide +kernel
theorem dK_start_42 : decode cK_start 42 = .ok (.iconst 0, 1) := by decide +kernel
theorem dK_start_43 : decode cK_start 43 = .ok (.ireturn, 1) := by decide +kernel
theorem dG_firstLoopAtOnce_0 : decode cG_firstLoopAtOnce 0 = .ok (.iconst (-1), 1) := by decide +kernel
theorem dG_firstLoopAtOnce_1 : decode cG_firstLoopAtOnce 1 = .ok (.istore_n 1, 1) := by decide +kernel
theorem dG_firstLoopAtOnce_2 : decode cG_firstLoopAtOnce 2 = .ok (.aload_n 0, 1) := by decide +kernel
theorem dG_firstLoopAtOnce_3 : decode cG_firstLoopAtOnce 3 = .ok (.getfield 52, 3) := by decide +kernel
theorem dG_firstLoopAtOnce_6 : decode cG_firstLoopAtOnce 6 = .ok (.istore_n 2, 1) := by decide +kernel
theorem dG_firstLoopAtOnce_7 : decode cG_firstLoopAtOnce 7 = .ok (.aload_n 0, 1) := by decide +kernel
theorem dG_firstLoopAtOnce_8 : decode cG_firstLoopAtOnce 8 = .ok (.getfield 43, 3) := by decide +kernel
theorem dG_firstLoopAtOnce_11 : decode cG_firstLoopAtOnce 11 = .ok (.iconst 1, 1) := by decide +kernel
theorem dG_firstLoopAtOnce_12 : decode cG_firstLoopAtOnce 12 = .ok (.isub, 1) := by decide +kernel
theorem dG_firstLoopAtOnce_13 : decode cG_firstLoopAtOnce 13 = .ok (.istore_n 3, 1) := by decide +kernel
theorem dG_firstLoopAtOnce_14 : decode cG_firstLoopAtOnce 14 = .ok (.iload_n 3, 1) := by decide +kernel
theorem dG_firstLoopAtOnce_15 : decode cG_firstLoopAtOnce 15 = .ok (.ifCond .lt 49, 3) := by decide +kernel
theorem dG_firstLoopAtOnce_18 : decode cG_firstLoopAtOnce 18 = .ok (.aload_n 0, 1) := by decide +kernel
theorem dG_firstLoopAtOnce_19 : decode cG_firstLoopAtOnce 19 = .ok (.getfield 30, 3) := by decide +kernel
theorem dG_firstLoopAtOnce_22 : decode cG_firstLoopAtOnce 22 = .ok (.iload_n 3, 1) := by decide +kernel
theorem dG_firstLoopAtOnce_23 : decode cG_firstLoopAtOnce 23 = .ok (.aload_n 0, 1) := by decide +kernel
theorem dG_firstLoopAtOnce_24 : decode cG_firstLoopAtOnce 24 = .ok (.iload_n 3, 1) := by decide +kernel
theorem dG_firstLoopAtOnce_25 : decode cG_firstLoopAtOnce 25 = .ok (.invokevirtual 93, 3) := by decide +kernel
theorem dG_firstLoopAtOnce_28 : decode cG_firstLoopAtOnce 28 = .ok (.iastore, 1) := by decide +kernel
theorem dG_firstLoopAtOnce_29 : decode cG_firstLoopAtOnce 29 = .ok (.aload_n 0, 1) := by decide +kernel
theorem dG_firstLoopAtOnce_30 : decode cG_firstLoopAtOnce 30 = .ok (.getfield 9, 3) := by decide +kernel
theorem dG_firstLoopAtOnce_33 : decode cG_firstLoopAtOnce 33 = .ok (.iload_n 3, 1) := by decide +kernel
theorem dG_firstLoopAtOnce_34 : decode cG_firstLoopAtOnce 34 = .ok (.iaload, 1) := by decide +kernel
theorem dG_firstLoopAtOnce_35 : decode cG_firstLoopAtOnce 35 = .ok (.bipush 8, 2) := by decide +kernel
theorem dG_firstLoopAtOnce_37 : decode cG_firstLoopAtOnce 37 = .ok (.if_icmp .ne 21, 3) := by decide +kernel
theorem dG_firstLoopAtOnce_40 : decode cG_firstLoopAtOnce 40 = .ok (.iinc 2 (-1), 3) := by decide +kernel
theorem dG_firstLoopAtOnce_43 : decode cG_firstLoopAtOnce 43 = .ok (.aload_n 0, 1) := by decide +kernel
theorem dG_firstLoopAtOnce_44 : decode cG_firstLoopAtOnce 44 = .ok (.iload_n 3, 1) := by decide +kernel
theorem dG_firstLoopAtOnce_45 : decode cG_firstLoopAtOnce 45 = .ok (.iconst 1, 1) := by decide +kernel
theorem dG_firstLoopAtOnce_46 : decode cG_firstLoopAtOnce 46 = .ok (.iadd, 1) := by decide +kernel
theorem dG_firstLoopAtOnce_47 : decode cG_firstLoopAtOnce 47 = .ok (.invokevirtual 96, 3) := by decide +kernel
theorem dG_firstLoopAtOnce_50 : decode cG_firstLoopAtOnce 50 = .ok (.invokestatic 99, 3) := by decide +kernel
theorem dG_firstLoopAtOnce_53 : decode cG_firstLoopAtOnce 53 = .ok (.ifCond .eq 5, 3) := by decide +kernel
theorem dG_firstLoopAtOnce_56 : decode cG_firstLoopAtOnce 56 = .ok (.iload_n 2, 1) := by decide +kernel
theorem dG_firstLoopAtOnce_57 : decode cG_firstLoopAtOnce 57 = .ok (.istore_n 1, 1) := by decide +kernel
theorem dG_firstLoopAtOnce_58 : decode cG_firstLoopAtOnce 58 = .ok (.iinc 3 (-1), 3) := by decide +kernel
theorem dG_firstLoopAtOnce_61 : decode cG_firstLoopAtOnce 61 = .ok (.goto (-47), 3) := by decide +kernel
theorem dG_firstLoopAtOnce_64 : decode cG_firstLoopAtOnce 64 = .ok (.iload_n 1, 1) := by decide +kernel
theorem dG_firstLoopAtOnce_65 : decode cG_firstLoopAtOnce 65 = .ok (.ireturn, 1) := by decide +kernel
theorem dG_findStartCodes_0 : decode cG_findStartCodes 0 = .ok (.aload_n 0, 1) := by decide +kernel
theorem dG_findStartCodes_1 : decode cG_findStartCodes 1 = .ok (.iload_n 1, 1) := by decide +kernel
theorem dG_findStartCodes_2 : decode cG_findStartCodes 2 = .ok (.iconst 1, 1) := by decide +kernel
theorem dG_findStartCodes_3 : decode cG_findStartCodes 3 = .ok (.iadd, 1) := by decide +kernel
theorem dG_findStartCodes_4 : decode cG_findStartCodes 4 = .ok (.invokevirtual 96, 3) := by decide +kernel
theorem dG_findStartCodes_7 : decode cG_findStartCodes 7 = .ok (.istore_n 2, 1) := by decide +kernel
theorem dG_findStartCodes_8 : decode cG_findStartCodes 8 = .ok (.aload_n 0, 1) := by decide +kernel
theorem dG_findStartCodes_9 : decode cG_findStartCodes 9 = .ok (.aload_n 0, 1) := by decide +kernel
theorem dG_findStartCodes_10 : decode cG_findStartCodes 10 = .ok (.iload_n 1, 1) := by decide +kernel
theorem dG_findStartCodes_11 : decode cG_findStartCodes 11 = .ok (.invokevirtual 104, 3) := by decide +kernel
theorem dG_findStartCodes_14 : decode cG_findStartCodes 14 = .ok (.invokevirtual 96, 3) := by decide +kernel
theorem dG_findStartCodes_17 : decode cG_findStartCodes 17 = .ok (.istore_n 3, 1) := by decide +kernel
theorem dG_findStartCodes_18 : decode cG_findStartCodes 18 = .ok (.aload_n 0, 1) := by decide +kernel
theorem dG_findStartCodes_19 : decode cG_findStartCodes 19 = .ok (.iload_n 1, 1) := by decide +kernel
theorem dG_findStartCodes_20 : decode cG_findStartCodes 20 = .ok (.invokevirtual 69, 3) := by decide +kernel
theorem dG_findStartCodes_23 : decode cG_findStartCodes 23 = .ok (.tableswitch 92 1 10 #[53, 92, 55, 64, 68, 75, 81, 70, 87, 68], 53) := by decide +kernel
theorem dG_findStartCodes_76 : decode cG_findStartCodes 76 = .ok (.iconst 2, 1) := by decide +kernel
theorem dG_findStartCodes_77 : decode cG_findStartCodes 77 = .ok (.ireturn, 1) := by decide +kernel
theorem dG_findStartCodes_78 : decode cG_findStartCodes 78 = .ok (.aload_n 0, 1) := by decide +kernel
theorem dG_findStartCodes_79 : decode cG_findStartCodes 79 = .ok (.iload_n 1, 1) := by decide +kernel
theorem dG_findStartCodes_80 : decode cG_findStartCodes 80 = .ok (.invokevirtual 107, 3) := by decide +kernel
theorem dG_findStartCodes_83 : decode cG_findStartCodes 83 = .ok (.invokestatic 110, 3) := by decide +kernel
theorem dG_findStartCodes_86 : decode cG_findStartCodes 86 = .ok (.ireturn, 1) := by decide +kernel
theorem dG_findStartCodes_87 : decode cG_findStartCodes 87 = .ok (.iload_n 2, 1) := by decide +kernel
theorem dG_findStartCodes_88 : decode cG_findStartCodes 88 = .ok (.iload_n 3, 1) := by decide +kernel
theorem dG_findStartCodes_89 : decode cG_findStartCodes 89 = .ok (.ior, 1) := by decide +kernel
theorem dG_findStartCodes_90 : decode cG_findStartCodes 90 = .ok (.ireturn, 1) := by decide +kernel
theorem dG_findStartCodes_91 : decode cG_findStartCodes 91 = .ok (.iload_n 2, 1) := by decide +kernel
theorem dG_findStartCodes_92 : decode cG_findStartCodes 92 = .ok (.ireturn, 1) := by decide +kernel
theorem dG_findStartCodes_93 : decode cG_findStartCodes 93 = .ok (.iload_n 2, 1) := by decide +kernel
theorem dG_findStartCodes_94 : decode cG_findStartCodes 94 = .ok (.invokestatic 113, 3) := by decide +kernel
theorem dG_findStartCodes_97 : decode cG_findStartCodes 97 = .ok (.ireturn, 1) := by decide +kernel
theorem dG_findStartCodes_98 : decode cG_findStartCodes 98 = .ok (.iload_n 2, 1) := by decide +kernel
theorem dG_findStartCodes_99 : decode cG_findStartCodes 99 = .ok (.iload_n 3, 1) := by decide +kernel
theorem dG_findStartCodes_100 : decode cG_findStartCodes 100 = .ok (.invokestatic 116, 3) := by decide +kernel
theorem dG_findStartCodes_103 : decode cG_findStartCodes 103 = .ok (.ireturn, 1) := by decide +kernel
theorem dG_findStartCodes_104 : decode cG_findStartCodes 104 = .ok (.iload_n 2, 1) := by decide +kernel
theorem dG_findStartCodes_105 : decode cG_findStartCodes 105 = .ok (.iload_n 3, 1) := by decide +kernel
theorem dG_findStartCodes_106 : decode cG_findStartCodes 106 = .ok (.invokestatic 120, 3) := by decide +kernel
theorem dG_findStartCodes_109 : decode cG_findStartCodes 109 = .ok (.ireturn, 1) := by decide +kernel
theorem dG_findStartCodes_110 : decode cG_findStartCodes 110 = .ok (.iload_n 2, 1) := by decide +kernel
theorem dG_findStartCodes_111 : decode cG_findStartCodes 111 = .ok (.invokestatic 123, 3) := by decide +kernel
theorem dG_findStartCodes_114 : decode cG_findStartCodes 114 = .ok (.ireturn, 1) := by decide +kernel
theorem dG_findStartCodes_115 : decode cG_findStartCodes 115 = .ok (.iconst 1, 1) := by decide +kernel
theorem dG_findStartCodes_116 : decode cG_findStartCodes 116 = .ok (.ireturn, 1) := by decide +kernel
theorem dG_startCodesOf_0 : decode cG_startCodesOf 0 = .ok (.aload_n 0, 1) := by decide +kernel
theorem dG_startCodesOf_1 : decode cG_startCodesOf 1 = .ok (.iload_n 1, 1) := by decide +kernel
theorem dG_startCodesOf_2 : decode cG_startCodesOf 2 = .ok (.invokevirtual 58, 3) := by decide +kernel
theorem dG_startCodesOf_5 : decode cG_startCodesOf 5 = .ok (.ifCond .eq 12, 3) := by decide +kernel
theorem dG_startCodesOf_8 : decode cG_startCodesOf 8 = .ok (.aload_n 0, 1) := by decide +kernel
theorem dG_startCodesOf_9 : decode cG_startCodesOf 9 = .ok (.getfield 30, 3) := by decide +kernel
theorem dG_startCodesOf_12 : decode cG_startCodesOf 12 = .ok (.iload_n 1, 1) := by decide +kernel
theorem dG_startCodesOf_13 : decode cG_startCodesOf 13 = .ok (.iaload, 1) := by decide +kernel
theorem dG_startCodesOf_14 : decode cG_startCodesOf 14 = .ok (.goto 4, 3) := by decide +kernel
theorem dG_startCodesOf_17 : decode cG_startCodesOf 17 = .ok (.iconst 0, 1) := by decide +kernel
theorem dG_startCodesOf_18 : decode cG_startCodesOf 18 = .ok (.ireturn, 1) := by decide +kernel
theorem dG_secondOf_0 : decode cG_secondOf 0 = .ok (.aload_n 0, 1) := by decide +kernel
theorem dG_secondOf_1 : decode cG_secondOf 1 = .ok (.iload_n 1, 1) := by decide +kernel
theorem dG_secondOf_2 : decode cG_secondOf 2 = .ok (.invokevirtual 58, 3) := by decide +kernel
theorem dG_secondOf_5 : decode cG_secondOf 5 = .ok (.ifCond .eq 12, 3) := by decide +kernel
theorem dG_secondOf_8 : decode cG_secondOf 8 = .ok (.aload_n 0, 1) := by decide +kernel
theorem dG_secondOf_9 : decode cG_secondOf 9 = .ok (.getfield 18, 3) := by decide +kernel
theorem dG_secondOf_12 : decode cG_secondOf 12 = .ok (.iload_n 1, 1) := by decide +kernel
theorem dG_secondOf_13 : decode cG_secondOf 13 = .ok (.iaload, 1) := by decide +kernel
theorem dG_secondOf_14 : decode cG_secondOf 14 = .ok (.goto 4, 3) := by decide +kernel
theorem dG_secondOf_17 : decode cG_secondOf 17 = .ok (.iconst (-1), 1) := by decide +kernel
theorem dG_secondOf_18 : decode cG_secondOf 18 = .ok (.ireturn, 1) := by decide +kernel
theorem dG_operandOf_0 : decode cG_operandOf 0 = .ok (.aload_n 0, 1) := by decide +kernel
theorem dG_operandOf_1 : decode cG_operandOf 1 = .ok (.iload_n 1, 1) := by decide +kernel
theorem dG_operandOf_2 : decode cG_operandOf 2 = .ok (.invokevirtual 58, 3) := by decide +kernel
theorem dG_operandOf_5 : decode cG_operandOf 5 = .ok (.ifCond .eq 12, 3) := by decide +kernel
theorem dG_operandOf_8 : decode cG_operandOf 8 = .ok (.aload_n 0, 1) := by decide +kernel
theorem dG_operandOf_9 : decode cG_operandOf 9 = .ok (.getfield 15, 3) := by decide +kernel
theorem dG_operandOf_12 : decode cG_operandOf 12 = .ok (.iload_n 1, 1) := by decide +kernel
theorem dG_operandOf_13 : decode cG_operandOf 13 = .ok (.iaload, 1) := by decide +kernel
theorem dG_operandOf_14 : decode cG_operandOf 14 = .ok (.goto 4, 3) := by decide +kernel
theorem dG_operandOf_17 : decode cG_operandOf 17 = .ok (.iconst 0, 1) := by decide +kernel
theorem dG_operandOf_18 : decode cG_operandOf 18 = .ok (.ireturn, 1) := by decide +kernel
theorem dC_ofExit_0 : decode cC_ofExit 0 = .ok (.iconst 4, 1) := by decide +kernel
theorem dC_ofExit_1 : decode cC_ofExit 1 = .ok (.iload_n 0, 1) := by decide +kernel
theorem dC_ofExit_2 : decode cC_ofExit 2 = .ok (.ishl, 1) := by decide +kernel
theorem dC_ofExit_3 : decode cC_ofExit 3 = .ok (.ireturn, 1) := by decide +kernel
theorem dC_withoutZero_0 : decode cC_withoutZero 0 = .ok (.iload_n 0, 1) := by decide +kernel
theorem dC_withoutZero_1 : decode cC_withoutZero 1 = .ok (.bipush (-2), 2) := by decide +kernel
theorem dC_withoutZero_3 : decode cC_withoutZero 3 = .ok (.iand, 1) := by decide +kernel
theorem dC_withoutZero_4 : decode cC_withoutZero 4 = .ok (.ireturn, 1) := by decide +kernel
theorem dC_inSequence_0 : decode cC_inSequence 0 = .ok (.iload_n 0, 1) := by decide +kernel
theorem dC_inSequence_1 : decode cC_inSequence 1 = .ok (.invokestatic 9, 3) := by decide +kernel
theorem dC_inSequence_4 : decode cC_inSequence 4 = .ok (.ifCond .eq 12, 3) := by decide +kernel
theorem dC_inSequence_7 : decode cC_inSequence 7 = .ok (.iload_n 0, 1) := by decide +kernel
theorem dC_inSequence_8 : decode cC_inSequence 8 = .ok (.invokestatic 13, 3) := by decide +kernel
theorem dC_inSequence_11 : decode cC_inSequence 11 = .ok (.iload_n 1, 1) := by decide +kernel
theorem dC_inSequence_12 : decode cC_inSequence 12 = .ok (.ior, 1) := by decide +kernel
theorem dC_inSequence_13 : decode cC_inSequence 13 = .ok (.goto 4, 3) := by decide +kernel
theorem dC_inSequence_16 : decode cC_inSequence 16 = .ok (.iload_n 0, 1) := by decide +kernel
theorem dC_inSequence_17 : decode cC_inSequence 17 = .ok (.ireturn, 1) := by decide +kernel
theorem dC_haveZero_0 : decode cC_haveZero 0 = .ok (.iload_n 0, 1) := by decide +kernel
theorem dC_haveZero_1 : decode cC_haveZero 1 = .ok (.iconst 1, 1) := by decide +kernel
theorem dC_haveZero_2 : decode cC_haveZero 2 = .ok (.iand, 1) := by decide +kernel
theorem dC_haveZero_3 : decode cC_haveZero 3 = .ok (.ifCond .eq 7, 3) := by decide +kernel
theorem dC_haveZero_6 : decode cC_haveZero 6 = .ok (.iconst 1, 1) := by decide +kernel
theorem dC_haveZero_7 : decode cC_haveZero 7 = .ok (.goto 4, 3) := by decide +kernel
theorem dC_haveZero_10 : decode cC_haveZero 10 = .ok (.iconst 0, 1) := by decide +kernel
theorem dC_haveZero_11 : decode cC_haveZero 11 = .ok (.ireturn, 1) := by decide +kernel
theorem dC_greaterOfPairs_0 : decode cC_greaterOfPairs 0 = .ok (.iload_n 0, 1) := by decide +kernel
theorem dC_greaterOfPairs_1 : decode cC_greaterOfPairs 1 = .ok (.ifCond .eq 7, 3) := by decide +kernel
theorem dC_greaterOfPairs_4 : decode cC_greaterOfPairs 4 = .ok (.iload_n 1, 1) := by decide +kernel
theorem dC_greaterOfPairs_5 : decode cC_greaterOfPairs 5 = .ok (.ifCond .ne 5, 3) := by decide +kernel
theorem dC_greaterOfPairs_8 : decode cC_greaterOfPairs 8 = .ok (.iconst 0, 1) := by decide +kernel
theorem dC_greaterOfPairs_9 : decode cC_greaterOfPairs 9 = .ok (.ireturn, 1) := by decide +kernel
theorem dC_greaterOfPairs_10 : decode cC_greaterOfPairs 10 = .ok (.iload_n 0, 1) := by decide +kernel
theorem dC_greaterOfPairs_11 : decode cC_greaterOfPairs 11 = .ok (.iload_n 0, 1) := by decide +kernel
theorem dC_greaterOfPairs_12 : decode cC_greaterOfPairs 12 = .ok (.ineg, 1) := by decide +kernel
theorem dC_greaterOfPairs_13 : decode cC_greaterOfPairs 13 = .ok (.iand, 1) := by decide +kernel
theorem dC_greaterOfPairs_14 : decode cC_greaterOfPairs 14 = .ok (.iload_n 1, 1) := by decide +kernel
theorem dC_greaterOfPairs_15 : decode cC_greaterOfPairs 15 = .ok (.iload_n 1, 1) := by decide +kernel
theorem dC_greaterOfPairs_16 : decode cC_greaterOfPairs 16 = .ok (.ineg, 1) := by decide +kernel
theorem dC_greaterOfPairs_17 : decode cC_greaterOfPairs 17 = .ok (.iand, 1) := by decide +kernel
theorem dC_greaterOfPairs_18 : decode cC_greaterOfPairs 18 = .ok (.invokestatic 17, 3) := by decide +kernel
theorem dC_greaterOfPairs_21 : decode cC_greaterOfPairs 21 = .ok (.istore_n 2, 1) := by decide +kernel
theorem dC_greaterOfPairs_22 : decode cC_greaterOfPairs 22 = .ok (.iload_n 0, 1) := by decide +kernel
theorem dC_greaterOfPairs_23 : decode cC_greaterOfPairs 23 = .ok (.iload_n 1, 1) := by decide +kernel
theorem dC_greaterOfPairs_24 : decode cC_greaterOfPairs 24 = .ok (.ior, 1) := by decide +kernel
theorem dC_greaterOfPairs_25 : decode cC_greaterOfPairs 25 = .ok (.iload_n 2, 1) := by decide +kernel
theorem dC_greaterOfPairs_26 : decode cC_greaterOfPairs 26 = .ok (.ineg, 1) := by decide +kernel
theorem dC_greaterOfPairs_27 : decode cC_greaterOfPairs 27 = .ok (.iand, 1) := by decide +kernel
theorem dC_greaterOfPairs_28 : decode cC_greaterOfPairs 28 = .ok (.ireturn, 1) := by decide +kernel
theorem dC_outsideTrap_0 : decode cC_outsideTrap 0 = .ok (.iload_n 0, 1) := by decide +kernel
theorem dC_outsideTrap_1 : decode cC_outsideTrap 1 = .ok (.iconst 4, 1) := by decide +kernel
theorem dC_outsideTrap_2 : decode cC_outsideTrap 2 = .ok (.iand, 1) := by decide +kernel
theorem dC_outsideTrap_3 : decode cC_outsideTrap 3 = .ok (.ifCond .eq 7, 3) := by decide +kernel
theorem dC_outsideTrap_6 : decode cC_outsideTrap 6 = .ok (.iconst 1, 1) := by decide +kernel
theorem dC_outsideTrap_7 : decode cC_outsideTrap 7 = .ok (.goto 4, 3) := by decide +kernel
theorem dC_outsideTrap_10 : decode cC_outsideTrap 10 = .ok (.iconst 0, 1) := by decide +kernel
theorem dC_outsideTrap_11 : decode cC_outsideTrap 11 = .ok (.istore_n 1, 1) := by decide +kernel
theorem dC_outsideTrap_12 : decode cC_outsideTrap 12 = .ok (.iload_n 0, 1) := by decide +kernel
theorem dC_outsideTrap_13 : decode cC_outsideTrap 13 = .ok (.iconst 3, 1) := by decide +kernel
theorem dC_outsideTrap_14 : decode cC_outsideTrap 14 = .ok (.ishr, 1) := by decide +kernel
theorem dC_outsideTrap_15 : decode cC_outsideTrap 15 = .ok (.iconst 2, 1) := by decide +kernel
theorem dC_outsideTrap_16 : decode cC_outsideTrap 16 = .ok (.ishl, 1) := by decide +kernel
theorem dC_outsideTrap_17 : decode cC_outsideTrap 17 = .ok (.istore_n 2, 1) := by decide +kernel
theorem dC_outsideTrap_18 : decode cC_outsideTrap 18 = .ok (.iload_n 0, 1) := by decide +kernel
theorem dC_outsideTrap_19 : decode cC_outsideTrap 19 = .ok (.iconst 3, 1) := by decide +kernel
theorem dC_outsideTrap_20 : decode cC_outsideTrap 20 = .ok (.iand, 1) := by decide +kernel
theorem dC_outsideTrap_21 : decode cC_outsideTrap 21 = .ok (.iload_n 1, 1) := by decide +kernel
theorem dC_outsideTrap_22 : decode cC_outsideTrap 22 = .ok (.ior, 1) := by decide +kernel
theorem dC_outsideTrap_23 : decode cC_outsideTrap 23 = .ok (.iload_n 2, 1) := by decide +kernel
theorem dC_outsideTrap_24 : decode cC_outsideTrap 24 = .ok (.ior, 1) := by decide +kernel
theorem dC_outsideTrap_25 : decode cC_outsideTrap 25 = .ok (.ireturn, 1) := by decide +kernel
theorem dL_instant_0 : decode cL_instant 0 = .ok (.aload_n 2, 1) := by decide +kernel
theorem dL_instant_1 : decode cL_instant 1 = .ok (.iconst 0, 1) := by decide +kernel
theorem dL_instant_2 : decode cL_instant 2 = .ok (.aload_n 0, 1) := by decide +kernel
theorem dL_instant_3 : decode cL_instant 3 = .ok (.iload_n 1, 1) := by decide +kernel
theorem dL_instant_4 : decode cL_instant 4 = .ok (.invokevirtual 21, 3) := by decide +kernel
theorem dL_instant_7 : decode cL_instant 7 = .ok (.i2l, 1) := by decide +kernel
theorem dL_instant_8 : decode cL_instant 8 = .ok (.lastore, 1) := by decide +kernel
theorem dL_instant_9 : decode cL_instant 9 = .ok (.goto 9, 3) := by decide +kernel
theorem dL_instant_12 : decode cL_instant 12 = .ok (.astore_n 3, 1) := by decide +kernel
theorem dL_instant_13 : decode cL_instant 13 = .ok (.iconst 1, 1) := by decide +kernel
theorem dL_instant_14 : decode cL_instant 14 = .ok (.ireturn, 1) := by decide +kernel
theorem dL_instant_15 : decode cL_instant 15 = .ok (.astore_n 3, 1) := by decide +kernel
theorem dL_instant_16 : decode cL_instant 16 = .ok (.iconst 2, 1) := by decide +kernel
theorem dL_instant_17 : decode cL_instant 17 = .ok (.ireturn, 1) := by decide +kernel
theorem dL_instant_18 : decode cL_instant 18 = .ok (.iconst 0, 1) := by decide +kernel
theorem dL_instant_19 : decode cL_instant 19 = .ok (.ireturn, 1) := by decide +kernel
theorem dK_instant_0 : decode cK_instant 0 = .ok (.aload_n 0, 1) := by decide +kernel
theorem dK_instant_1 : decode cK_instant 1 = .ok (.getfield 25, 3) := by decide +kernel
theorem dK_instant_4 : decode cK_instant 4 = .ok (.iconst 1, 1) := by decide +kernel
theorem dK_instant_5 : decode cK_instant 5 = .ok (.if_icmp .eq 13, 3) := by decide +kernel
theorem dK_instant_8 : decode cK_instant 8 = .ok (.new 37, 3) := by decide +kernel
theorem dK_instant_11 : decode cK_instant 11 = .ok (.dup, 1) := by decide +kernel
theorem dK_instant_12 : decode cK_instant 12 = .ok (.ldc 77, 2) := by decide +kernel
theorem dK_instant_14 : decode cK_instant 14 = .ok (.invokespecial 41, 3) := by decide +kernel
theorem dK_instant_17 : decode cK_instant 17 = .ok (.athrow, 1) := by decide +kernel
theorem dK_instant_18 : decode cK_instant 18 = .ok (.iload_n 1, 1) := by decide +kernel
theorem dK_instant_19 : decode cK_instant 19 = .ok (.ifCond .lt 9, 3) := by decide +kernel
theorem dK_instant_22 : decode cK_instant 22 = .ok (.iload_n 1, 1) := by decide +kernel
theorem dK_instant_23 : decode cK_instant 23 = .ok (.bipush 16, 2) := by decide +kernel
theorem dK_instant_25 : decode cK_instant 25 = .ok (.if_icmp .lt 13, 3) := by decide +kernel
theorem dK_instant_28 : decode cK_instant 28 = .ok (.new 48, 3) := by decide +kernel
theorem dK_instant_31 : decode cK_instant 31 = .ok (.dup, 1) := by decide +kernel
theorem dK_instant_32 : decode cK_instant 32 = .ok (.ldc 79, 2) := by decide +kernel
theorem dK_instant_34 : decode cK_instant 34 = .ok (.invokespecial 52, 3) := by decide +kernel
theorem dK_instant_37 : decode cK_instant 37 = .ok (.athrow, 1) := by decide +kernel
theorem dK_instant_38 : decode cK_instant 38 = .ok (.aload_n 0, 1) := by decide +kernel
theorem dK_instant_39 : decode cK_instant 39 = .ok (.getfield 21, 3) := by decide +kernel
theorem dK_instant_42 : decode cK_instant 42 = .ok (.iload_n 1, 1) := by decide +kernel
theorem dK_instant_43 : decode cK_instant 43 = .ok (.invokevirtual 81, 3) := by decide +kernel
theorem dK_instant_46 : decode cK_instant 46 = .ok (.istore_n 2, 1) := by decide +kernel
theorem dK_instant_47 : decode cK_instant 47 = .ok (.aload_n 0, 1) := by decide +kernel
theorem dK_instant_48 : decode cK_instant 48 = .ok (.aload_n 0, 1) := by decide +kernel
theorem dK_instant_49 : decode cK_instant 49 = .ok (.getfield 21, 3) := by decide +kernel
theorem dK_instant_52 : decode cK_instant 52 = .ok (.getfield 84, 3) := by decide +kernel
theorem dK_instant_55 : decode cK_instant 55 = .ok (.putfield 30, 3) := by decide +kernel
theorem dK_instant_58 : decode cK_instant 58 = .ok (.aload_n 0, 1) := by decide +kernel
theorem dK_instant_59 : decode cK_instant 59 = .ok (.aload_n 0, 1) := by decide +kernel
theorem dK_instant_60 : decode cK_instant 60 = .ok (.getfield 21, 3) := by decide +kernel
theorem dK_instant_63 : decode cK_instant 63 = .ok (.getfield 87, 3) := by decide +kernel
theorem dK_instant_66 : decode cK_instant 66 = .ok (.putfield 90, 3) := by decide +kernel
theorem dK_instant_69 : decode cK_instant 69 = .ok (.iload_n 2, 1) := by decide +kernel
theorem dK_instant_70 : decode cK_instant 70 = .ok (.ifCond .ne 5, 3) := by decide +kernel
theorem dK_instant_73 : decode cK_instant 73 = .ok (.iconst 2, 1) := by decide +kernel
theorem dK_instant_74 : decode cK_instant 74 = .ok (.ireturn, 1) := by decide +kernel
theorem dK_instant_75 : decode cK_instant 75 = .ok (.aload_n 0, 1) := by decide +kernel
theorem dK_instant_76 : decode cK_instant 76 = .ok (.dup, 1) := by decide +kernel
theorem dK_instant_77 : decode cK_instant 77 = .ok (.getfield 93, 3) := by decide +kernel
theorem dK_instant_80 : decode cK_instant 80 = .ok (.iconst 1, 1) := by decide +kernel
theorem dK_instant_81 : decode cK_instant 81 = .ok (.iadd, 1) := by decide +kernel
theorem dK_instant_82 : decode cK_instant 82 = .ok (.putfield 93, 3) := by decide +kernel
theorem dK_instant_85 : decode cK_instant 85 = .ok (.aload_n 0, 1) := by decide +kernel
theorem dK_instant_86 : decode cK_instant 86 = .ok (.getfield 21, 3) := by decide +kernel
theorem dK_instant_89 : decode cK_instant 89 = .ok (.invokevirtual 96, 3) := by decide +kernel
theorem dK_instant_92 : decode cK_instant 92 = .ok (.aload_n 0, 1) := by decide +kernel
theorem dK_instant_93 : decode cK_instant 93 = .ok (.getfield 21, 3) := by decide +kernel
theorem dK_instant_96 : decode cK_instant 96 = .ok (.invokevirtual 99, 3) := by decide +kernel
theorem dK_instant_99 : decode cK_instant 99 = .ok (.ifCond .eq 10, 3) := by decide +kernel
theorem dK_instant_102 : decode cK_instant 102 = .ok (.aload_n 0, 1) := by decide +kernel
theorem dK_instant_103 : decode cK_instant 103 = .ok (.iconst 2, 1) := by decide +kernel
theorem dK_instant_104 : decode cK_instant 104 = .ok (.putfield 25, 3) := by decide +kernel
theorem dK_instant_107 : decode cK_instant 107 = .ok (.iconst 1, 1) := by decide +kernel
theorem dK_instant_108 : decode cK_instant 108 = .ok (.ireturn, 1) := by decide +kernel
theorem dK_instant_109 : decode cK_instant 109 = .ok (.iconst 0, 1) := by decide +kernel
theorem dK_instant_110 : decode cK_instant 110 = .ok (.ireturn, 1) := by decide +kernel
theorem dX_isFound_0 : decode cX_isFound 0 = .ok (.aload_n 0, 1) := by decide +kernel
theorem dX_isFound_1 : decode cX_isFound 1 = .ok (.invokevirtual 27, 3) := by decide +kernel
theorem dX_isFound_4 : decode cX_isFound 4 = .ok (.aload_n 0, 1) := by decide +kernel
theorem dX_isFound_5 : decode cX_isFound 5 = .ok (.bipush 15, 2) := by decide +kernel
theorem dX_isFound_7 : decode cX_isFound 7 = .ok (.putfield 30, 3) := by decide +kernel
theorem dX_isFound_10 : decode cX_isFound 10 = .ok (.aload_n 0, 1) := by decide +kernel
theorem dX_isFound_11 : decode cX_isFound 11 = .ok (.iload_n 1, 1) := by decide +kernel
theorem dX_isFound_12 : decode cX_isFound 12 = .ok (.putfield 33, 3) := by decide +kernel
theorem dX_isFound_15 : decode cX_isFound 15 = .ok (.aload_n 0, 1) := by decide +kernel
theorem dX_isFound_16 : decode cX_isFound 16 = .ok (.iconst 1, 1) := by decide +kernel
theorem dX_isFound_17 : decode cX_isFound 17 = .ok (.putfield 36, 3) := by decide +kernel
theorem dX_isFound_20 : decode cX_isFound 20 = .ok (.iconst 0, 1) := by decide +kernel
theorem dX_isFound_21 : decode cX_isFound 21 = .ok (.istore_n 2, 1) := by decide +kernel
theorem dX_isFound_22 : decode cX_isFound 22 = .ok (.aload_n 0, 1) := by decide +kernel
theorem dX_isFound_23 : decode cX_isFound 23 = .ok (.getfield 36, 3) := by decide +kernel
theorem dX_isFound_26 : decode cX_isFound 26 = .ok (.ifCond .eq 41, 3) := by decide +kernel
theorem dX_isFound_29 : decode cX_isFound 29 = .ok (.iload_n 2, 1) := by decide +kernel
theorem dX_isFound_30 : decode cX_isFound 30 = .ok (.sipush 400, 3) := by decide +kernel
theorem dX_isFound_33 : decode cX_isFound 33 = .ok (.if_icmp .ge 34, 3) := by decide +kernel
theorem dX_isFound_36 : decode cX_isFound 36 = .ok (.aload_n 0, 1) := by decide +kernel
theorem dX_isFound_37 : decode cX_isFound 37 = .ok (.iconst 0, 1) := by decide +kernel
theorem dX_isFound_38 : decode cX_isFound 38 = .ok (.putfield 36, 3) := by decide +kernel
theorem dX_isFound_41 : decode cX_isFound 41 = .ok (.aload_n 0, 1) := by decide +kernel
theorem dX_isFound_42 : decode cX_isFound 42 = .ok (.iconst 0, 1) := by decide +kernel
theorem dX_isFound_43 : decode cX_isFound 43 = .ok (.putfield 39, 3) := by decide +kernel
theorem dX_isFound_46 : decode cX_isFound 46 = .ok (.aload_n 0, 1) := by decide +kernel
theorem dX_isFound_47 : decode cX_isFound 47 = .ok (.aload_n 0, 1) := by decide +kernel
theorem dX_isFound_48 : decode cX_isFound 48 = .ok (.iconst 0, 1) := by decide +kernel
theorem dX_isFound_49 : decode cX_isFound 49 = .ok (.iconst 0, 1) := by decide +kernel
theorem dX_isFound_50 : decode cX_isFound 50 = .ok (.iconst 1, 1) := by decide +kernel
theorem dX_isFound_51 : decode cX_isFound 51 = .ok (.invokevirtual 42, 3) := by decide +kernel
theorem dX_isFound_54 : decode cX_isFound 54 = .ok (.putfield 46, 3) := by decide +kernel
theorem dX_isFound_57 : decode cX_isFound 57 = .ok (.aload_n 0, 1) := by decide +kernel
theorem dX_isFound_58 : decode cX_isFound 58 = .ok (.invokevirtual 50, 3) := by decide +kernel
theorem dX_isFound_61 : decode cX_isFound 61 = .ok (.iinc 2 1, 3) := by decide +kernel
theorem dX_isFound_64 : decode cX_isFound 64 = .ok (.goto (-42), 3) := by decide +kernel
theorem dX_isFound_67 : decode cX_isFound 67 = .ok (.aload_n 0, 1) := by decide +kernel
theorem dX_isFound_68 : decode cX_isFound 68 = .ok (.invokevirtual 53, 3) := by decide +kernel
theorem dX_isFound_71 : decode cX_isFound 71 = .ok (.ifCond .eq 7, 3) := by decide +kernel
theorem dX_isFound_74 : decode cX_isFound 74 = .ok (.iconst 1, 1) := by decide +kernel
theorem dX_isFound_75 : decode cX_isFound 75 = .ok (.goto 4, 3) := by decide +kernel
theorem dX_isFound_78 : decode cX_isFound 78 = .ok (.iconst 0, 1) := by decide +kernel
theorem dX_isFound_79 : decode cX_isFound 79 = .ok (.ireturn, 1) := by decide +kernel
theorem dX_forgetLocals_0 : decode cX_forgetLocals 0 = .ok (.iconst 0, 1) := by decide +kernel
theorem dX_forgetLocals_1 : decode cX_forgetLocals 1 = .ok (.istore_n 1, 1) := by decide +kernel
theorem dX_forgetLocals_2 : decode cX_forgetLocals 2 = .ok (.iload_n 1, 1) := by decide +kernel
theorem dX_forgetLocals_3 : decode cX_forgetLocals 3 = .ok (.aload_n 0, 1) := by decide +kernel
theorem dX_forgetLocals_4 : decode cX_forgetLocals 4 = .ok (.getfield 15, 3) := by decide +kernel
theorem dX_forgetLocals_7 : decode cX_forgetLocals 7 = .ok (.getfield 57, 3) := by decide +kernel
theorem dX_forgetLocals_10 : decode cX_forgetLocals 10 = .ok (.if_icmp .ge 25, 3) := by decide +kernel
theorem dX_forgetLocals_13 : decode cX_forgetLocals 13 = .ok (.iload_n 1, 1) := by decide +kernel
theorem dX_forgetLocals_14 : decode cX_forgetLocals 14 = .ok (.aload_n 0, 1) := by decide +kernel
theorem dX_forgetLocals_15 : decode cX_forgetLocals 15 = .ok (.getfield 9, 3) := by decide +kernel
theorem dX_forgetLocals_18 : decode cX_forgetLocals 18 = .ok (.arraylength, 1) := by decide +kernel
theorem dX_forgetLocals_19 : decode cX_forgetLocals 19 = .ok (.if_icmp .ge 16, 3) := by decide +kernel
theorem dX_forgetLocals_22 : decode cX_forgetLocals 22 = .ok (.aload_n 0, 1) := by decide +kernel
theorem dX_forgetLocals_23 : decode cX_forgetLocals 23 = .ok (.getfield 9, 3) := by decide +kernel
theorem dX_forgetLocals_26 : decode cX_forgetLocals 26 = .ok (.iload_n 1, 1) := by decide +kernel
theorem dX_forgetLocals_27 : decode cX_forgetLocals 27 = .ok (.iconst 2, 1) := by decide +kernel
theorem dX_forgetLocals_28 : decode cX_forgetLocals 28 = .ok (.iastore, 1) := by decide +kernel
theorem dX_forgetLocals_29 : decode cX_forgetLocals 29 = .ok (.iinc 1 1, 3) := by decide +kernel
theorem dX_forgetLocals_32 : decode cX_forgetLocals 32 = .ok (.goto (-30), 3) := by decide +kernel
theorem dX_forgetLocals_35 : decode cX_forgetLocals 35 = .ok (.return_, 1) := by decide +kernel
theorem dX_run_0 : decode cX_run 0 = .ok (.aload_n 0, 1) := by decide +kernel
theorem dX_run_1 : decode cX_run 1 = .ok (.getfield 15, 3) := by decide +kernel
theorem dX_run_4 : decode cX_run 4 = .ok (.iload_n 1, 1) := by decide +kernel
theorem dX_run_5 : decode cX_run 5 = .ok (.invokevirtual 78, 3) := by decide +kernel
theorem dX_run_8 : decode cX_run 8 = .ok (.lookupswitch 44 #[(9, 28), (10, 36)], 28) := by decide +kernel
theorem dX_run_36 : decode cX_run 36 = .ok (.aload_n 0, 1) := by decide +kernel
theorem dX_run_37 : decode cX_run 37 = .ok (.iload_n 1, 1) := by decide +kernel
theorem dX_run_38 : decode cX_run 38 = .ok (.iload_n 2, 1) := by decide +kernel
theorem dX_run_39 : decode cX_run 39 = .ok (.iload_n 3, 1) := by decide +kernel
theorem dX_run_40 : decode cX_run 40 = .ok (.invokevirtual 81, 3) := by decide +kernel
theorem dX_run_43 : decode cX_run 43 = .ok (.lreturn, 1) := by decide +kernel
theorem dX_run_44 : decode cX_run 44 = .ok (.aload_n 0, 1) := by decide +kernel
theorem dX_run_45 : decode cX_run 45 = .ok (.iload_n 1, 1) := by decide +kernel
theorem dX_run_46 : decode cX_run 46 = .ok (.iload_n 2, 1) := by decide +kernel
theorem dX_run_47 : decode cX_run 47 = .ok (.iload_n 3, 1) := by decide +kernel
theorem dX_run_48 : decode cX_run 48 = .ok (.invokevirtual 84, 3) := by decide +kernel
theorem dX_run_51 : decode cX_run 51 = .ok (.lreturn, 1) := by decide +kernel
theorem dX_run_52 : decode cX_run 52 = .ok (.iload_n 2, 1) := by decide +kernel
theorem dX_run_53 : decode cX_run 53 = .ok (.ifCond .ne 19, 3) := by decide +kernel
theorem dX_run_56 : decode cX_run 56 = .ok (.aload_n 0, 1) := by decide +kernel
theorem dX_run_57 : decode cX_run 57 = .ok (.getfield 23, 3) := by decide +kernel
theorem dX_run_60 : decode cX_run 60 = .ok (.ifCond .eq 12, 3) := by decide +kernel
theorem dX_run_63 : decode cX_run 63 = .ok (.aload_n 0, 1) := by decide +kernel
theorem dX_run_64 : decode cX_run 64 = .ok (.iload_n 1, 1) := by decide +kernel
theorem dX_run_65 : decode cX_run 65 = .ok (.iload_n 3, 1) := by decide +kernel
theorem dX_run_66 : decode cX_run 66 = .ok (.invokevirtual 87, 3) := by decide +kernel
theorem dX_run_69 : decode cX_run 69 = .ok (.goto 10, 3) := by decide +kernel
theorem dX_run_72 : decode cX_run 72 = .ok (.aload_n 0, 1) := by decide +kernel
theorem dX_run_73 : decode cX_run 73 = .ok (.iload_n 1, 1) := by decide +kernel
theorem dX_run_74 : decode cX_run 74 = .ok (.iload_n 2, 1) := by decide +kernel
theorem dX_run_75 : decode cX_run 75 = .ok (.iload_n 3, 1) := by decide +kernel
theorem dX_run_76 : decode cX_run 76 = .ok (.invokevirtual 91, 3) := by decide +kernel
theorem dX_run_79 : decode cX_run 79 = .ok (.lreturn, 1) := by decide +kernel
theorem dX_runTrap_0 : decode cX_runTrap 0 = .ok (.aload_n 0, 1) := by decide +kernel
theorem dX_runTrap_1 : decode cX_runTrap 1 = .ok (.iload_n 1, 1) := by decide +kernel
theorem dX_runTrap_2 : decode cX_runTrap 2 = .ok (.iconst 1, 1) := by decide +kernel
theorem dX_runTrap_3 : decode cX_runTrap 3 = .ok (.iadd, 1) := by decide +kernel
theorem dX_runTrap_4 : decode cX_runTrap 4 = .ok (.iload_n 2, 1) := by decide +kernel
theorem dX_runTrap_5 : decode cX_runTrap 5 = .ok (.iload_n 3, 1) := by decide +kernel
theorem dX_runTrap_6 : decode cX_runTrap 6 = .ok (.invokevirtual 42, 3) := by decide +kernel
theorem dX_runTrap_9 : decode cX_runTrap 9 = .ok (.lstore 4, 2) := by decide +kernel
theorem dX_runTrap_11 : decode cX_runTrap 11 = .ok (.lload 4, 2) := by decide +kernel
theorem dX_runTrap_13 : decode cX_runTrap 13 = .ok (.invokestatic 64, 3) := by decide +kernel
theorem dX_runTrap_16 : decode cX_runTrap 16 = .ok (.invokestatic 70, 3) := by decide +kernel
theorem dX_runTrap_19 : decode cX_runTrap 19 = .ok (.iconst 4, 1) := by decide +kernel
theorem dX_runTrap_20 : decode cX_runTrap 20 = .ok (.if_icmp .ne 22, 3) := by decide +kernel
theorem dX_runTrap_23 : decode cX_runTrap 23 = .ok (.aload_n 0, 1) := by decide +kernel
theorem dX_runTrap_24 : decode cX_runTrap 24 = .ok (.dup, 1) := by decide +kernel
theorem dX_runTrap_25 : decode cX_runTrap 25 = .ok (.getfield 39, 3) := by decide +kernel
theorem dX_runTrap_28 : decode cX_runTrap 28 = .ok (.aload_n 0, 1) := by decide +kernel
theorem dX_runTrap_29 : decode cX_runTrap 29 = .ok (.getfield 15, 3) := by decide +kernel
theorem dX_runTrap_32 : decode cX_runTrap 32 = .ok (.iload_n 1, 1) := by decide +kernel
theorem dX_runTrap_33 : decode cX_runTrap 33 = .ok (.invokevirtual 97, 3) := by decide +kernel
theorem dX_runTrap_36 : decode cX_runTrap 36 = .ok (.iconst (-1), 1) := by decide +kernel
theorem dX_runTrap_37 : decode cX_runTrap 37 = .ok (.ixor, 1) := by decide +kernel
theorem dX_runTrap_38 : decode cX_runTrap 38 = .ok (.iand, 1) := by decide +kernel
theorem dX_runTrap_39 : decode cX_runTrap 39 = .ok (.putfield 39, 3) := by decide +kernel
theorem dX_runTrap_42 : decode cX_runTrap 42 = .ok (.lload 4, 2) := by decide +kernel
theorem dX_runTrap_44 : decode cX_runTrap 44 = .ok (.invokestatic 147, 3) := by decide +kernel
theorem dX_runTrap_47 : decode cX_runTrap 47 = .ok (.lreturn, 1) := by decide +kernel
theorem dO_must_0 : decode cO_must 0 = .ok (.lload_n 0, 1) := by decide +kernel
theorem dO_must_1 : decode cO_must 1 = .ok (.bipush 32, 2) := by decide +kernel
theorem dO_must_3 : decode cO_must 3 = .ok (.lushr, 1) := by decide +kernel
theorem dO_must_4 : decode cO_must 4 = .ok (.l2i, 1) := by decide +kernel
theorem dO_must_5 : decode cO_must 5 = .ok (.ireturn, 1) := by decide +kernel
theorem dO_codesIn_0 : decode cO_codesIn 0 = .ok (.iload_n 0, 1) := by decide +kernel
theorem dO_codesIn_1 : decode cO_codesIn 1 = .ok (.bipush 16, 2) := by decide +kernel
theorem dO_codesIn_3 : decode cO_codesIn 3 = .ok (.ishr, 1) := by decide +kernel
theorem dO_codesIn_4 : decode cO_codesIn 4 = .ok (.ireturn, 1) := by decide +kernel
theorem dG_pausesIn_0 : decode cG_pausesIn 0 = .ok (.aload_n 0, 1) := by decide +kernel
theorem dG_pausesIn_1 : decode cG_pausesIn 1 = .ok (.iload_n 1, 1) := by decide +kernel
theorem dG_pausesIn_2 : decode cG_pausesIn 2 = .ok (.invokevirtual 58, 3) := by decide +kernel
theorem dG_pausesIn_5 : decode cG_pausesIn 5 = .ok (.ifCond .eq 12, 3) := by decide +kernel
theorem dG_pausesIn_8 : decode cG_pausesIn 8 = .ok (.aload_n 0, 1) := by decide +kernel
theorem dG_pausesIn_9 : decode cG_pausesIn 9 = .ok (.getfield 27, 3) := by decide +kernel
theorem dG_pausesIn_12 : decode cG_pausesIn 12 = .ok (.iload_n 1, 1) := by decide +kernel
theorem dG_pausesIn_13 : decode cG_pausesIn 13 = .ok (.iaload, 1) := by decide +kernel
theorem dG_pausesIn_14 : decode cG_pausesIn 14 = .ok (.goto 4, 3) := by decide +kernel
theorem dG_pausesIn_17 : decode cG_pausesIn 17 = .ok (.iconst 0, 1) := by decide +kernel
theorem dG_pausesIn_18 : decode cG_pausesIn 18 = .ok (.ireturn, 1) := by decide +kernel
theorem dO_outsideTrap_0 : decode cO_outsideTrap 0 = .ok (.lload_n 0, 1) := by decide +kernel
theorem dO_outsideTrap_1 : decode cO_outsideTrap 1 = .ok (.invokestatic 28, 3) := by decide +kernel
theorem dO_outsideTrap_4 : decode cO_outsideTrap 4 = .ok (.invokestatic 38, 3) := by decide +kernel
theorem dO_outsideTrap_7 : decode cO_outsideTrap 7 = .ok (.lload_n 0, 1) := by decide +kernel
theorem dO_outsideTrap_8 : decode cO_outsideTrap 8 = .ok (.invokestatic 35, 3) := by decide +kernel
theorem dO_outsideTrap_11 : decode cO_outsideTrap 11 = .ok (.invokestatic 38, 3) := by decide +kernel
theorem dO_outsideTrap_14 : decode cO_outsideTrap 14 = .ok (.invokestatic 15, 3) := by decide +kernel
theorem dO_outsideTrap_17 : decode cO_outsideTrap 17 = .ok (.lreturn, 1) := by decide +kernel
theorem dO_outsideTrapHalf_0 : decode cO_outsideTrapHalf 0 = .ok (.iload_n 0, 1) := by decide +kernel
theorem dO_outsideTrapHalf_1 : decode cO_outsideTrapHalf 1 = .ok (.invokestatic 42, 3) := by decide +kernel
theorem dO_outsideTrapHalf_4 : decode cO_outsideTrapHalf 4 = .ok (.iload_n 0, 1) := by decide +kernel
theorem dO_outsideTrapHalf_5 : decode cO_outsideTrapHalf 5 = .ok (.invokestatic 45, 3) := by decide +kernel
theorem dO_outsideTrapHalf_8 : decode cO_outsideTrapHalf 8 = .ok (.invokestatic 53, 3) := by decide +kernel
theorem dO_outsideTrapHalf_11 : decode cO_outsideTrapHalf 11 = .ok (.invokestatic 11, 3) := by decide +kernel
theorem dO_outsideTrapHalf_14 : decode cO_outsideTrapHalf 14 = .ok (.ireturn, 1) := by decide +kernel
theorem dO_emittedIn_0 : decode cO_emittedIn 0 = .ok (.iload_n 0, 1) := by decide +kernel
theorem dO_emittedIn_1 : decode cO_emittedIn 1 = .ok (.ldc 19, 2) := by decide +kernel
theorem dO_emittedIn_3 : decode cO_emittedIn 3 = .ok (.iand, 1) := by decide +kernel
theorem dO_emittedIn_4 : decode cO_emittedIn 4 = .ok (.ireturn, 1) := by decide +kernel
theorem dO_half_0 : decode cO_half 0 = .ok (.iload_n 0, 1) := by decide +kernel
theorem dO_half_1 : decode cO_half 1 = .ok (.iload_n 1, 1) := by decide +kernel
theorem dO_half_2 : decode cO_half 2 = .ok (.bipush 16, 2) := by decide +kernel
theorem dO_half_4 : decode cO_half 4 = .ok (.ishl, 1) := by decide +kernel
theorem dO_half_5 : decode cO_half 5 = .ok (.ior, 1) := by decide +kernel
theorem dO_half_6 : decode cO_half 6 = .ok (.ireturn, 1) := by decide +kernel
theorem dO_can_0 : decode cO_can 0 = .ok (.lload_n 0, 1) := by decide +kernel
theorem dO_can_1 : decode cO_can 1 = .ok (.l2i, 1) := by decide +kernel
theorem dO_can_2 : decode cO_can 2 = .ok (.ireturn, 1) := by decide +kernel
theorem dO_whole_0 : decode cO_whole 0 = .ok (.iload_n 0, 1) := by decide +kernel
theorem dO_whole_1 : decode cO_whole 1 = .ok (.i2l, 1) := by decide +kernel
theorem dO_whole_2 : decode cO_whole 2 = .ok (.bipush 32, 2) := by decide +kernel
theorem dO_whole_4 : decode cO_whole 4 = .ok (.lshl, 1) := by decide +kernel
theorem dO_whole_5 : decode cO_whole 5 = .ok (.iload_n 1, 1) := by decide +kernel
theorem dO_whole_6 : decode cO_whole 6 = .ok (.i2l, 1) := by decide +kernel
theorem dO_whole_7 : decode cO_whole 7 = .ok (.lor, 1) := by decide +kernel
theorem dO_whole_8 : decode cO_whole 8 = .ok (.lreturn, 1) := by decide +kernel
theorem dX_runLocal_0 : decode cX_runLocal 0 = .ok (.aload_n 0, 1) := by decide +kernel
theorem dX_runLocal_1 : decode cX_runLocal 1 = .ok (.getfield 15, 3) := by decide +kernel
theorem dX_runLocal_4 : decode cX_runLocal 4 = .ok (.iload_n 1, 1) := by decide +kernel
theorem dX_runLocal_5 : decode cX_runLocal 5 = .ok (.invokevirtual 94, 3) := by decide +kernel
theorem dX_runLocal_8 : decode cX_runLocal 8 = .ok (.istore 4, 2) := by decide +kernel
theorem dX_runLocal_10 : decode cX_runLocal 10 = .ok (.aload_n 0, 1) := by decide +kernel
theorem dX_runLocal_11 : decode cX_runLocal 11 = .ok (.getfield 15, 3) := by decide +kernel
theorem dX_runLocal_14 : decode cX_runLocal 14 = .ok (.iload_n 1, 1) := by decide +kernel
theorem dX_runLocal_15 : decode cX_runLocal 15 = .ok (.invokevirtual 150, 3) := by decide +kernel
theorem dX_runLocal_18 : decode cX_runLocal 18 = .ok (.iload_n 2, 1) := by decide +kernel
theorem dX_runLocal_19 : decode cX_runLocal 19 = .ok (.iadd, 1) := by decide +kernel
theorem dX_runLocal_20 : decode cX_runLocal 20 = .ok (.istore 5, 2) := by decide +kernel
theorem dX_runLocal_22 : decode cX_runLocal 22 = .ok (.aload_n 0, 1) := by decide +kernel
theorem dX_runLocal_23 : decode cX_runLocal 23 = .ok (.getfield 30, 3) := by decide +kernel
theorem dX_runLocal_26 : decode cX_runLocal 26 = .ok (.istore 6, 2) := by decide +kernel
theorem dX_runLocal_28 : decode cX_runLocal 28 = .ok (.aload_n 0, 1) := by decide +kernel
theorem dX_runLocal_29 : decode cX_runLocal 29 = .ok (.getfield 33, 3) := by decide +kernel
theorem dX_runLocal_32 : decode cX_runLocal 32 = .ok (.istore 7, 2) := by decide +kernel
theorem dX_runLocal_34 : decode cX_runLocal 34 = .ok (.aload_n 0, 1) := by decide +kernel
theorem dX_runLocal_35 : decode cX_runLocal 35 = .ok (.iload_n 1, 1) := by decide +kernel
theorem dX_runLocal_36 : decode cX_runLocal 36 = .ok (.iload_n 2, 1) := by decide +kernel
theorem dX_runLocal_37 : decode cX_runLocal 37 = .ok (.iload_n 3, 1) := by decide +kernel
theorem dX_runLocal_38 : decode cX_runLocal 38 = .ok (.invokevirtual 153, 3) := by decide +kernel
theorem dX_runLocal_41 : decode cX_runLocal 41 = .ok (.lstore 8, 2) := by decide +kernel
theorem dX_runLocal_43 : decode cX_runLocal 43 = .ok (.aload_n 0, 1) := by decide +kernel
theorem dX_runLocal_44 : decode cX_runLocal 44 = .ok (.iload 5, 2) := by decide +kernel
theorem dX_runLocal_46 : decode cX_runLocal 46 = .ok (.invokevirtual 156, 3) := by decide +kernel
theorem dX_runLocal_49 : decode cX_runLocal 49 = .ok (.iconst 2, 1) := by decide +kernel
theorem dX_runLocal_50 : decode cX_runLocal 50 = .ok (.if_icmp .ne 25, 3) := by decide +kernel
theorem dX_runLocal_53 : decode cX_runLocal 53 = .ok (.aload_n 0, 1) := by decide +kernel
theorem dX_runLocal_54 : decode cX_runLocal 54 = .ok (.iload 5, 2) := by decide +kernel
theorem dX_runLocal_56 : decode cX_runLocal 56 = .ok (.iload 4, 2) := by decide +kernel
theorem dX_runLocal_58 : decode cX_runLocal 58 = .ok (.lload 8, 2) := by decide +kernel
theorem dX_runLocal_60 : decode cX_runLocal 60 = .ok (.invokevirtual 159, 3) := by decide +kernel
theorem dX_runLocal_63 : decode cX_runLocal 63 = .ok (.ifCond .eq 12, 3) := by decide +kernel
theorem dX_runLocal_66 : decode cX_runLocal 66 = .ok (.aload_n 0, 1) := by decide +kernel
theorem dX_runLocal_67 : decode cX_runLocal 67 = .ok (.iload_n 1, 1) := by decide +kernel
theorem dX_runLocal_68 : decode cX_runLocal 68 = .ok (.iload_n 2, 1) := by decide +kernel
theorem dX_runLocal_69 : decode cX_runLocal 69 = .ok (.iload_n 3, 1) := by decide +kernel
theorem dX_runLocal_70 : decode cX_runLocal 70 = .ok (.invokevirtual 153, 3) := by decide +kernel
theorem dX_runLocal_73 : decode cX_runLocal 73 = .ok (.lstore 8, 2) := by decide +kernel
theorem dX_runLocal_75 : decode cX_runLocal 75 = .ok (.aload_n 0, 1) := by decide +kernel
theorem dX_runLocal_76 : decode cX_runLocal 76 = .ok (.iload 6, 2) := by decide +kernel
theorem dX_runLocal_78 : decode cX_runLocal 78 = .ok (.putfield 30, 3) := by decide +kernel
theorem dX_runLocal_81 : decode cX_runLocal 81 = .ok (.aload_n 0, 1) := by decide +kernel
theorem dX_runLocal_82 : decode cX_runLocal 82 = .ok (.iload 7, 2) := by decide +kernel
theorem dX_runLocal_84 : decode cX_runLocal 84 = .ok (.putfield 33, 3) := by decide +kernel
theorem dX_runLocal_87 : decode cX_runLocal 87 = .ok (.lload 8, 2) := by decide +kernel
theorem dX_runLocal_89 : decode cX_runLocal 89 = .ok (.iload 4, 2) := by decide +kernel
theorem dX_runLocal_91 : decode cX_runLocal 91 = .ok (.invokestatic 163, 3) := by decide +kernel
theorem dX_runLocal_94 : decode cX_runLocal 94 = .ok (.lreturn, 1) := by decide +kernel
theorem dG_weightBefore_0 : decode cG_weightBefore 0 = .ok (.aload_n 0, 1) := by decide +kernel
theorem dG_weightBefore_1 : decode cG_weightBefore 1 = .ok (.iload_n 1, 1) := by decide +kernel
theorem dG_weightBefore_2 : decode cG_weightBefore 2 = .ok (.invokevirtual 58, 3) := by decide +kernel
theorem dG_weightBefore_5 : decode cG_weightBefore 5 = .ok (.ifCond .eq 12, 3) := by decide +kernel
theorem dG_weightBefore_8 : decode cG_weightBefore 8 = .ok (.aload_n 0, 1) := by decide +kernel
theorem dG_weightBefore_9 : decode cG_weightBefore 9 = .ok (.getfield 24, 3) := by decide +kernel
theorem dG_weightBefore_12 : decode cG_weightBefore 12 = .ok (.iload_n 1, 1) := by decide +kernel
theorem dG_weightBefore_13 : decode cG_weightBefore 13 = .ok (.iaload, 1) := by decide +kernel
theorem dG_weightBefore_14 : decode cG_weightBefore 14 = .ok (.goto 4, 3) := by decide +kernel
theorem dG_weightBefore_17 : decode cG_weightBefore 17 = .ok (.iconst 0, 1) := by decide +kernel
theorem dG_weightBefore_18 : decode cG_weightBefore 18 = .ok (.ireturn, 1) := by decide +kernel
theorem dX_runWithStatus_0 : decode cX_runWithStatus 0 = .ok (.iconst 1, 1) := by decide +kernel
theorem dX_runWithStatus_1 : decode cX_runWithStatus 1 = .ok (.aload_n 0, 1) := by decide +kernel
theorem dX_runWithStatus_2 : decode cX_runWithStatus 2 = .ok (.getfield 15, 3) := by decide +kernel
theorem dX_runWithStatus_5 : decode cX_runWithStatus 5 = .ok (.iload_n 1, 1) := by decide +kernel
theorem dX_runWithStatus_6 : decode cX_runWithStatus 6 = .ok (.invokevirtual 94, 3) := by decide +kernel
theorem dX_runWithStatus_9 : decode cX_runWithStatus 9 = .ok (.ishl, 1) := by decide +kernel
theorem dX_runWithStatus_10 : decode cX_runWithStatus 10 = .ok (.istore 4, 2) := by decide +kernel
theorem dX_runWithStatus_12 : decode cX_runWithStatus 12 = .ok (.aload_n 0, 1) := by decide +kernel
theorem dX_runWithStatus_13 : decode cX_runWithStatus 13 = .ok (.aload_n 0, 1) := by decide +kernel
theorem dX_runWithStatus_14 : decode cX_runWithStatus 14 = .ok (.getfield 15, 3) := by decide +kernel
theorem dX_runWithStatus_17 : decode cX_runWithStatus 17 = .ok (.iload_n 1, 1) := by decide +kernel
theorem dX_runWithStatus_18 : decode cX_runWithStatus 18 = .ok (.invokevirtual 150, 3) := by decide +kernel
theorem dX_runWithStatus_21 : decode cX_runWithStatus 21 = .ok (.iload_n 2, 1) := by decide +kernel
theorem dX_runWithStatus_22 : decode cX_runWithStatus 22 = .ok (.iadd, 1) := by decide +kernel
theorem dX_runWithStatus_23 : decode cX_runWithStatus 23 = .ok (.invokevirtual 156, 3) := by decide +kernel
theorem dX_runWithStatus_26 : decode cX_runWithStatus 26 = .ok (.istore 5, 2) := by decide +kernel
theorem dX_runWithStatus_28 : decode cX_runWithStatus 28 = .ok (.aload_n 0, 1) := by decide +kernel
theorem dX_runWithStatus_29 : decode cX_runWithStatus 29 = .ok (.iload 5, 2) := by decide +kernel
theorem dX_runWithStatus_31 : decode cX_runWithStatus 31 = .ok (.iconst 2, 1) := by decide +kernel
theorem dX_runWithStatus_32 : decode cX_runWithStatus 32 = .ok (.if_icmp .ne 15, 3) := by decide +kernel
theorem dX_runWithStatus_35 : decode cX_runWithStatus 35 = .ok (.aload_n 0, 1) := by decide +kernel
theorem dX_runWithStatus_36 : decode cX_runWithStatus 36 = .ok (.getfield 30, 3) := by decide +kernel
theorem dX_runWithStatus_39 : decode cX_runWithStatus 39 = .ok (.iload 4, 2) := by decide +kernel
theorem dX_runWithStatus_41 : decode cX_runWithStatus 41 = .ok (.iconst (-1), 1) := by decide +kernel
theorem dX_runWithStatus_42 : decode cX_runWithStatus 42 = .ok (.ixor, 1) := by decide +kernel
theorem dX_runWithStatus_43 : decode cX_runWithStatus 43 = .ok (.iand, 1) := by decide +kernel
theorem dX_runWithStatus_44 : decode cX_runWithStatus 44 = .ok (.goto 10, 3) := by decide +kernel
theorem dX_runWithStatus_47 : decode cX_runWithStatus 47 = .ok (.aload_n 0, 1) := by decide +kernel
theorem dX_runWithStatus_48 : decode cX_runWithStatus 48 = .ok (.getfield 30, 3) := by decide +kernel
theorem dX_runWithStatus_51 : decode cX_runWithStatus 51 = .ok (.iload 4, 2) := by decide +kernel
theorem dX_runWithStatus_53 : decode cX_runWithStatus 53 = .ok (.ior, 1) := by decide +kernel
theorem dX_runWithStatus_54 : decode cX_runWithStatus 54 = .ok (.putfield 30, 3) := by decide +kernel
theorem dX_runWithStatus_57 : decode cX_runWithStatus 57 = .ok (.aload_n 0, 1) := by decide +kernel
theorem dX_runWithStatus_58 : decode cX_runWithStatus 58 = .ok (.iload 5, 2) := by decide +kernel
theorem dX_runWithStatus_60 : decode cX_runWithStatus 60 = .ok (.iconst 1, 1) := by decide +kernel
theorem dX_runWithStatus_61 : decode cX_runWithStatus 61 = .ok (.if_icmp .ne 13, 3) := by decide +kernel
theorem dX_runWithStatus_64 : decode cX_runWithStatus 64 = .ok (.aload_n 0, 1) := by decide +kernel
theorem dX_runWithStatus_65 : decode cX_runWithStatus 65 = .ok (.getfield 33, 3) := by decide +kernel
theorem dX_runWithStatus_68 : decode cX_runWithStatus 68 = .ok (.iload 4, 2) := by decide +kernel
theorem dX_runWithStatus_70 : decode cX_runWithStatus 70 = .ok (.ior, 1) := by decide +kernel
theorem dX_runWithStatus_71 : decode cX_runWithStatus 71 = .ok (.goto 12, 3) := by decide +kernel
theorem dX_runWithStatus_74 : decode cX_runWithStatus 74 = .ok (.aload_n 0, 1) := by decide +kernel
theorem dX_runWithStatus_75 : decode cX_runWithStatus 75 = .ok (.getfield 33, 3) := by decide +kernel
theorem dX_runWithStatus_78 : decode cX_runWithStatus 78 = .ok (.iload 4, 2) := by decide +kernel
theorem dX_runWithStatus_80 : decode cX_runWithStatus 80 = .ok (.iconst (-1), 1) := by decide +kernel
theorem dX_runWithStatus_81 : decode cX_runWithStatus 81 = .ok (.ixor, 1) := by decide +kernel
theorem dX_runWithStatus_82 : decode cX_runWithStatus 82 = .ok (.iand, 1) := by decide +kernel
theorem dX_runWithStatus_83 : decode cX_runWithStatus 83 = .ok (.putfield 33, 3) := by decide +kernel
theorem dX_runWithStatus_86 : decode cX_runWithStatus 86 = .ok (.aload_n 0, 1) := by decide +kernel
theorem dX_runWithStatus_87 : decode cX_runWithStatus 87 = .ok (.iload_n 1, 1) := by decide +kernel
theorem dX_runWithStatus_88 : decode cX_runWithStatus 88 = .ok (.iconst 1, 1) := by decide +kernel
theorem dX_runWithStatus_89 : decode cX_runWithStatus 89 = .ok (.iadd, 1) := by decide +kernel
theorem dX_runWithStatus_90 : decode cX_runWithStatus 90 = .ok (.iload_n 2, 1) := by decide +kernel
theorem dX_runWithStatus_91 : decode cX_runWithStatus 91 = .ok (.iload_n 3, 1) := by decide +kernel
theorem dX_runWithStatus_92 : decode cX_runWithStatus 92 = .ok (.invokevirtual 42, 3) := by decide +kernel
theorem dX_runWithStatus_95 : decode cX_runWithStatus 95 = .ok (.lreturn, 1) := by decide +kernel
theorem dX_statusAt_0 : decode cX_statusAt 0 = .ok (.iload_n 1, 1) := by decide +kernel
theorem dX_statusAt_1 : decode cX_statusAt 1 = .ok (.ifCond .lt 21, 3) := by decide +kernel
theorem dX_statusAt_4 : decode cX_statusAt 4 = .ok (.iload_n 1, 1) := by decide +kernel
theorem dX_statusAt_5 : decode cX_statusAt 5 = .ok (.aload_n 0, 1) := by decide +kernel
theorem dX_statusAt_6 : decode cX_statusAt 6 = .ok (.getfield 9, 3) := by decide +kernel
theorem dX_statusAt_9 : decode cX_statusAt 9 = .ok (.arraylength, 1) := by decide +kernel
theorem dX_statusAt_10 : decode cX_statusAt 10 = .ok (.if_icmp .ge 12, 3) := by decide +kernel
theorem dX_statusAt_13 : decode cX_statusAt 13 = .ok (.aload_n 0, 1) := by decide +kernel
theorem dX_statusAt_14 : decode cX_statusAt 14 = .ok (.getfield 9, 3) := by decide +kernel
theorem dX_statusAt_17 : decode cX_statusAt 17 = .ok (.iload_n 1, 1) := by decide +kernel
theorem dX_statusAt_18 : decode cX_statusAt 18 = .ok (.iaload, 1) := by decide +kernel
theorem dX_statusAt_19 : decode cX_statusAt 19 = .ok (.goto 4, 3) := by decide +kernel
theorem dX_statusAt_22 : decode cX_statusAt 22 = .ok (.iconst 2, 1) := by decide +kernel
theorem dX_statusAt_23 : decode cX_statusAt 23 = .ok (.ireturn, 1) := by decide +kernel
theorem dX_learnLocal_0 : decode cX_learnLocal 0 = .ok (.lload_n 3, 1) := by decide +kernel
theorem dX_learnLocal_1 : decode cX_learnLocal 1 = .ok (.invokestatic 64, 3) := by decide +kernel
theorem dX_learnLocal_4 : decode cX_learnLocal 4 = .ok (.iload_n 2, 1) := by decide +kernel
theorem dX_learnLocal_5 : decode cX_learnLocal 5 = .ok (.invokestatic 167, 3) := by decide +kernel
theorem dX_learnLocal_8 : decode cX_learnLocal 8 = .ok (.ifCond .eq 11, 3) := by decide +kernel
theorem dX_learnLocal_11 : decode cX_learnLocal 11 = .ok (.aload_n 0, 1) := by decide +kernel
theorem dX_learnLocal_12 : decode cX_learnLocal 12 = .ok (.iload_n 1, 1) := by decide +kernel
theorem dX_learnLocal_13 : decode cX_learnLocal 13 = .ok (.iconst 1, 1) := by decide +kernel
theorem dX_learnLocal_14 : decode cX_learnLocal 14 = .ok (.invokevirtual 171, 3) := by decide +kernel
theorem dX_learnLocal_17 : decode cX_learnLocal 17 = .ok (.iconst 1, 1) := by decide +kernel
theorem dX_learnLocal_18 : decode cX_learnLocal 18 = .ok (.ireturn, 1) := by decide +kernel
theorem dX_learnLocal_19 : decode cX_learnLocal 19 = .ok (.lload_n 3, 1) := by decide +kernel
theorem dX_learnLocal_20 : decode cX_learnLocal 20 = .ok (.invokestatic 75, 3) := by decide +kernel
theorem dX_learnLocal_23 : decode cX_learnLocal 23 = .ok (.iload_n 2, 1) := by decide +kernel
theorem dX_learnLocal_24 : decode cX_learnLocal 24 = .ok (.invokestatic 167, 3) := by decide +kernel
theorem dX_learnLocal_27 : decode cX_learnLocal 27 = .ok (.ifCond .ne 11, 3) := by decide +kernel
theorem dX_learnLocal_30 : decode cX_learnLocal 30 = .ok (.aload_n 0, 1) := by decide +kernel
theorem dX_learnLocal_31 : decode cX_learnLocal 31 = .ok (.iload_n 1, 1) := by decide +kernel
theorem dX_learnLocal_32 : decode cX_learnLocal 32 = .ok (.iconst 0, 1) := by decide +kernel
theorem dX_learnLocal_33 : decode cX_learnLocal 33 = .ok (.invokevirtual 171, 3) := by decide +kernel
theorem dX_learnLocal_36 : decode cX_learnLocal 36 = .ok (.iconst 1, 1) := by decide +kernel
theorem dX_learnLocal_37 : decode cX_learnLocal 37 = .ok (.ireturn, 1) := by decide +kernel
theorem dX_learnLocal_38 : decode cX_learnLocal 38 = .ok (.iconst 0, 1) := by decide +kernel
theorem dX_learnLocal_39 : decode cX_learnLocal 39 = .ok (.ireturn, 1) := by decide +kernel
theorem dK_hasBit_0 : decode cK_hasBit 0 = .ok (.iload_n 0, 1) := by decide +kernel
theorem dK_hasBit_1 : decode cK_hasBit 1 = .ok (.iload_n 1, 1) := by decide +kernel
theorem dK_hasBit_2 : decode cK_hasBit 2 = .ok (.ishr, 1) := by decide +kernel
theorem dK_hasBit_3 : decode cK_hasBit 3 = .ok (.iconst 1, 1) := by decide +kernel
theorem dK_hasBit_4 : decode cK_hasBit 4 = .ok (.iand, 1) := by decide +kernel
theorem dK_hasBit_5 : decode cK_hasBit 5 = .ok (.ifCond .eq 7, 3) := by decide +kernel
theorem dK_hasBit_8 : decode cK_hasBit 8 = .ok (.iconst 1, 1) := by decide +kernel
theorem dK_hasBit_9 : decode cK_hasBit 9 = .ok (.goto 4, 3) := by decide +kernel
theorem dK_hasBit_12 : decode cK_hasBit 12 = .ok (.iconst 0, 1) := by decide +kernel
theorem dK_hasBit_13 : decode cK_hasBit 13 = .ok (.ireturn, 1) := by decide +kernel
theorem dX_learnStatus_0 : decode cX_learnStatus 0 = .ok (.iload_n 1, 1) := by decide +kernel
theorem dX_learnStatus_1 : decode cX_learnStatus 1 = .ok (.ifCond .lt 24, 3) := by decide +kernel
theorem dX_learnStatus_4 : decode cX_learnStatus 4 = .ok (.iload_n 1, 1) := by decide +kernel
theorem dX_learnStatus_5 : decode cX_learnStatus 5 = .ok (.aload_n 0, 1) := by decide +kernel
theorem dX_learnStatus_6 : decode cX_learnStatus 6 = .ok (.getfield 9, 3) := by decide +kernel
theorem dX_learnStatus_9 : decode cX_learnStatus 9 = .ok (.arraylength, 1) := by decide +kernel
theorem dX_learnStatus_10 : decode cX_learnStatus 10 = .ok (.if_icmp .ge 15, 3) := by decide +kernel
theorem dX_learnStatus_13 : decode cX_learnStatus 13 = .ok (.aload_n 0, 1) := by decide +kernel
theorem dX_learnStatus_14 : decode cX_learnStatus 14 = .ok (.getfield 9, 3) := by decide +kernel
theorem dX_learnStatus_17 : decode cX_learnStatus 17 = .ok (.iload_n 1, 1) := by decide +kernel
theorem dX_learnStatus_18 : decode cX_learnStatus 18 = .ok (.iload_n 2, 1) := by decide +kernel
theorem dX_learnStatus_19 : decode cX_learnStatus 19 = .ok (.iastore, 1) := by decide +kernel
theorem dX_learnStatus_20 : decode cX_learnStatus 20 = .ok (.aload_n 0, 1) := by decide +kernel
theorem dX_learnStatus_21 : decode cX_learnStatus 21 = .ok (.iconst 1, 1) := by decide +kernel
theorem dX_learnStatus_22 : decode cX_learnStatus 22 = .ok (.putfield 36, 3) := by decide +kernel
theorem dX_learnStatus_25 : decode cX_learnStatus 25 = .ok (.return_, 1) := by decide +kernel
theorem dO_withoutSignal_0 : decode cO_withoutSignal 0 = .ok (.lconst 1, 1) := by decide +kernel
theorem dO_withoutSignal_1 : decode cO_withoutSignal 1 = .ok (.iload_n 2, 1) := by decide +kernel
theorem dO_withoutSignal_2 : decode cO_withoutSignal 2 = .ok (.lshl, 1) := by decide +kernel
theorem dO_withoutSignal_3 : decode cO_withoutSignal 3 = .ok (.lstore_n 3, 1) := by decide +kernel
theorem dO_withoutSignal_4 : decode cO_withoutSignal 4 = .ok (.lload_n 0, 1) := by decide +kernel
theorem dO_withoutSignal_5 : decode cO_withoutSignal 5 = .ok (.lload_n 3, 1) := by decide +kernel
theorem dO_withoutSignal_6 : decode cO_withoutSignal 6 = .ok (.lload_n 3, 1) := by decide +kernel
theorem dO_withoutSignal_7 : decode cO_withoutSignal 7 = .ok (.bipush 32, 2) := by decide +kernel
theorem dO_withoutSignal_9 : decode cO_withoutSignal 9 = .ok (.lshl, 1) := by decide +kernel
theorem dO_withoutSignal_10 : decode cO_withoutSignal 10 = .ok (.lor, 1) := by decide +kernel
theorem dO_withoutSignal_11 : decode cO_withoutSignal 11 = .ok (.ldc2_w 26, 3) := by decide +kernel
theorem dO_withoutSignal_14 : decode cO_withoutSignal 14 = .ok (.lxor, 1) := by decide +kernel
theorem dO_withoutSignal_15 : decode cO_withoutSignal 15 = .ok (.land, 1) := by decide +kernel
theorem dO_withoutSignal_16 : decode cO_withoutSignal 16 = .ok (.lreturn, 1) := by decide +kernel
end
section
theorem dX_resume_0 : decode cX_resume 0 = .ok (.iload_n 1, 1) := by decide +kernel
theorem dX_resume_1 : decode cX_resume 1 = .ok (.iconst 1, 1) := by decide +kernel
theorem dX_resume_2 : decode cX_resume 2 = .ok (.iadd, 1) := by decide +kernel
theorem dX_resume_3 : decode cX_resume 3 = .ok (.istore_n 3, 1) := by decide +kernel
theorem dX_resume_4 : decode cX_resume 4 = .ok (.aload_n 0, 1) := by decide +kernel
theorem dX_resume_5 : decode cX_resume 5 = .ok (.getfield 15, 3) := by decide +kernel
theorem dX_resume_8 : decode cX_resume 8 = .ok (.iload_n 1, 1) := by decide +kernel
theorem dX_resume_9 : decode cX_resume 9 = .ok (.invokevirtual 109, 3) := by decide +kernel
theorem dX_resume_12 : decode cX_resume 12 = .ok (.istore 4, 2) := by decide +kernel
theorem dX_resume_14 : decode cX_resume 14 = .ok (.aload_n 0, 1) := by decide +kernel
theorem dX_resume_15 : decode cX_resume 15 = .ok (.getfield 15, 3) := by decide +kernel
theorem dX_resume_18 : decode cX_resume 18 = .ok (.iload_n 1, 1) := by decide +kernel
theorem dX_resume_19 : decode cX_resume 19 = .ok (.invokevirtual 78, 3) := by decide +kernel
theorem dX_resume_22 : decode cX_resume 22 = .ok (.tableswitch 141 4 8 #[34, 55, 62, 103, 120], 34) := by decide +kernel
theorem dX_resume_56 : decode cX_resume 56 = .ok (.aload_n 0, 1) := by decide +kernel
theorem dX_resume_57 : decode cX_resume 57 = .ok (.aload_n 0, 1) := by decide +kernel
theorem dX_resume_58 : decode cX_resume 58 = .ok (.iload_n 3, 1) := by decide +kernel
theorem dX_resume_59 : decode cX_resume 59 = .ok (.invokevirtual 123, 3) := by decide +kernel
theorem dX_resume_62 : decode cX_resume 62 = .ok (.ifCond .eq 7, 3) := by decide +kernel
theorem dX_resume_65 : decode cX_resume 65 = .ok (.iload_n 3, 1) := by decide +kernel
theorem dX_resume_66 : decode cX_resume 66 = .ok (.goto 5, 3) := by decide +kernel
theorem dX_resume_69 : decode cX_resume 69 = .ok (.iload 4, 2) := by decide +kernel
theorem dX_resume_71 : decode cX_resume 71 = .ok (.iconst 0, 1) := by decide +kernel
theorem dX_resume_72 : decode cX_resume 72 = .ok (.iload_n 2, 1) := by decide +kernel
theorem dX_resume_73 : decode cX_resume 73 = .ok (.invokevirtual 42, 3) := by decide +kernel
theorem dX_resume_76 : decode cX_resume 76 = .ok (.lreturn, 1) := by decide +kernel
theorem dX_resume_77 : decode cX_resume 77 = .ok (.aload_n 0, 1) := by decide +kernel
theorem dX_resume_78 : decode cX_resume 78 = .ok (.iload_n 1, 1) := by decide +kernel
theorem dX_resume_79 : decode cX_resume 79 = .ok (.iload_n 2, 1) := by decide +kernel
theorem dX_resume_80 : decode cX_resume 80 = .ok (.invokevirtual 127, 3) := by decide +kernel
theorem dX_resume_83 : decode cX_resume 83 = .ok (.lreturn, 1) := by decide +kernel
theorem dX_resume_84 : decode cX_resume 84 = .ok (.aload_n 0, 1) := by decide +kernel
theorem dX_resume_85 : decode cX_resume 85 = .ok (.iload_n 3, 1) := by decide +kernel
theorem dX_resume_86 : decode cX_resume 86 = .ok (.invokevirtual 123, 3) := by decide +kernel
theorem dX_resume_89 : decode cX_resume 89 = .ok (.ifCond .eq 27, 3) := by decide +kernel
theorem dX_resume_92 : decode cX_resume 92 = .ok (.aload_n 0, 1) := by decide +kernel
theorem dX_resume_93 : decode cX_resume 93 = .ok (.aload_n 0, 1) := by decide +kernel
theorem dX_resume_94 : decode cX_resume 94 = .ok (.iload_n 3, 1) := by decide +kernel
theorem dX_resume_95 : decode cX_resume 95 = .ok (.iconst 0, 1) := by decide +kernel
theorem dX_resume_96 : decode cX_resume 96 = .ok (.iload_n 2, 1) := by decide +kernel
theorem dX_resume_97 : decode cX_resume 97 = .ok (.invokevirtual 42, 3) := by decide +kernel
theorem dX_resume_100 : decode cX_resume 100 = .ok (.iload 4, 2) := by decide +kernel
theorem dX_resume_102 : decode cX_resume 102 = .ok (.aload_n 0, 1) := by decide +kernel
theorem dX_resume_103 : decode cX_resume 103 = .ok (.getfield 15, 3) := by decide +kernel
theorem dX_resume_106 : decode cX_resume 106 = .ok (.iload_n 1, 1) := by decide +kernel
theorem dX_resume_107 : decode cX_resume 107 = .ok (.invokevirtual 130, 3) := by decide +kernel
theorem dX_resume_110 : decode cX_resume 110 = .ok (.invokevirtual 112, 3) := by decide +kernel
theorem dX_resume_113 : decode cX_resume 113 = .ok (.goto 11, 3) := by decide +kernel
theorem dX_resume_116 : decode cX_resume 116 = .ok (.aload_n 0, 1) := by decide +kernel
theorem dX_resume_117 : decode cX_resume 117 = .ok (.iload 4, 2) := by decide +kernel
theorem dX_resume_119 : decode cX_resume 119 = .ok (.iconst 0, 1) := by decide +kernel
theorem dX_resume_120 : decode cX_resume 120 = .ok (.iload_n 2, 1) := by decide +kernel
theorem dX_resume_121 : decode cX_resume 121 = .ok (.invokevirtual 42, 3) := by decide +kernel
theorem dX_resume_124 : decode cX_resume 124 = .ok (.lreturn, 1) := by decide +kernel
theorem dX_resume_125 : decode cX_resume 125 = .ok (.aload_n 0, 1) := by decide +kernel
theorem dX_resume_126 : decode cX_resume 126 = .ok (.iload_n 3, 1) := by decide +kernel
theorem dX_resume_127 : decode cX_resume 127 = .ok (.iload_n 2, 1) := by decide +kernel
theorem dX_resume_128 : decode cX_resume 128 = .ok (.invokevirtual 133, 3) := by decide +kernel
theorem dX_resume_131 : decode cX_resume 131 = .ok (.aload_n 0, 1) := by decide +kernel
theorem dX_resume_132 : decode cX_resume 132 = .ok (.iload 4, 2) := by decide +kernel
theorem dX_resume_134 : decode cX_resume 134 = .ok (.iload_n 2, 1) := by decide +kernel
theorem dX_resume_135 : decode cX_resume 135 = .ok (.invokevirtual 133, 3) := by decide +kernel
theorem dX_resume_138 : decode cX_resume 138 = .ok (.invokestatic 116, 3) := by decide +kernel
theorem dX_resume_141 : decode cX_resume 141 = .ok (.lreturn, 1) := by decide +kernel
theorem dX_resume_142 : decode cX_resume 142 = .ok (.aload_n 0, 1) := by decide +kernel
theorem dX_resume_143 : decode cX_resume 143 = .ok (.aload_n 0, 1) := by decide +kernel
theorem dX_resume_144 : decode cX_resume 144 = .ok (.iload_n 3, 1) := by decide +kernel
theorem dX_resume_145 : decode cX_resume 145 = .ok (.iconst 0, 1) := by decide +kernel
theorem dX_resume_146 : decode cX_resume 146 = .ok (.iload_n 2, 1) := by decide +kernel
theorem dX_resume_147 : decode cX_resume 147 = .ok (.invokevirtual 42, 3) := by decide +kernel
theorem dX_resume_150 : decode cX_resume 150 = .ok (.iload_n 3, 1) := by decide +kernel
theorem dX_resume_151 : decode cX_resume 151 = .ok (.aload_n 0, 1) := by decide +kernel
theorem dX_resume_152 : decode cX_resume 152 = .ok (.getfield 15, 3) := by decide +kernel
theorem dX_resume_155 : decode cX_resume 155 = .ok (.iload_n 1, 1) := by decide +kernel
theorem dX_resume_156 : decode cX_resume 156 = .ok (.invokevirtual 130, 3) := by decide +kernel
theorem dX_resume_159 : decode cX_resume 159 = .ok (.invokevirtual 112, 3) := by decide +kernel
theorem dX_resume_162 : decode cX_resume 162 = .ok (.lreturn, 1) := by decide +kernel
theorem dX_resume_163 : decode cX_resume 163 = .ok (.iconst 0, 1) := by decide +kernel
theorem dX_resume_164 : decode cX_resume 164 = .ok (.iconst 1, 1) := by decide +kernel
theorem dX_resume_165 : decode cX_resume 165 = .ok (.iload_n 2, 1) := by decide +kernel
theorem dX_resume_166 : decode cX_resume 166 = .ok (.invokestatic 100, 3) := by decide +kernel
theorem dX_resume_169 : decode cX_resume 169 = .ok (.lreturn, 1) := by decide +kernel
theorem dX_isSelectedIn_0 : decode cX_isSelectedIn 0 = .ok (.aload_n 0, 1) := by decide +kernel
theorem dX_isSelectedIn_1 : decode cX_isSelectedIn 1 = .ok (.getfield 19, 3) := by decide +kernel
theorem dX_isSelectedIn_4 : decode cX_isSelectedIn 4 = .ok (.aload_n 0, 1) := by decide +kernel
theorem dX_isSelectedIn_5 : decode cX_isSelectedIn 5 = .ok (.getfield 15, 3) := by decide +kernel
theorem dX_isSelectedIn_8 : decode cX_isSelectedIn 8 = .ok (.iload_n 1, 1) := by decide +kernel
theorem dX_isSelectedIn_9 : decode cX_isSelectedIn 9 = .ok (.invokevirtual 97, 3) := by decide +kernel
theorem dX_isSelectedIn_12 : decode cX_isSelectedIn 12 = .ok (.iand, 1) := by decide +kernel
theorem dX_isSelectedIn_13 : decode cX_isSelectedIn 13 = .ok (.ifCond .eq 7, 3) := by decide +kernel
theorem dX_isSelectedIn_16 : decode cX_isSelectedIn 16 = .ok (.iconst 1, 1) := by decide +kernel
theorem dX_isSelectedIn_17 : decode cX_isSelectedIn 17 = .ok (.goto 4, 3) := by decide +kernel
theorem dX_isSelectedIn_20 : decode cX_isSelectedIn 20 = .ok (.iconst 0, 1) := by decide +kernel
theorem dX_isSelectedIn_21 : decode cX_isSelectedIn 21 = .ok (.ireturn, 1) := by decide +kernel
theorem dX_resumeSuspend_0 : decode cX_resumeSuspend 0 = .ok (.aload_n 0, 1) := by decide +kernel
theorem dX_resumeSuspend_1 : decode cX_resumeSuspend 1 = .ok (.aload_n 0, 1) := by decide +kernel
theorem dX_resumeSuspend_2 : decode cX_resumeSuspend 2 = .ok (.getfield 15, 3) := by decide +kernel
theorem dX_resumeSuspend_5 : decode cX_resumeSuspend 5 = .ok (.iload_n 1, 1) := by decide +kernel
theorem dX_resumeSuspend_6 : decode cX_resumeSuspend 6 = .ok (.invokevirtual 94, 3) := by decide +kernel
theorem dX_resumeSuspend_9 : decode cX_resumeSuspend 9 = .ok (.invokevirtual 120, 3) := by decide +kernel
theorem dX_resumeSuspend_12 : decode cX_resumeSuspend 12 = .ok (.lookupswitch 67 #[(0, 57), (1, 28)], 28) := by decide +kernel
theorem dX_resumeSuspend_40 : decode cX_resumeSuspend 40 = .ok (.aload_n 0, 1) := by decide +kernel
theorem dX_resumeSuspend_41 : decode cX_resumeSuspend 41 = .ok (.dup, 1) := by decide +kernel
theorem dX_resumeSuspend_42 : decode cX_resumeSuspend 42 = .ok (.getfield 39, 3) := by decide +kernel
theorem dX_resumeSuspend_45 : decode cX_resumeSuspend 45 = .ok (.aload_n 0, 1) := by decide +kernel
theorem dX_resumeSuspend_46 : decode cX_resumeSuspend 46 = .ok (.getfield 19, 3) := by decide +kernel
theorem dX_resumeSuspend_49 : decode cX_resumeSuspend 49 = .ok (.aload_n 0, 1) := by decide +kernel
theorem dX_resumeSuspend_50 : decode cX_resumeSuspend 50 = .ok (.getfield 15, 3) := by decide +kernel
theorem dX_resumeSuspend_53 : decode cX_resumeSuspend 53 = .ok (.iload_n 1, 1) := by decide +kernel
theorem dX_resumeSuspend_54 : decode cX_resumeSuspend 54 = .ok (.invokevirtual 97, 3) := by decide +kernel
theorem dX_resumeSuspend_57 : decode cX_resumeSuspend 57 = .ok (.iand, 1) := by decide +kernel
theorem dX_resumeSuspend_58 : decode cX_resumeSuspend 58 = .ok (.ior, 1) := by decide +kernel
theorem dX_resumeSuspend_59 : decode cX_resumeSuspend 59 = .ok (.putfield 39, 3) := by decide +kernel
theorem dX_resumeSuspend_62 : decode cX_resumeSuspend 62 = .ok (.iconst 0, 1) := by decide +kernel
theorem dX_resumeSuspend_63 : decode cX_resumeSuspend 63 = .ok (.iconst 2, 1) := by decide +kernel
theorem dX_resumeSuspend_64 : decode cX_resumeSuspend 64 = .ok (.iload_n 2, 1) := by decide +kernel
theorem dX_resumeSuspend_65 : decode cX_resumeSuspend 65 = .ok (.invokestatic 100, 3) := by decide +kernel
theorem dX_resumeSuspend_68 : decode cX_resumeSuspend 68 = .ok (.lreturn, 1) := by decide +kernel
theorem dX_resumeSuspend_69 : decode cX_resumeSuspend 69 = .ok (.aload_n 0, 1) := by decide +kernel
theorem dX_resumeSuspend_70 : decode cX_resumeSuspend 70 = .ok (.iload_n 1, 1) := by decide +kernel
theorem dX_resumeSuspend_71 : decode cX_resumeSuspend 71 = .ok (.iconst 1, 1) := by decide +kernel
theorem dX_resumeSuspend_72 : decode cX_resumeSuspend 72 = .ok (.iadd, 1) := by decide +kernel
theorem dX_resumeSuspend_73 : decode cX_resumeSuspend 73 = .ok (.iconst 0, 1) := by decide +kernel
theorem dX_resumeSuspend_74 : decode cX_resumeSuspend 74 = .ok (.iload_n 2, 1) := by decide +kernel
theorem dX_resumeSuspend_75 : decode cX_resumeSuspend 75 = .ok (.invokevirtual 42, 3) := by decide +kernel
theorem dX_resumeSuspend_78 : decode cX_resumeSuspend 78 = .ok (.lreturn, 1) := by decide +kernel
theorem dX_resumeSuspend_79 : decode cX_resumeSuspend 79 = .ok (.aload_n 0, 1) := by decide +kernel
theorem dX_resumeSuspend_80 : decode cX_resumeSuspend 80 = .ok (.iload_n 1, 1) := by decide +kernel
theorem dX_resumeSuspend_81 : decode cX_resumeSuspend 81 = .ok (.iconst 1, 1) := by decide +kernel
theorem dX_resumeSuspend_82 : decode cX_resumeSuspend 82 = .ok (.iadd, 1) := by decide +kernel
theorem dX_resumeSuspend_83 : decode cX_resumeSuspend 83 = .ok (.iconst 0, 1) := by decide +kernel
theorem dX_resumeSuspend_84 : decode cX_resumeSuspend 84 = .ok (.iconst 0, 1) := by decide +kernel
theorem dX_resumeSuspend_85 : decode cX_resumeSuspend 85 = .ok (.invokevirtual 42, 3) := by decide +kernel
theorem dX_resumeSuspend_88 : decode cX_resumeSuspend 88 = .ok (.iconst 0, 1) := by decide +kernel
theorem dX_resumeSuspend_89 : decode cX_resumeSuspend 89 = .ok (.iconst 2, 1) := by decide +kernel
theorem dX_resumeSuspend_90 : decode cX_resumeSuspend 90 = .ok (.iconst 0, 1) := by decide +kernel
theorem dX_resumeSuspend_91 : decode cX_resumeSuspend 91 = .ok (.invokestatic 100, 3) := by decide +kernel
theorem dX_resumeSuspend_94 : decode cX_resumeSuspend 94 = .ok (.lor, 1) := by decide +kernel
theorem dX_resumeSuspend_95 : decode cX_resumeSuspend 95 = .ok (.lreturn, 1) := by decide +kernel
theorem dX_tested_0 : decode cX_tested 0 = .ok (.iload_n 1, 1) := by decide +kernel
theorem dX_tested_1 : decode cX_tested 1 = .ok (.ifCond .ge 9, 3) := by decide +kernel
theorem dX_tested_4 : decode cX_tested 4 = .ok (.iconst (-1), 1) := by decide +kernel
theorem dX_tested_5 : decode cX_tested 5 = .ok (.iload_n 1, 1) := by decide +kernel
theorem dX_tested_6 : decode cX_tested 6 = .ok (.isub, 1) := by decide +kernel
theorem dX_tested_7 : decode cX_tested 7 = .ok (.goto 4, 3) := by decide +kernel
theorem dX_tested_10 : decode cX_tested 10 = .ok (.iload_n 1, 1) := by decide +kernel
theorem dX_tested_11 : decode cX_tested 11 = .ok (.istore_n 2, 1) := by decide +kernel
theorem dX_tested_12 : decode cX_tested 12 = .ok (.aload_n 0, 1) := by decide +kernel
theorem dX_tested_13 : decode cX_tested 13 = .ok (.getfield 30, 3) := by decide +kernel
theorem dX_tested_16 : decode cX_tested 16 = .ok (.aload_n 0, 1) := by decide +kernel
theorem dX_tested_17 : decode cX_tested 17 = .ok (.getfield 33, 3) := by decide +kernel
theorem dX_tested_20 : decode cX_tested 20 = .ok (.iload_n 2, 1) := by decide +kernel
theorem dX_tested_21 : decode cX_tested 21 = .ok (.invokestatic 175, 3) := by decide +kernel
theorem dX_tested_24 : decode cX_tested 24 = .ok (.istore_n 3, 1) := by decide +kernel
theorem dX_tested_25 : decode cX_tested 25 = .ok (.iload_n 3, 1) := by decide +kernel
theorem dX_tested_26 : decode cX_tested 26 = .ok (.iconst 2, 1) := by decide +kernel
theorem dX_tested_27 : decode cX_tested 27 = .ok (.if_icmp .eq 7, 3) := by decide +kernel
theorem dX_tested_30 : decode cX_tested 30 = .ok (.iload_n 1, 1) := by decide +kernel
theorem dX_tested_31 : decode cX_tested 31 = .ok (.ifCond .lt 5, 3) := by decide +kernel
theorem dX_tested_34 : decode cX_tested 34 = .ok (.iload_n 3, 1) := by decide +kernel
theorem dX_tested_35 : decode cX_tested 35 = .ok (.ireturn, 1) := by decide +kernel
theorem dX_tested_36 : decode cX_tested 36 = .ok (.iload_n 3, 1) := by decide +kernel
theorem dX_tested_37 : decode cX_tested 37 = .ok (.iconst 1, 1) := by decide +kernel
theorem dX_tested_38 : decode cX_tested 38 = .ok (.if_icmp .ne 7, 3) := by decide +kernel
theorem dX_tested_41 : decode cX_tested 41 = .ok (.iconst 0, 1) := by decide +kernel
theorem dX_tested_42 : decode cX_tested 42 = .ok (.goto 4, 3) := by decide +kernel
theorem dX_tested_45 : decode cX_tested 45 = .ok (.iconst 1, 1) := by decide +kernel
theorem dX_tested_46 : decode cX_tested 46 = .ok (.ireturn, 1) := by decide +kernel
theorem dK_statusIn_0 : decode cK_statusIn 0 = .ok (.iload_n 0, 1) := by decide +kernel
theorem dK_statusIn_1 : decode cK_statusIn 1 = .ok (.iload_n 2, 1) := by decide +kernel
theorem dK_statusIn_2 : decode cK_statusIn 2 = .ok (.invokestatic 119, 3) := by decide +kernel
theorem dK_statusIn_5 : decode cK_statusIn 5 = .ok (.ifCond .ne 5, 3) := by decide +kernel
theorem dK_statusIn_8 : decode cK_statusIn 8 = .ok (.iconst 2, 1) := by decide +kernel
theorem dK_statusIn_9 : decode cK_statusIn 9 = .ok (.ireturn, 1) := by decide +kernel
theorem dK_statusIn_10 : decode cK_statusIn 10 = .ok (.iload_n 1, 1) := by decide +kernel
theorem dK_statusIn_11 : decode cK_statusIn 11 = .ok (.iload_n 2, 1) := by decide +kernel
theorem dK_statusIn_12 : decode cK_statusIn 12 = .ok (.invokestatic 119, 3) := by decide +kernel
theorem dK_statusIn_15 : decode cK_statusIn 15 = .ok (.ifCond .eq 7, 3) := by decide +kernel
theorem dK_statusIn_18 : decode cK_statusIn 18 = .ok (.iconst 1, 1) := by decide +kernel
theorem dK_statusIn_19 : decode cK_statusIn 19 = .ok (.goto 4, 3) := by decide +kernel
theorem dK_statusIn_22 : decode cK_statusIn 22 = .ok (.iconst 0, 1) := by decide +kernel
theorem dK_statusIn_23 : decode cK_statusIn 23 = .ok (.ireturn, 1) := by decide +kernel
theorem dO_of_0 : decode cO_of 0 = .ok (.iload_n 0, 1) := by decide +kernel
theorem dO_of_1 : decode cO_of 1 = .ok (.iload_n 1, 1) := by decide +kernel
theorem dO_of_2 : decode cO_of 2 = .ok (.invokestatic 11, 3) := by decide +kernel
theorem dO_of_5 : decode cO_of 5 = .ok (.istore_n 3, 1) := by decide +kernel
theorem dO_of_6 : decode cO_of 6 = .ok (.iload_n 2, 1) := by decide +kernel
theorem dO_of_7 : decode cO_of 7 = .ok (.ifCond .eq 7, 3) := by decide +kernel
theorem dO_of_10 : decode cO_of 10 = .ok (.iload_n 3, 1) := by decide +kernel
theorem dO_of_11 : decode cO_of 11 = .ok (.goto 4, 3) := by decide +kernel
theorem dO_of_14 : decode cO_of 14 = .ok (.iconst 0, 1) := by decide +kernel
theorem dO_of_15 : decode cO_of 15 = .ok (.iload_n 3, 1) := by decide +kernel
theorem dO_of_16 : decode cO_of 16 = .ok (.invokestatic 15, 3) := by decide +kernel
theorem dO_of_19 : decode cO_of 19 = .ok (.lreturn, 1) := by decide +kernel
theorem dX_andThen_0 : decode cX_andThen 0 = .ok (.lload_n 1, 1) := by decide +kernel
theorem dX_andThen_1 : decode cX_andThen 1 = .ok (.invokestatic 136, 3) := by decide +kernel
theorem dX_andThen_4 : decode cX_andThen 4 = .ok (.ifCond .ne 5, 3) := by decide +kernel
theorem dX_andThen_7 : decode cX_andThen 7 = .ok (.lload_n 1, 1) := by decide +kernel
theorem dX_andThen_8 : decode cX_andThen 8 = .ok (.lreturn, 1) := by decide +kernel
theorem dX_andThen_9 : decode cX_andThen 9 = .ok (.lload_n 1, 1) := by decide +kernel
theorem dX_andThen_10 : decode cX_andThen 10 = .ok (.invokestatic 140, 3) := by decide +kernel
theorem dX_andThen_13 : decode cX_andThen 13 = .ok (.aload_n 0, 1) := by decide +kernel
theorem dX_andThen_14 : decode cX_andThen 14 = .ok (.iload_n 3, 1) := by decide +kernel
theorem dX_andThen_15 : decode cX_andThen 15 = .ok (.iload 4, 2) := by decide +kernel
theorem dX_andThen_17 : decode cX_andThen 17 = .ok (.lload_n 1, 1) := by decide +kernel
theorem dX_andThen_18 : decode cX_andThen 18 = .ok (.invokestatic 144, 3) := by decide +kernel
theorem dX_andThen_21 : decode cX_andThen 21 = .ok (.invokevirtual 42, 3) := by decide +kernel
theorem dX_andThen_24 : decode cX_andThen 24 = .ok (.lor, 1) := by decide +kernel
theorem dX_andThen_25 : decode cX_andThen 25 = .ok (.lreturn, 1) := by decide +kernel
theorem dO_canEndWithZero_0 : decode cO_canEndWithZero 0 = .ok (.lload_n 0, 1) := by decide +kernel
theorem dO_canEndWithZero_1 : decode cO_canEndWithZero 1 = .ok (.ldc2_w 20, 3) := by decide +kernel
theorem dO_canEndWithZero_4 : decode cO_canEndWithZero 4 = .ok (.land, 1) := by decide +kernel
theorem dO_canEndWithZero_5 : decode cO_canEndWithZero 5 = .ok (.lconst 0, 1) := by decide +kernel
theorem dO_canEndWithZero_6 : decode cO_canEndWithZero 6 = .ok (.lcmp, 1) := by decide +kernel
theorem dO_canEndWithZero_7 : decode cO_canEndWithZero 7 = .ok (.ifCond .eq 7, 3) := by decide +kernel
theorem dO_canEndWithZero_10 : decode cO_canEndWithZero 10 = .ok (.iconst 1, 1) := by decide +kernel
theorem dO_canEndWithZero_11 : decode cO_canEndWithZero 11 = .ok (.goto 4, 3) := by decide +kernel
theorem dO_canEndWithZero_14 : decode cO_canEndWithZero 14 = .ok (.iconst 0, 1) := by decide +kernel
theorem dO_canEndWithZero_15 : decode cO_canEndWithZero 15 = .ok (.ireturn, 1) := by decide +kernel
theorem dO_withoutZero_0 : decode cO_withoutZero 0 = .ok (.lload_n 0, 1) := by decide +kernel
theorem dO_withoutZero_1 : decode cO_withoutZero 1 = .ok (.ldc2_w 24, 3) := by decide +kernel
theorem dO_withoutZero_4 : decode cO_withoutZero 4 = .ok (.land, 1) := by decide +kernel
theorem dO_withoutZero_5 : decode cO_withoutZero 5 = .ok (.lreturn, 1) := by decide +kernel
theorem dO_mustEndWithZero_0 : decode cO_mustEndWithZero 0 = .ok (.lload_n 0, 1) := by decide +kernel
theorem dO_mustEndWithZero_1 : decode cO_mustEndWithZero 1 = .ok (.ldc2_w 22, 3) := by decide +kernel
theorem dO_mustEndWithZero_4 : decode cO_mustEndWithZero 4 = .ok (.land, 1) := by decide +kernel
theorem dO_mustEndWithZero_5 : decode cO_mustEndWithZero 5 = .ok (.lconst 0, 1) := by decide +kernel
theorem dO_mustEndWithZero_6 : decode cO_mustEndWithZero 6 = .ok (.lcmp, 1) := by decide +kernel
theorem dO_mustEndWithZero_7 : decode cO_mustEndWithZero 7 = .ok (.ifCond .eq 7, 3) := by decide +kernel
theorem dO_mustEndWithZero_10 : decode cO_mustEndWithZero 10 = .ok (.iconst 1, 1) := by decide +kernel
theorem dO_mustEndWithZero_11 : decode cO_mustEndWithZero 11 = .ok (.goto 4, 3) := by decide +kernel
theorem dO_mustEndWithZero_14 : decode cO_mustEndWithZero 14 = .ok (.iconst 0, 1) := by decide +kernel
theorem dO_mustEndWithZero_15 : decode cO_mustEndWithZero 15 = .ok (.ireturn, 1) := by decide +kernel
theorem dX_resumeBranch_0 : decode cX_resumeBranch 0 = .ok (.aload_n 0, 1) := by decide +kernel
theorem dX_resumeBranch_1 : decode cX_resumeBranch 1 = .ok (.iload_n 1, 1) := by decide +kernel
theorem dX_resumeBranch_2 : decode cX_resumeBranch 2 = .ok (.invokevirtual 123, 3) := by decide +kernel
theorem dX_resumeBranch_5 : decode cX_resumeBranch 5 = .ok (.ifCond .eq 13, 3) := by decide +kernel
theorem dX_resumeBranch_8 : decode cX_resumeBranch 8 = .ok (.aload_n 0, 1) := by decide +kernel
theorem dX_resumeBranch_9 : decode cX_resumeBranch 9 = .ok (.iload_n 1, 1) := by decide +kernel
theorem dX_resumeBranch_10 : decode cX_resumeBranch 10 = .ok (.iconst 0, 1) := by decide +kernel
theorem dX_resumeBranch_11 : decode cX_resumeBranch 11 = .ok (.iload_n 2, 1) := by decide +kernel
theorem dX_resumeBranch_12 : decode cX_resumeBranch 12 = .ok (.invokevirtual 42, 3) := by decide +kernel
theorem dX_resumeBranch_15 : decode cX_resumeBranch 15 = .ok (.goto 9, 3) := by decide +kernel
theorem dX_resumeBranch_18 : decode cX_resumeBranch 18 = .ok (.iconst 0, 1) := by decide +kernel
theorem dX_resumeBranch_19 : decode cX_resumeBranch 19 = .ok (.iconst 1, 1) := by decide +kernel
theorem dX_resumeBranch_20 : decode cX_resumeBranch 20 = .ok (.iload_n 2, 1) := by decide +kernel
theorem dX_resumeBranch_21 : decode cX_resumeBranch 21 = .ok (.invokestatic 100, 3) := by decide +kernel
theorem dX_resumeBranch_24 : decode cX_resumeBranch 24 = .ok (.lreturn, 1) := by decide +kernel
theorem dO_inParallel_0 : decode cO_inParallel 0 = .ok (.lload_n 0, 1) := by decide +kernel
theorem dO_inParallel_1 : decode cO_inParallel 1 = .ok (.invokestatic 28, 3) := by decide +kernel
theorem dO_inParallel_4 : decode cO_inParallel 4 = .ok (.lload_n 2, 1) := by decide +kernel
theorem dO_inParallel_5 : decode cO_inParallel 5 = .ok (.invokestatic 28, 3) := by decide +kernel
theorem dO_inParallel_8 : decode cO_inParallel 8 = .ok (.invokestatic 32, 3) := by decide +kernel
theorem dO_inParallel_11 : decode cO_inParallel 11 = .ok (.lload_n 0, 1) := by decide +kernel
theorem dO_inParallel_12 : decode cO_inParallel 12 = .ok (.invokestatic 35, 3) := by decide +kernel
theorem dO_inParallel_15 : decode cO_inParallel 15 = .ok (.lload_n 2, 1) := by decide +kernel
theorem dO_inParallel_16 : decode cO_inParallel 16 = .ok (.invokestatic 35, 3) := by decide +kernel
theorem dO_inParallel_19 : decode cO_inParallel 19 = .ok (.invokestatic 32, 3) := by decide +kernel
theorem dO_inParallel_22 : decode cO_inParallel 22 = .ok (.invokestatic 15, 3) := by decide +kernel
theorem dO_inParallel_25 : decode cO_inParallel 25 = .ok (.lreturn, 1) := by decide +kernel
theorem dO_joined_0 : decode cO_joined 0 = .ok (.iload_n 0, 1) := by decide +kernel
theorem dO_joined_1 : decode cO_joined 1 = .ok (.iload_n 1, 1) := by decide +kernel
theorem dO_joined_2 : decode cO_joined 2 = .ok (.ior, 1) := by decide +kernel
theorem dO_joined_3 : decode cO_joined 3 = .ok (.invokestatic 42, 3) := by decide +kernel
theorem dO_joined_6 : decode cO_joined 6 = .ok (.iload_n 0, 1) := by decide +kernel
theorem dO_joined_7 : decode cO_joined 7 = .ok (.invokestatic 45, 3) := by decide +kernel
theorem dO_joined_10 : decode cO_joined 10 = .ok (.iload_n 1, 1) := by decide +kernel
theorem dO_joined_11 : decode cO_joined 11 = .ok (.invokestatic 45, 3) := by decide +kernel
theorem dO_joined_14 : decode cO_joined 14 = .ok (.invokestatic 48, 3) := by decide +kernel
theorem dO_joined_17 : decode cO_joined 17 = .ok (.invokestatic 11, 3) := by decide +kernel
theorem dO_joined_20 : decode cO_joined 20 = .ok (.ireturn, 1) := by decide +kernel
theorem dX_begin_0 : decode cX_begin 0 = .ok (.aload_n 0, 1) := by decide +kernel
theorem dX_begin_1 : decode cX_begin 1 = .ok (.getfield 15, 3) := by decide +kernel
theorem dX_begin_4 : decode cX_begin 4 = .ok (.iload_n 1, 1) := by decide +kernel
theorem dX_begin_5 : decode cX_begin 5 = .ok (.invokevirtual 94, 3) := by decide +kernel
theorem dX_begin_8 : decode cX_begin 8 = .ok (.istore 4, 2) := by decide +kernel
theorem dX_begin_10 : decode cX_begin 10 = .ok (.aload_n 0, 1) := by decide +kernel
theorem dX_begin_11 : decode cX_begin 11 = .ok (.getfield 15, 3) := by decide +kernel
theorem dX_begin_14 : decode cX_begin 14 = .ok (.iload_n 1, 1) := by decide +kernel
theorem dX_begin_15 : decode cX_begin 15 = .ok (.invokevirtual 78, 3) := by decide +kernel
theorem dX_begin_18 : decode cX_begin 18 = .ok (.tableswitch 159 1 8 #[46, 70, 80, 91, 99, 109, 132, 99], 46) := by decide +kernel
theorem dX_begin_64 : decode cX_begin 64 = .ok (.aload_n 0, 1) := by decide +kernel
theorem dX_begin_65 : decode cX_begin 65 = .ok (.dup, 1) := by decide +kernel
theorem dX_begin_66 : decode cX_begin 66 = .ok (.getfield 39, 3) := by decide +kernel
theorem dX_begin_69 : decode cX_begin 69 = .ok (.aload_n 0, 1) := by decide +kernel
theorem dX_begin_70 : decode cX_begin 70 = .ok (.getfield 15, 3) := by decide +kernel
theorem dX_begin_73 : decode cX_begin 73 = .ok (.iload_n 1, 1) := by decide +kernel
theorem dX_begin_74 : decode cX_begin 74 = .ok (.invokevirtual 97, 3) := by decide +kernel
theorem dX_begin_77 : decode cX_begin 77 = .ok (.ior, 1) := by decide +kernel
theorem dX_begin_78 : decode cX_begin 78 = .ok (.putfield 39, 3) := by decide +kernel
theorem dX_begin_81 : decode cX_begin 81 = .ok (.iconst 0, 1) := by decide +kernel
theorem dX_begin_82 : decode cX_begin 82 = .ok (.iconst 2, 1) := by decide +kernel
theorem dX_begin_83 : decode cX_begin 83 = .ok (.iload_n 3, 1) := by decide +kernel
theorem dX_begin_84 : decode cX_begin 84 = .ok (.invokestatic 100, 3) := by decide +kernel
theorem dX_begin_87 : decode cX_begin 87 = .ok (.lreturn, 1) := by decide +kernel
theorem dX_begin_88 : decode cX_begin 88 = .ok (.iconst 1, 1) := by decide +kernel
theorem dX_begin_89 : decode cX_begin 89 = .ok (.iload 4, 2) := by decide +kernel
theorem dX_begin_91 : decode cX_begin 91 = .ok (.ishl, 1) := by decide +kernel
theorem dX_begin_92 : decode cX_begin 92 = .ok (.iconst 1, 1) := by decide +kernel
theorem dX_begin_93 : decode cX_begin 93 = .ok (.iload_n 3, 1) := by decide +kernel
theorem dX_begin_94 : decode cX_begin 94 = .ok (.invokestatic 100, 3) := by decide +kernel
theorem dX_begin_97 : decode cX_begin 97 = .ok (.lreturn, 1) := by decide +kernel
theorem dX_begin_98 : decode cX_begin 98 = .ok (.iconst 0, 1) := by decide +kernel
theorem dX_begin_99 : decode cX_begin 99 = .ok (.iload 4, 2) := by decide +kernel
theorem dX_begin_101 : decode cX_begin 101 = .ok (.invokestatic 103, 3) := by decide +kernel
theorem dX_begin_104 : decode cX_begin 104 = .ok (.iload_n 3, 1) := by decide +kernel
theorem dX_begin_105 : decode cX_begin 105 = .ok (.invokestatic 100, 3) := by decide +kernel
theorem dX_begin_108 : decode cX_begin 108 = .ok (.lreturn, 1) := by decide +kernel
theorem dX_begin_109 : decode cX_begin 109 = .ok (.aload_n 0, 1) := by decide +kernel
theorem dX_begin_110 : decode cX_begin 110 = .ok (.iload_n 1, 1) := by decide +kernel
theorem dX_begin_111 : decode cX_begin 111 = .ok (.iload_n 2, 1) := by decide +kernel
theorem dX_begin_112 : decode cX_begin 112 = .ok (.iload_n 3, 1) := by decide +kernel
theorem dX_begin_113 : decode cX_begin 113 = .ok (.invokevirtual 106, 3) := by decide +kernel
theorem dX_begin_116 : decode cX_begin 116 = .ok (.lreturn, 1) := by decide +kernel
theorem dX_begin_117 : decode cX_begin 117 = .ok (.aload_n 0, 1) := by decide +kernel
theorem dX_begin_118 : decode cX_begin 118 = .ok (.iload_n 1, 1) := by decide +kernel
theorem dX_begin_119 : decode cX_begin 119 = .ok (.iconst 1, 1) := by decide +kernel
theorem dX_begin_120 : decode cX_begin 120 = .ok (.iadd, 1) := by decide +kernel
theorem dX_begin_121 : decode cX_begin 121 = .ok (.iload_n 2, 1) := by decide +kernel
theorem dX_begin_122 : decode cX_begin 122 = .ok (.iload_n 3, 1) := by decide +kernel
theorem dX_begin_123 : decode cX_begin 123 = .ok (.invokevirtual 42, 3) := by decide +kernel
theorem dX_begin_126 : decode cX_begin 126 = .ok (.lreturn, 1) := by decide +kernel
theorem dX_begin_127 : decode cX_begin 127 = .ok (.aload_n 0, 1) := by decide +kernel
theorem dX_begin_128 : decode cX_begin 128 = .ok (.aload_n 0, 1) := by decide +kernel
theorem dX_begin_129 : decode cX_begin 129 = .ok (.iload_n 1, 1) := by decide +kernel
theorem dX_begin_130 : decode cX_begin 130 = .ok (.iconst 1, 1) := by decide +kernel
theorem dX_begin_131 : decode cX_begin 131 = .ok (.iadd, 1) := by decide +kernel
theorem dX_begin_132 : decode cX_begin 132 = .ok (.iload_n 2, 1) := by decide +kernel
theorem dX_begin_133 : decode cX_begin 133 = .ok (.iload_n 3, 1) := by decide +kernel
theorem dX_begin_134 : decode cX_begin 134 = .ok (.invokevirtual 42, 3) := by decide +kernel
theorem dX_begin_137 : decode cX_begin 137 = .ok (.aload_n 0, 1) := by decide +kernel
theorem dX_begin_138 : decode cX_begin 138 = .ok (.getfield 15, 3) := by decide +kernel
theorem dX_begin_141 : decode cX_begin 141 = .ok (.iload_n 1, 1) := by decide +kernel
theorem dX_begin_142 : decode cX_begin 142 = .ok (.invokevirtual 109, 3) := by decide +kernel
theorem dX_begin_145 : decode cX_begin 145 = .ok (.iload_n 2, 1) := by decide +kernel
theorem dX_begin_146 : decode cX_begin 146 = .ok (.invokevirtual 112, 3) := by decide +kernel
theorem dX_begin_149 : decode cX_begin 149 = .ok (.lreturn, 1) := by decide +kernel
theorem dX_begin_150 : decode cX_begin 150 = .ok (.aload_n 0, 1) := by decide +kernel
theorem dX_begin_151 : decode cX_begin 151 = .ok (.iload_n 1, 1) := by decide +kernel
theorem dX_begin_152 : decode cX_begin 152 = .ok (.iconst 1, 1) := by decide +kernel
theorem dX_begin_153 : decode cX_begin 153 = .ok (.iadd, 1) := by decide +kernel
theorem dX_begin_154 : decode cX_begin 154 = .ok (.iload_n 2, 1) := by decide +kernel
theorem dX_begin_155 : decode cX_begin 155 = .ok (.iload_n 3, 1) := by decide +kernel
theorem dX_begin_156 : decode cX_begin 156 = .ok (.invokevirtual 42, 3) := by decide +kernel
theorem dX_begin_159 : decode cX_begin 159 = .ok (.aload_n 0, 1) := by decide +kernel
theorem dX_begin_160 : decode cX_begin 160 = .ok (.aload_n 0, 1) := by decide +kernel
theorem dX_begin_161 : decode cX_begin 161 = .ok (.getfield 15, 3) := by decide +kernel
theorem dX_begin_164 : decode cX_begin 164 = .ok (.iload_n 1, 1) := by decide +kernel
theorem dX_begin_165 : decode cX_begin 165 = .ok (.invokevirtual 109, 3) := by decide +kernel
theorem dX_begin_168 : decode cX_begin 168 = .ok (.iload_n 2, 1) := by decide +kernel
theorem dX_begin_169 : decode cX_begin 169 = .ok (.iload_n 3, 1) := by decide +kernel
theorem dX_begin_170 : decode cX_begin 170 = .ok (.invokevirtual 42, 3) := by decide +kernel
theorem dX_begin_173 : decode cX_begin 173 = .ok (.invokestatic 116, 3) := by decide +kernel
theorem dX_begin_176 : decode cX_begin 176 = .ok (.lreturn, 1) := by decide +kernel
theorem dX_begin_177 : decode cX_begin 177 = .ok (.iconst 0, 1) := by decide +kernel
theorem dX_begin_178 : decode cX_begin 178 = .ok (.iconst 1, 1) := by decide +kernel
theorem dX_begin_179 : decode cX_begin 179 = .ok (.iload_n 3, 1) := by decide +kernel
theorem dX_begin_180 : decode cX_begin 180 = .ok (.invokestatic 100, 3) := by decide +kernel
theorem dX_begin_183 : decode cX_begin 183 = .ok (.lreturn, 1) := by decide +kernel
theorem dX_beginPresent_0 : decode cX_beginPresent 0 = .ok (.iload_n 1, 1) := by decide +kernel
theorem dX_beginPresent_1 : decode cX_beginPresent 1 = .ok (.iconst 1, 1) := by decide +kernel
theorem dX_beginPresent_2 : decode cX_beginPresent 2 = .ok (.iadd, 1) := by decide +kernel
theorem dX_beginPresent_3 : decode cX_beginPresent 3 = .ok (.istore 4, 2) := by decide +kernel
theorem dX_beginPresent_5 : decode cX_beginPresent 5 = .ok (.aload_n 0, 1) := by decide +kernel
theorem dX_beginPresent_6 : decode cX_beginPresent 6 = .ok (.getfield 15, 3) := by decide +kernel
theorem dX_beginPresent_9 : decode cX_beginPresent 9 = .ok (.iload_n 1, 1) := by decide +kernel
theorem dX_beginPresent_10 : decode cX_beginPresent 10 = .ok (.invokevirtual 109, 3) := by decide +kernel
theorem dX_beginPresent_13 : decode cX_beginPresent 13 = .ok (.istore 5, 2) := by decide +kernel
theorem dX_beginPresent_15 : decode cX_beginPresent 15 = .ok (.aload_n 0, 1) := by decide +kernel
theorem dX_beginPresent_16 : decode cX_beginPresent 16 = .ok (.aload_n 0, 1) := by decide +kernel
theorem dX_beginPresent_17 : decode cX_beginPresent 17 = .ok (.getfield 15, 3) := by decide +kernel
theorem dX_beginPresent_20 : decode cX_beginPresent 20 = .ok (.iload_n 1, 1) := by decide +kernel
theorem dX_beginPresent_21 : decode cX_beginPresent 21 = .ok (.invokevirtual 94, 3) := by decide +kernel
theorem dX_beginPresent_24 : decode cX_beginPresent 24 = .ok (.invokevirtual 120, 3) := by decide +kernel
theorem dX_beginPresent_27 : decode cX_beginPresent 27 = .ok (.lookupswitch 43 #[(0, 34), (1, 25)], 25) := by decide +kernel
theorem dX_beginPresent_52 : decode cX_beginPresent 52 = .ok (.aload_n 0, 1) := by decide +kernel
theorem dX_beginPresent_53 : decode cX_beginPresent 53 = .ok (.iload 4, 2) := by decide +kernel
theorem dX_beginPresent_55 : decode cX_beginPresent 55 = .ok (.iload_n 2, 1) := by decide +kernel
theorem dX_beginPresent_56 : decode cX_beginPresent 56 = .ok (.iload_n 3, 1) := by decide +kernel
theorem dX_beginPresent_57 : decode cX_beginPresent 57 = .ok (.invokevirtual 42, 3) := by decide +kernel
theorem dX_beginPresent_60 : decode cX_beginPresent 60 = .ok (.lreturn, 1) := by decide +kernel
theorem dX_beginPresent_61 : decode cX_beginPresent 61 = .ok (.aload_n 0, 1) := by decide +kernel
theorem dX_beginPresent_62 : decode cX_beginPresent 62 = .ok (.iload 5, 2) := by decide +kernel
theorem dX_beginPresent_64 : decode cX_beginPresent 64 = .ok (.iload_n 2, 1) := by decide +kernel
theorem dX_beginPresent_65 : decode cX_beginPresent 65 = .ok (.iload_n 3, 1) := by decide +kernel
theorem dX_beginPresent_66 : decode cX_beginPresent 66 = .ok (.invokevirtual 42, 3) := by decide +kernel
theorem dX_beginPresent_69 : decode cX_beginPresent 69 = .ok (.lreturn, 1) := by decide +kernel
theorem dX_beginPresent_70 : decode cX_beginPresent 70 = .ok (.aload_n 0, 1) := by decide +kernel
theorem dX_beginPresent_71 : decode cX_beginPresent 71 = .ok (.iload 4, 2) := by decide +kernel
theorem dX_beginPresent_73 : decode cX_beginPresent 73 = .ok (.iload_n 2, 1) := by decide +kernel
theorem dX_beginPresent_74 : decode cX_beginPresent 74 = .ok (.iconst 0, 1) := by decide +kernel
theorem dX_beginPresent_75 : decode cX_beginPresent 75 = .ok (.invokevirtual 42, 3) := by decide +kernel
theorem dX_beginPresent_78 : decode cX_beginPresent 78 = .ok (.aload_n 0, 1) := by decide +kernel
theorem dX_beginPresent_79 : decode cX_beginPresent 79 = .ok (.iload 5, 2) := by decide +kernel
theorem dX_beginPresent_81 : decode cX_beginPresent 81 = .ok (.iload_n 2, 1) := by decide +kernel
theorem dX_beginPresent_82 : decode cX_beginPresent 82 = .ok (.iconst 0, 1) := by decide +kernel
theorem dX_beginPresent_83 : decode cX_beginPresent 83 = .ok (.invokevirtual 42, 3) := by decide +kernel
theorem dX_beginPresent_86 : decode cX_beginPresent 86 = .ok (.lor, 1) := by decide +kernel
theorem dX_beginPresent_87 : decode cX_beginPresent 87 = .ok (.lreturn, 1) := by decide +kernel
theorem dX_learnSignals_0 : decode cX_learnSignals 0 = .ok (.aload_n 0, 1) := by decide +kernel
theorem dX_learnSignals_1 : decode cX_learnSignals 1 = .ok (.getfield 46, 3) := by decide +kernel
theorem dX_learnSignals_4 : decode cX_learnSignals 4 = .ok (.invokestatic 64, 3) := by decide +kernel
theorem dX_learnSignals_7 : decode cX_learnSignals 7 = .ok (.ldc 74, 2) := by decide +kernel
theorem dX_learnSignals_9 : decode cX_learnSignals 9 = .ok (.iand, 1) := by decide +kernel
theorem dX_learnSignals_10 : decode cX_learnSignals 10 = .ok (.istore_n 1, 1) := by decide +kernel
theorem dX_learnSignals_11 : decode cX_learnSignals 11 = .ok (.aload_n 0, 1) := by decide +kernel
theorem dX_learnSignals_12 : decode cX_learnSignals 12 = .ok (.getfield 46, 3) := by decide +kernel
theorem dX_learnSignals_15 : decode cX_learnSignals 15 = .ok (.invokestatic 75, 3) := by decide +kernel
theorem dX_learnSignals_18 : decode cX_learnSignals 18 = .ok (.iconst (-1), 1) := by decide +kernel
theorem dX_learnSignals_19 : decode cX_learnSignals 19 = .ok (.ixor, 1) := by decide +kernel
theorem dX_learnSignals_20 : decode cX_learnSignals 20 = .ok (.ldc 74, 2) := by decide +kernel
theorem dX_learnSignals_22 : decode cX_learnSignals 22 = .ok (.iand, 1) := by decide +kernel
theorem dX_learnSignals_23 : decode cX_learnSignals 23 = .ok (.istore_n 2, 1) := by decide +kernel
theorem dX_learnSignals_24 : decode cX_learnSignals 24 = .ok (.aload_n 0, 1) := by decide +kernel
theorem dX_learnSignals_25 : decode cX_learnSignals 25 = .ok (.getfield 30, 3) := by decide +kernel
theorem dX_learnSignals_28 : decode cX_learnSignals 28 = .ok (.iload_n 1, 1) := by decide +kernel
theorem dX_learnSignals_29 : decode cX_learnSignals 29 = .ok (.ior, 1) := by decide +kernel
theorem dX_learnSignals_30 : decode cX_learnSignals 30 = .ok (.iload_n 2, 1) := by decide +kernel
theorem dX_learnSignals_31 : decode cX_learnSignals 31 = .ok (.ior, 1) := by decide +kernel
theorem dX_learnSignals_32 : decode cX_learnSignals 32 = .ok (.istore_n 3, 1) := by decide +kernel
theorem dX_learnSignals_33 : decode cX_learnSignals 33 = .ok (.iload_n 3, 1) := by decide +kernel
theorem dX_learnSignals_34 : decode cX_learnSignals 34 = .ok (.aload_n 0, 1) := by decide +kernel
theorem dX_learnSignals_35 : decode cX_learnSignals 35 = .ok (.getfield 30, 3) := by decide +kernel
theorem dX_learnSignals_38 : decode cX_learnSignals 38 = .ok (.if_icmp .eq 8, 3) := by decide +kernel
theorem dX_learnSignals_41 : decode cX_learnSignals 41 = .ok (.aload_n 0, 1) := by decide +kernel
theorem dX_learnSignals_42 : decode cX_learnSignals 42 = .ok (.iconst 1, 1) := by decide +kernel
theorem dX_learnSignals_43 : decode cX_learnSignals 43 = .ok (.putfield 36, 3) := by decide +kernel
theorem dX_learnSignals_46 : decode cX_learnSignals 46 = .ok (.aload_n 0, 1) := by decide +kernel
theorem dX_learnSignals_47 : decode cX_learnSignals 47 = .ok (.iload_n 3, 1) := by decide +kernel
theorem dX_learnSignals_48 : decode cX_learnSignals 48 = .ok (.putfield 30, 3) := by decide +kernel
theorem dX_learnSignals_51 : decode cX_learnSignals 51 = .ok (.aload_n 0, 1) := by decide +kernel
theorem dX_learnSignals_52 : decode cX_learnSignals 52 = .ok (.dup, 1) := by decide +kernel
theorem dX_learnSignals_53 : decode cX_learnSignals 53 = .ok (.getfield 33, 3) := by decide +kernel
theorem dX_learnSignals_56 : decode cX_learnSignals 56 = .ok (.iload_n 1, 1) := by decide +kernel
theorem dX_learnSignals_57 : decode cX_learnSignals 57 = .ok (.ior, 1) := by decide +kernel
theorem dX_learnSignals_58 : decode cX_learnSignals 58 = .ok (.putfield 33, 3) := by decide +kernel
theorem dX_learnSignals_61 : decode cX_learnSignals 61 = .ok (.return_, 1) := by decide +kernel
theorem dX_mustCodes_0 : decode cX_mustCodes 0 = .ok (.aload_n 0, 1) := by decide +kernel
theorem dX_mustCodes_1 : decode cX_mustCodes 1 = .ok (.getfield 46, 3) := by decide +kernel
theorem dX_mustCodes_4 : decode cX_mustCodes 4 = .ok (.invokestatic 64, 3) := by decide +kernel
theorem dX_mustCodes_7 : decode cX_mustCodes 7 = .ok (.invokestatic 70, 3) := by decide +kernel
theorem dX_mustCodes_10 : decode cX_mustCodes 10 = .ok (.ireturn, 1) := by decide +kernel
theorem dX_settle_0 : decode cX_settle 0 = .ok (.aload_n 0, 1) := by decide +kernel
theorem dX_settle_1 : decode cX_settle 1 = .ok (.iconst 1, 1) := by decide +kernel
theorem dX_settle_2 : decode cX_settle 2 = .ok (.putfield 23, 3) := by decide +kernel
theorem dX_settle_5 : decode cX_settle 5 = .ok (.aload_n 0, 1) := by decide +kernel
theorem dX_settle_6 : decode cX_settle 6 = .ok (.aload_n 0, 1) := by decide +kernel
theorem dX_settle_7 : decode cX_settle 7 = .ok (.getfield 39, 3) := by decide +kernel
theorem dX_settle_10 : decode cX_settle 10 = .ok (.putfield 19, 3) := by decide +kernel
theorem dX_settle_13 : decode cX_settle 13 = .ok (.return_, 1) := by decide +kernel
theorem dX_ends_0 : decode cX_ends 0 = .ok (.aload_n 0, 1) := by decide +kernel
theorem dX_ends_1 : decode cX_ends 1 = .ok (.invokevirtual 53, 3) := by decide +kernel
theorem dX_ends_4 : decode cX_ends 4 = .ok (.iconst 2, 1) := by decide +kernel
theorem dX_ends_5 : decode cX_ends 5 = .ok (.if_icmp .eq 7, 3) := by decide +kernel
theorem dX_ends_8 : decode cX_ends 8 = .ok (.iconst 1, 1) := by decide +kernel
theorem dX_ends_9 : decode cX_ends 9 = .ok (.goto 4, 3) := by decide +kernel
theorem dX_ends_12 : decode cX_ends 12 = .ok (.iconst 0, 1) := by decide +kernel
theorem dX_ends_13 : decode cX_ends 13 = .ok (.ireturn, 1) := by decide +kernel
theorem dL_status_0 : decode cL_status 0 = .ok (.aload_n 2, 1) := by decide +kernel
theorem dL_status_1 : decode cL_status 1 = .ok (.iconst 0, 1) := by decide +kernel
theorem dL_status_2 : decode cL_status 2 = .ok (.aload_n 0, 1) := by decide +kernel
theorem dL_status_3 : decode cL_status 3 = .ok (.iload_n 1, 1) := by decide +kernel
theorem dL_status_4 : decode cL_status 4 = .ok (.invokevirtual 25, 3) := by decide +kernel
theorem dL_status_7 : decode cL_status 7 = .ok (.i2l, 1) := by decide +kernel
theorem dL_status_8 : decode cL_status 8 = .ok (.lastore, 1) := by decide +kernel
theorem dL_status_9 : decode cL_status 9 = .ok (.goto 6, 3) := by decide +kernel
theorem dL_status_12 : decode cL_status 12 = .ok (.astore_n 3, 1) := by decide +kernel
theorem dL_status_13 : decode cL_status 13 = .ok (.iconst 1, 1) := by decide +kernel
theorem dL_status_14 : decode cL_status 14 = .ok (.ireturn, 1) := by decide +kernel
theorem dL_status_15 : decode cL_status 15 = .ok (.iconst 0, 1) := by decide +kernel
theorem dL_status_16 : decode cL_status 16 = .ok (.ireturn, 1) := by decide +kernel
theorem dK_status_0 : decode cK_status 0 = .ok (.iload_n 1, 1) := by decide +kernel
theorem dK_status_1 : decode cK_status 1 = .ok (.ifCond .lt 9, 3) := by decide +kernel
theorem dK_status_4 : decode cK_status 4 = .ok (.iload_n 1, 1) := by decide +kernel
theorem dK_status_5 : decode cK_status 5 = .ok (.bipush 16, 2) := by decide +kernel
theorem dK_status_7 : decode cK_status 7 = .ok (.if_icmp .lt 13, 3) := by decide +kernel
theorem dK_status_10 : decode cK_status 10 = .ok (.new 102, 3) := by decide +kernel
theorem dK_status_13 : decode cK_status 13 = .ok (.dup, 1) := by decide +kernel
theorem dK_status_14 : decode cK_status 14 = .ok (.ldc 104, 2) := by decide +kernel
theorem dK_status_16 : decode cK_status 16 = .ok (.invokespecial 106, 3) := by decide +kernel
theorem dK_status_19 : decode cK_status 19 = .ok (.athrow, 1) := by decide +kernel
theorem dK_status_20 : decode cK_status 20 = .ok (.aload_n 0, 1) := by decide +kernel
theorem dK_status_21 : decode cK_status 21 = .ok (.getfield 30, 3) := by decide +kernel
theorem dK_status_24 : decode cK_status 24 = .ok (.aload_n 0, 1) := by decide +kernel
theorem dK_status_25 : decode cK_status 25 = .ok (.getfield 90, 3) := by decide +kernel
theorem dK_status_28 : decode cK_status 28 = .ok (.iload_n 1, 1) := by decide +kernel
theorem dK_status_29 : decode cK_status 29 = .ok (.invokestatic 107, 3) := by decide +kernel
theorem dK_status_32 : decode cK_status 32 = .ok (.ireturn, 1) := by decide +kernel
theorem dL_selected_0 : decode cL_selected 0 = .ok (.aload_n 2, 1) := by decide +kernel
theorem dL_selected_1 : decode cL_selected 1 = .ok (.iconst 0, 1) := by decide +kernel
theorem dL_selected_2 : decode cL_selected 2 = .ok (.aload_n 0, 1) := by decide +kernel
theorem dL_selected_3 : decode cL_selected 3 = .ok (.iload_n 1, 1) := by decide +kernel
theorem dL_selected_4 : decode cL_selected 4 = .ok (.invokevirtual 30, 3) := by decide +kernel
theorem dL_selected_7 : decode cL_selected 7 = .ok (.ifCond .eq 7, 3) := by decide +kernel
theorem dL_selected_10 : decode cL_selected 10 = .ok (.lconst 1, 1) := by decide +kernel
theorem dL_selected_11 : decode cL_selected 11 = .ok (.goto 4, 3) := by decide +kernel
theorem dL_selected_14 : decode cL_selected 14 = .ok (.lconst 0, 1) := by decide +kernel
theorem dL_selected_15 : decode cL_selected 15 = .ok (.lastore, 1) := by decide +kernel
theorem dL_selected_16 : decode cL_selected 16 = .ok (.goto 6, 3) := by decide +kernel
theorem dL_selected_19 : decode cL_selected 19 = .ok (.astore_n 3, 1) := by decide +kernel
theorem dL_selected_20 : decode cL_selected 20 = .ok (.iconst 1, 1) := by decide +kernel
theorem dL_selected_21 : decode cL_selected 21 = .ok (.ireturn, 1) := by decide +kernel
theorem dL_selected_22 : decode cL_selected 22 = .ok (.iconst 0, 1) := by decide +kernel
theorem dL_selected_23 : decode cL_selected 23 = .ok (.ireturn, 1) := by decide +kernel
theorem dK_selected_0 : decode cK_selected 0 = .ok (.iload_n 1, 1) := by decide +kernel
theorem dK_selected_1 : decode cK_selected 1 = .ok (.ifCond .lt 14, 3) := by decide +kernel
theorem dK_selected_4 : decode cK_selected 4 = .ok (.iload_n 1, 1) := by decide +kernel
theorem dK_selected_5 : decode cK_selected 5 = .ok (.aload_n 0, 1) := by decide +kernel
theorem dK_selected_6 : decode cK_selected 6 = .ok (.getfield 10, 3) := by decide +kernel
theorem dK_selected_9 : decode cK_selected 9 = .ok (.getfield 111, 3) := by decide +kernel
theorem dK_selected_12 : decode cK_selected 12 = .ok (.if_icmp .lt 13, 3) := by decide +kernel
theorem dK_selected_15 : decode cK_selected 15 = .ok (.new 102, 3) := by decide +kernel
theorem dK_selected_18 : decode cK_selected 18 = .ok (.dup, 1) := by decide +kernel
theorem dK_selected_19 : decode cK_selected 19 = .ok (.ldc 114, 2) := by decide +kernel
theorem dK_selected_21 : decode cK_selected 21 = .ok (.invokespecial 106, 3) := by decide +kernel
theorem dK_selected_24 : decode cK_selected 24 = .ok (.athrow, 1) := by decide +kernel
theorem dK_selected_25 : decode cK_selected 25 = .ok (.aload_n 0, 1) := by decide +kernel
theorem dK_selected_26 : decode cK_selected 26 = .ok (.getfield 21, 3) := by decide +kernel
theorem dK_selected_29 : decode cK_selected 29 = .ok (.getfield 116, 3) := by decide +kernel
theorem dK_selected_32 : decode cK_selected 32 = .ok (.iload_n 1, 1) := by decide +kernel
theorem dK_selected_33 : decode cK_selected 33 = .ok (.invokestatic 119, 3) := by decide +kernel
theorem dK_selected_36 : decode cK_selected 36 = .ok (.ireturn, 1) := by decide +kernel
theorem dL_reacts_0 : decode cL_reacts 0 = .ok (.aload_n 1, 1) := by decide +kernel
theorem dL_reacts_1 : decode cL_reacts 1 = .ok (.iconst 0, 1) := by decide +kernel
theorem dL_reacts_2 : decode cL_reacts 2 = .ok (.aload_n 0, 1) := by decide +kernel
theorem dL_reacts_3 : decode cL_reacts 3 = .ok (.invokevirtual 34, 3) := by decide +kernel
theorem dL_reacts_6 : decode cL_reacts 6 = .ok (.i2l, 1) := by decide +kernel
theorem dL_reacts_7 : decode cL_reacts 7 = .ok (.lastore, 1) := by decide +kernel
theorem dL_reacts_8 : decode cL_reacts 8 = .ok (.goto 6, 3) := by decide +kernel
theorem dL_reacts_11 : decode cL_reacts 11 = .ok (.astore_n 2, 1) := by decide +kernel
theorem dL_reacts_12 : decode cL_reacts 12 = .ok (.iconst 1, 1) := by decide +kernel
theorem dL_reacts_13 : decode cL_reacts 13 = .ok (.ireturn, 1) := by decide +kernel
theorem dL_reacts_14 : decode cL_reacts 14 = .ok (.iconst 0, 1) := by decide +kernel
theorem dL_reacts_15 : decode cL_reacts 15 = .ok (.ireturn, 1) := by decide +kernel
theorem dK_reacts_0 : decode cK_reacts 0 = .ok (.aload_n 0, 1) := by decide +kernel
theorem dK_reacts_1 : decode cK_reacts 1 = .ok (.getfield 25, 3) := by decide +kernel
theorem dK_reacts_4 : decode cK_reacts 4 = .ok (.iconst 1, 1) := by decide +kernel
theorem dK_reacts_5 : decode cK_reacts 5 = .ok (.if_icmp .eq 13, 3) := by decide +kernel
theorem dK_reacts_8 : decode cK_reacts 8 = .ok (.new 37, 3) := by decide +kernel
theorem dK_reacts_11 : decode cK_reacts 11 = .ok (.dup, 1) := by decide +kernel
theorem dK_reacts_12 : decode cK_reacts 12 = .ok (.ldc 77, 2) := by decide +kernel
theorem dK_reacts_14 : decode cK_reacts 14 = .ok (.invokespecial 41, 3) := by decide +kernel
theorem dK_reacts_17 : decode cK_reacts 17 = .ok (.athrow, 1) := by decide +kernel
theorem dK_reacts_18 : decode cK_reacts 18 = .ok (.iconst 0, 1) := by decide +kernel
theorem dK_reacts_19 : decode cK_reacts 19 = .ok (.istore_n 1, 1) := by decide +kernel
theorem dK_reacts_20 : decode cK_reacts 20 = .ok (.iconst 0, 1) := by decide +kernel
theorem dK_reacts_21 : decode cK_reacts 21 = .ok (.istore_n 2, 1) := by decide +kernel
theorem dK_reacts_22 : decode cK_reacts 22 = .ok (.iload_n 2, 1) := by decide +kernel
theorem dK_reacts_23 : decode cK_reacts 23 = .ok (.bipush 16, 2) := by decide +kernel
theorem dK_reacts_25 : decode cK_reacts 25 = .ok (.if_icmp .ge 23, 3) := by decide +kernel
theorem dK_reacts_28 : decode cK_reacts 28 = .ok (.aload_n 0, 1) := by decide +kernel
theorem dK_reacts_29 : decode cK_reacts 29 = .ok (.getfield 21, 3) := by decide +kernel
theorem dK_reacts_32 : decode cK_reacts 32 = .ok (.iload_n 2, 1) := by decide +kernel
theorem dK_reacts_33 : decode cK_reacts 33 = .ok (.invokevirtual 81, 3) := by decide +kernel
theorem dK_reacts_36 : decode cK_reacts 36 = .ok (.ifCond .eq 6, 3) := by decide +kernel
theorem dK_reacts_39 : decode cK_reacts 39 = .ok (.iinc 1 1, 3) := by decide +kernel
theorem dK_reacts_42 : decode cK_reacts 42 = .ok (.iinc 2 1, 3) := by decide +kernel
theorem dK_reacts_45 : decode cK_reacts 45 = .ok (.goto (-23), 3) := by decide +kernel
theorem dK_reacts_48 : decode cK_reacts 48 = .ok (.iload_n 1, 1) := by decide +kernel
theorem dK_reacts_49 : decode cK_reacts 49 = .ok (.ireturn, 1) := by decide +kernel
theorem dL_emits_0 : decode cL_emits 0 = .ok (.aload_n 2, 1) := by decide +kernel
theorem dL_emits_1 : decode cL_emits 1 = .ok (.iconst 0, 1) := by decide +kernel
theorem dL_emits_2 : decode cL_emits 2 = .ok (.aload_n 0, 1) := by decide +kernel
theorem dL_emits_3 : decode cL_emits 3 = .ok (.iload_n 1, 1) := by decide +kernel
theorem dL_emits_4 : decode cL_emits 4 = .ok (.invokevirtual 37, 3) := by decide +kernel
theorem dL_emits_7 : decode cL_emits 7 = .ok (.i2l, 1) := by decide +kernel
theorem dL_emits_8 : decode cL_emits 8 = .ok (.lastore, 1) := by decide +kernel
theorem dL_emits_9 : decode cL_emits 9 = .ok (.goto 9, 3) := by decide +kernel
theorem dL_emits_12 : decode cL_emits 12 = .ok (.astore_n 3, 1) := by decide +kernel
theorem dL_emits_13 : decode cL_emits 13 = .ok (.iconst 1, 1) := by decide +kernel
theorem dL_emits_14 : decode cL_emits 14 = .ok (.ireturn, 1) := by decide +kernel
theorem dL_emits_15 : decode cL_emits 15 = .ok (.astore_n 3, 1) := by decide +kernel
theorem dL_emits_16 : decode cL_emits 16 = .ok (.iconst 2, 1) := by decide +kernel
theorem dL_emits_17 : decode cL_emits 17 = .ok (.ireturn, 1) := by decide +kernel
theorem dL_emits_18 : decode cL_emits 18 = .ok (.iconst 0, 1) := by decide +kernel
theorem dL_emits_19 : decode cL_emits 19 = .ok (.ireturn, 1) := by decide +kernel
theorem dK_emits_0 : decode cK_emits 0 = .ok (.aload_n 0, 1) := by decide +kernel
theorem dK_emits_1 : decode cK_emits 1 = .ok (.getfield 25, 3) := by decide +kernel
theorem dK_emits_4 : decode cK_emits 4 = .ok (.iconst 1, 1) := by decide +kernel
theorem dK_emits_5 : decode cK_emits 5 = .ok (.if_icmp .eq 13, 3) := by decide +kernel
theorem dK_emits_8 : decode cK_emits 8 = .ok (.new 37, 3) := by decide +kernel
theorem dK_emits_11 : decode cK_emits 11 = .ok (.dup, 1) := by decide +kernel
theorem dK_emits_12 : decode cK_emits 12 = .ok (.ldc 77, 2) := by decide +kernel
theorem dK_emits_14 : decode cK_emits 14 = .ok (.invokespecial 41, 3) := by decide +kernel
theorem dK_emits_17 : decode cK_emits 17 = .ok (.athrow, 1) := by decide +kernel
theorem dK_emits_18 : decode cK_emits 18 = .ok (.iload_n 1, 1) := by decide +kernel
theorem dK_emits_19 : decode cK_emits 19 = .ok (.iconst 4, 1) := by decide +kernel
theorem dK_emits_20 : decode cK_emits 20 = .ok (.if_icmp .lt 9, 3) := by decide +kernel
theorem dK_emits_23 : decode cK_emits 23 = .ok (.iload_n 1, 1) := by decide +kernel
theorem dK_emits_24 : decode cK_emits 24 = .ok (.bipush 16, 2) := by decide +kernel
theorem dK_emits_26 : decode cK_emits 26 = .ok (.if_icmp .lt 13, 3) := by decide +kernel
theorem dK_emits_29 : decode cK_emits 29 = .ok (.new 102, 3) := by decide +kernel
theorem dK_emits_32 : decode cK_emits 32 = .ok (.dup, 1) := by decide +kernel
theorem dK_emits_33 : decode cK_emits 33 = .ok (.ldc 122, 2) := by decide +kernel
theorem dK_emits_35 : decode cK_emits 35 = .ok (.invokespecial 106, 3) := by decide +kernel
theorem dK_emits_38 : decode cK_emits 38 = .ok (.athrow, 1) := by decide +kernel
theorem dK_emits_39 : decode cK_emits 39 = .ok (.iconst 0, 1) := by decide +kernel
theorem dK_emits_40 : decode cK_emits 40 = .ok (.istore_n 2, 1) := by decide +kernel
theorem dK_emits_41 : decode cK_emits 41 = .ok (.iconst 0, 1) := by decide +kernel
theorem dK_emits_42 : decode cK_emits 42 = .ok (.istore_n 3, 1) := by decide +kernel
theorem dK_emits_43 : decode cK_emits 43 = .ok (.iload_n 3, 1) := by decide +kernel
theorem dK_emits_44 : decode cK_emits 44 = .ok (.bipush 16, 2) := by decide +kernel
theorem dK_emits_46 : decode cK_emits 46 = .ok (.if_icmp .ge 40, 3) := by decide +kernel
theorem dK_emits_49 : decode cK_emits 49 = .ok (.aload_n 0, 1) := by decide +kernel
theorem dK_emits_50 : decode cK_emits 50 = .ok (.getfield 21, 3) := by decide +kernel
theorem dK_emits_53 : decode cK_emits 53 = .ok (.iload_n 3, 1) := by decide +kernel
theorem dK_emits_54 : decode cK_emits 54 = .ok (.invokevirtual 81, 3) := by decide +kernel
theorem dK_emits_57 : decode cK_emits 57 = .ok (.ifCond .eq 23, 3) := by decide +kernel
theorem dK_emits_60 : decode cK_emits 60 = .ok (.aload_n 0, 1) := by decide +kernel
theorem dK_emits_61 : decode cK_emits 61 = .ok (.getfield 21, 3) := by decide +kernel
theorem dK_emits_64 : decode cK_emits 64 = .ok (.getfield 87, 3) := by decide +kernel
theorem dK_emits_67 : decode cK_emits 67 = .ok (.iload_n 1, 1) := by decide +kernel
theorem dK_emits_68 : decode cK_emits 68 = .ok (.invokestatic 119, 3) := by decide +kernel
theorem dK_emits_71 : decode cK_emits 71 = .ok (.ifCond .eq 9, 3) := by decide +kernel
theorem dK_emits_74 : decode cK_emits 74 = .ok (.iload_n 2, 1) := by decide +kernel
theorem dK_emits_75 : decode cK_emits 75 = .ok (.iconst 1, 1) := by decide +kernel
theorem dK_emits_76 : decode cK_emits 76 = .ok (.iload_n 3, 1) := by decide +kernel
theorem dK_emits_77 : decode cK_emits 77 = .ok (.ishl, 1) := by decide +kernel
theorem dK_emits_78 : decode cK_emits 78 = .ok (.ior, 1) := by decide +kernel
theorem dK_emits_79 : decode cK_emits 79 = .ok (.istore_n 2, 1) := by decide +kernel
theorem dK_emits_80 : decode cK_emits 80 = .ok (.iinc 3 1, 3) := by decide +kernel
theorem dK_emits_83 : decode cK_emits 83 = .ok (.goto (-40), 3) := by decide +kernel
theorem dK_emits_86 : decode cK_emits 86 = .ok (.iload_n 2, 1) := by decide +kernel
theorem dK_emits_87 : decode cK_emits 87 = .ok (.ireturn, 1) := by decide +kernel
theorem dM_init_0 : decode cM_init 0 = .ok (.aload_n 0, 1) := by decide +kernel
theorem dM_init_1 : decode cM_init 1 = .ok (.invokespecial 1, 3) := by decide +kernel
theorem dM_init_4 : decode cM_init 4 = .ok (.aload_n 0, 1) := by decide +kernel
theorem dM_init_5 : decode cM_init 5 = .ok (.iconst 1, 1) := by decide +kernel
theorem dM_init_6 : decode cM_init 6 = .ok (.putfield 7, 3) := by decide +kernel
theorem dM_init_9 : decode cM_init 9 = .ok (.aload_n 0, 1) := by decide +kernel
theorem dM_init_10 : decode cM_init 10 = .ok (.bipush 120, 2) := by decide +kernel
theorem dM_init_12 : decode cM_init 12 = .ok (.newarray .int, 2) := by decide +kernel
theorem dM_init_14 : decode cM_init 14 = .ok (.putfield 13, 3) := by decide +kernel
theorem dM_init_17 : decode cM_init 17 = .ok (.aload_n 0, 1) := by decide +kernel
theorem dM_init_18 : decode cM_init 18 = .ok (.bipush 120, 2) := by decide +kernel
theorem dM_init_20 : decode cM_init 20 = .ok (.newarray .int, 2) := by decide +kernel
theorem dM_init_22 : decode cM_init 22 = .ok (.putfield 17, 3) := by decide +kernel
theorem dM_init_25 : decode cM_init 25 = .ok (.aload_n 0, 1) := by decide +kernel
theorem dM_init_26 : decode cM_init 26 = .ok (.bipush 120, 2) := by decide +kernel
theorem dM_init_28 : decode cM_init 28 = .ok (.newarray .int, 2) := by decide +kernel
theorem dM_init_30 : decode cM_init 30 = .ok (.putfield 20, 3) := by decide +kernel
theorem dM_init_33 : decode cM_init 33 = .ok (.aload_n 0, 1) := by decide +kernel
theorem dM_init_34 : decode cM_init 34 = .ok (.bipush 120, 2) := by decide +kernel
theorem dM_init_36 : decode cM_init 36 = .ok (.newarray .int, 2) := by decide +kernel
theorem dM_init_38 : decode cM_init 38 = .ok (.putfield 23, 3) := by decide +kernel
theorem dM_init_41 : decode cM_init 41 = .ok (.aload_n 0, 1) := by decide +kernel
theorem dM_init_42 : decode cM_init 42 = .ok (.bipush 120, 2) := by decide +kernel
theorem dM_init_44 : decode cM_init 44 = .ok (.newarray .int, 2) := by decide +kernel
theorem dM_init_46 : decode cM_init 46 = .ok (.putfield 26, 3) := by decide +kernel
theorem dM_init_49 : decode cM_init 49 = .ok (.aload_n 0, 1) := by decide +kernel
theorem dM_init_50 : decode cM_init 50 = .ok (.bipush 120, 2) := by decide +kernel
theorem dM_init_52 : decode cM_init 52 = .ok (.newarray .int, 2) := by decide +kernel
theorem dM_init_54 : decode cM_init 54 = .ok (.putfield 29, 3) := by decide +kernel
theorem dM_init_57 : decode cM_init 57 = .ok (.aload_n 0, 1) := by decide +kernel
theorem dM_init_58 : decode cM_init 58 = .ok (.bipush 120, 2) := by decide +kernel
theorem dM_init_60 : decode cM_init 60 = .ok (.newarray .int, 2) := by decide +kernel
theorem dM_init_62 : decode cM_init 62 = .ok (.putfield 32, 3) := by decide +kernel
theorem dM_init_65 : decode cM_init 65 = .ok (.aload_n 0, 1) := by decide +kernel
theorem dM_init_66 : decode cM_init 66 = .ok (.bipush 120, 2) := by decide +kernel
theorem dM_init_68 : decode cM_init 68 = .ok (.newarray .int, 2) := by decide +kernel
theorem dM_init_70 : decode cM_init 70 = .ok (.putfield 35, 3) := by decide +kernel
theorem dM_init_73 : decode cM_init 73 = .ok (.aload_n 0, 1) := by decide +kernel
theorem dM_init_74 : decode cM_init 74 = .ok (.bipush 120, 2) := by decide +kernel
theorem dM_init_76 : decode cM_init 76 = .ok (.newarray .int, 2) := by decide +kernel
theorem dM_init_78 : decode cM_init 78 = .ok (.putfield 38, 3) := by decide +kernel
theorem dM_init_81 : decode cM_init 81 = .ok (.aload_n 0, 1) := by decide +kernel
theorem dM_init_82 : decode cM_init 82 = .ok (.bipush 25, 2) := by decide +kernel
theorem dM_init_84 : decode cM_init 84 = .ok (.newarray .int, 2) := by decide +kernel
theorem dM_init_86 : decode cM_init 86 = .ok (.putfield 41, 3) := by decide +kernel
theorem dM_init_89 : decode cM_init 89 = .ok (.aload_n 0, 1) := by decide +kernel
theorem dM_init_90 : decode cM_init 90 = .ok (.bipush 25, 2) := by decide +kernel
theorem dM_init_92 : decode cM_init 92 = .ok (.newarray .int, 2) := by decide +kernel
theorem dM_init_94 : decode cM_init 94 = .ok (.putfield 44, 3) := by decide +kernel
theorem dM_init_97 : decode cM_init 97 = .ok (.aload_n 0, 1) := by decide +kernel
theorem dM_init_98 : decode cM_init 98 = .ok (.bipush 32, 2) := by decide +kernel
theorem dM_init_100 : decode cM_init 100 = .ok (.newarray .boolean, 2) := by decide +kernel
theorem dM_init_102 : decode cM_init 102 = .ok (.putfield 47, 3) := by decide +kernel
theorem dM_init_105 : decode cM_init 105 = .ok (.aload_n 0, 1) := by decide +kernel
theorem dM_init_106 : decode cM_init 106 = .ok (.bipush 32, 2) := by decide +kernel
theorem dM_init_108 : decode cM_init 108 = .ok (.newarray .boolean, 2) := by decide +kernel
theorem dM_init_110 : decode cM_init 110 = .ok (.putfield 51, 3) := by decide +kernel
theorem dM_init_113 : decode cM_init 113 = .ok (.aload_n 0, 1) := by decide +kernel
theorem dM_init_114 : decode cM_init 114 = .ok (.bipush 16, 2) := by decide +kernel
theorem dM_init_116 : decode cM_init 116 = .ok (.newarray .int, 2) := by decide +kernel
theorem dM_init_118 : decode cM_init 118 = .ok (.putfield 54, 3) := by decide +kernel
theorem dM_init_121 : decode cM_init 121 = .ok (.aload_n 0, 1) := by decide +kernel
theorem dM_init_122 : decode cM_init 122 = .ok (.sipush 3256, 3) := by decide +kernel
theorem dM_init_125 : decode cM_init 125 = .ok (.newarray .int, 2) := by decide +kernel
theorem dM_init_127 : decode cM_init 127 = .ok (.putfield 57, 3) := by decide +kernel
theorem dM_init_130 : decode cM_init 130 = .ok (.aload_n 0, 1) := by decide +kernel
theorem dM_init_131 : decode cM_init 131 = .ok (.sipush 3256, 3) := by decide +kernel
theorem dM_init_134 : decode cM_init 134 = .ok (.newarray .boolean, 2) := by decide +kernel
theorem dM_init_136 : decode cM_init 136 = .ok (.putfield 60, 3) := by decide +kernel
theorem dM_init_139 : decode cM_init 139 = .ok (.aload_n 0, 1) := by decide +kernel
theorem dM_init_140 : decode cM_init 140 = .ok (.sipush 3256, 3) := by decide +kernel
theorem dM_init_143 : decode cM_init 143 = .ok (.newarray .boolean, 2) := by decide +kernel
theorem dM_init_145 : decode cM_init 145 = .ok (.putfield 63, 3) := by decide +kernel
theorem dM_init_148 : decode cM_init 148 = .ok (.aload_n 0, 1) := by decide +kernel
theorem dM_init_149 : decode cM_init 149 = .ok (.bipush 16, 2) := by decide +kernel
theorem dM_init_151 : decode cM_init 151 = .ok (.newarray .int, 2) := by decide +kernel
theorem dM_init_153 : decode cM_init 153 = .ok (.putfield 66, 3) := by decide +kernel
theorem dM_init_156 : decode cM_init 156 = .ok (.return_, 1) := by decide +kernel
theorem dM_thrown_0 : decode cM_thrown 0 = .ok (.aload_n 0, 1) := by decide +kernel
theorem dM_thrown_1 : decode cM_thrown 1 = .ok (.getfield 69, 3) := by decide +kernel
theorem dM_thrown_4 : decode cM_thrown 4 = .ok (.ireturn, 1) := by decide +kernel
theorem dM_put_0 : decode cM_put 0 = .ok (.aload_n 0, 1) := by decide +kernel
theorem dM_put_1 : decode cM_put 1 = .ok (.getfield 7, 3) := by decide +kernel
theorem dM_put_4 : decode cM_put 4 = .ok (.ifCond .ne 7, 3) := by decide +kernel
theorem dM_put_7 : decode cM_put 7 = .ok (.iconst 1, 1) := by decide +kernel
theorem dM_put_8 : decode cM_put 8 = .ok (.goto 4, 3) := by decide +kernel
theorem dM_put_11 : decode cM_put 11 = .ok (.iconst 0, 1) := by decide +kernel
theorem dM_put_12 : decode cM_put 12 = .ok (.istore_n 3, 1) := by decide +kernel
theorem dM_put_13 : decode cM_put 13 = .ok (.aload_n 0, 1) := by decide +kernel
theorem dM_put_14 : decode cM_put 14 = .ok (.iload_n 3, 1) := by decide +kernel
theorem dM_put_15 : decode cM_put 15 = .ok (.iload_n 3, 1) := by decide +kernel
theorem dM_put_16 : decode cM_put 16 = .ok (.ifCond .ne 16, 3) := by decide +kernel
theorem dM_put_19 : decode cM_put 19 = .ok (.aload_n 0, 1) := by decide +kernel
theorem dM_put_20 : decode cM_put 20 = .ok (.iload_n 1, 1) := by decide +kernel
theorem dM_put_21 : decode cM_put 21 = .ok (.iload_n 2, 1) := by decide +kernel
theorem dM_put_22 : decode cM_put 22 = .ok (.invokevirtual 79, 3) := by decide +kernel
theorem dM_put_25 : decode cM_put 25 = .ok (.ifCond .ne 7, 3) := by decide +kernel
theorem dM_put_28 : decode cM_put 28 = .ok (.iconst 1, 1) := by decide +kernel
theorem dM_put_29 : decode cM_put 29 = .ok (.goto 4, 3) := by decide +kernel
theorem dM_put_32 : decode cM_put 32 = .ok (.iconst 0, 1) := by decide +kernel
theorem dM_put_33 : decode cM_put 33 = .ok (.invokevirtual 83, 3) := by decide +kernel
theorem dM_put_36 : decode cM_put 36 = .ok (.ifCond .eq 5, 3) := by decide +kernel
theorem dM_put_39 : decode cM_put 39 = .ok (.iconst 0, 1) := by decide +kernel
theorem dM_put_40 : decode cM_put 40 = .ok (.ireturn, 1) := by decide +kernel
theorem dM_put_41 : decode cM_put 41 = .ok (.aload_n 0, 1) := by decide +kernel
theorem dM_put_42 : decode cM_put 42 = .ok (.getfield 72, 3) := by decide +kernel
theorem dM_put_45 : decode cM_put 45 = .ok (.ifCond .ne 7, 3) := by decide +kernel
theorem dM_put_48 : decode cM_put 48 = .ok (.iconst (-1), 1) := by decide +kernel
theorem dM_put_49 : decode cM_put 49 = .ok (.goto 14, 3) := by decide +kernel
theorem dM_put_52 : decode cM_put 52 = .ok (.aload_n 0, 1) := by decide +kernel
theorem dM_put_53 : decode cM_put 53 = .ok (.getfield 41, 3) := by decide +kernel
theorem dM_put_56 : decode cM_put 56 = .ok (.aload_n 0, 1) := by decide +kernel
theorem dM_put_57 : decode cM_put 57 = .ok (.getfield 72, 3) := by decide +kernel
theorem dM_put_60 : decode cM_put 60 = .ok (.iconst 1, 1) := by decide +kernel
theorem dM_put_61 : decode cM_put 61 = .ok (.isub, 1) := by decide +kernel
theorem dM_put_62 : decode cM_put 62 = .ok (.iaload, 1) := by decide +kernel
theorem dM_put_63 : decode cM_put 63 = .ok (.istore 4, 2) := by decide +kernel
theorem dM_put_65 : decode cM_put 65 = .ok (.iload 4, 2) := by decide +kernel
theorem dM_put_67 : decode cM_put 67 = .ok (.iconst (-1), 1) := by decide +kernel
theorem dM_put_68 : decode cM_put 68 = .ok (.if_icmp .eq 18, 3) := by decide +kernel
theorem dM_put_71 : decode cM_put 71 = .ok (.aload_n 0, 1) := by decide +kernel
theorem dM_put_72 : decode cM_put 72 = .ok (.getfield 20, 3) := by decide +kernel
theorem dM_put_75 : decode cM_put 75 = .ok (.iload 4, 2) := by decide +kernel
theorem dM_put_77 : decode cM_put 77 = .ok (.iaload, 1) := by decide +kernel
theorem dM_put_78 : decode cM_put 78 = .ok (.iconst (-1), 1) := by decide +kernel
theorem dM_put_79 : decode cM_put 79 = .ok (.if_icmp .eq 7, 3) := by decide +kernel
theorem dM_put_82 : decode cM_put 82 = .ok (.iconst 1, 1) := by decide +kernel
theorem dM_put_83 : decode cM_put 83 = .ok (.goto 4, 3) := by decide +kernel
theorem dM_put_86 : decode cM_put 86 = .ok (.iconst 0, 1) := by decide +kernel
theorem dM_put_87 : decode cM_put 87 = .ok (.istore 5, 2) := by decide +kernel
theorem dM_put_89 : decode cM_put 89 = .ok (.iload 4, 2) := by decide +kernel
theorem dM_put_91 : decode cM_put 91 = .ok (.iconst (-1), 1) := by decide +kernel
theorem dM_put_92 : decode cM_put 92 = .ok (.if_icmp .ne 7, 3) := by decide +kernel
theorem dM_put_95 : decode cM_put 95 = .ok (.iconst 1, 1) := by decide +kernel
theorem dM_put_96 : decode cM_put 96 = .ok (.goto 45, 3) := by decide +kernel
theorem dM_put_99 : decode cM_put 99 = .ok (.aload_n 0, 1) := by decide +kernel
theorem dM_put_100 : decode cM_put 100 = .ok (.getfield 35, 3) := by decide +kernel
theorem dM_put_103 : decode cM_put 103 = .ok (.iload 4, 2) := by decide +kernel
theorem dM_put_105 : decode cM_put 105 = .ok (.iaload, 1) := by decide +kernel
theorem dM_put_106 : decode cM_put 106 = .ok (.aload_n 0, 1) := by decide +kernel
theorem dM_put_107 : decode cM_put 107 = .ok (.getfield 13, 3) := by decide +kernel
theorem dM_put_110 : decode cM_put 110 = .ok (.iload 4, 2) := by decide +kernel
theorem dM_put_112 : decode cM_put 112 = .ok (.iaload, 1) := by decide +kernel
theorem dM_put_113 : decode cM_put 113 = .ok (.bipush 8, 2) := by decide +kernel
theorem dM_put_115 : decode cM_put 115 = .ok (.if_icmp .eq 20, 3) := by decide +kernel
theorem dM_put_118 : decode cM_put 118 = .ok (.aload_n 0, 1) := by decide +kernel
theorem dM_put_119 : decode cM_put 119 = .ok (.getfield 13, 3) := by decide +kernel
theorem dM_put_122 : decode cM_put 122 = .ok (.iload 4, 2) := by decide +kernel
theorem dM_put_124 : decode cM_put 124 = .ok (.iaload, 1) := by decide +kernel
theorem dM_put_125 : decode cM_put 125 = .ok (.bipush 6, 2) := by decide +kernel
theorem dM_put_127 : decode cM_put 127 = .ok (.if_icmp .ne 12, 3) := by decide +kernel
theorem dM_put_130 : decode cM_put 130 = .ok (.iload 5, 2) := by decide +kernel
theorem dM_put_132 : decode cM_put 132 = .ok (.ifCond .eq 7, 3) := by decide +kernel
theorem dM_put_135 : decode cM_put 135 = .ok (.iconst 1, 1) := by decide +kernel
theorem dM_put_136 : decode cM_put 136 = .ok (.goto 4, 3) := by decide +kernel
theorem dM_put_139 : decode cM_put 139 = .ok (.iconst 0, 1) := by decide +kernel
theorem dM_put_140 : decode cM_put 140 = .ok (.iadd, 1) := by decide +kernel
theorem dM_put_141 : decode cM_put 141 = .ok (.istore 6, 2) := by decide +kernel
theorem dM_put_143 : decode cM_put 143 = .ok (.aload_n 0, 1) := by decide +kernel
theorem dM_put_144 : decode cM_put 144 = .ok (.getfield 87, 3) := by decide +kernel
theorem dM_put_147 : decode cM_put 147 = .ok (.bipush 120, 2) := by decide +kernel
theorem dM_put_149 : decode cM_put 149 = .ok (.if_icmp .eq 53, 3) := by decide +kernel
theorem dM_put_152 : decode cM_put 152 = .ok (.iload_n 1, 1) := by decide +kernel
theorem dM_put_153 : decode cM_put 153 = .ok (.iconst 1, 1) := by decide +kernel
theorem dM_put_154 : decode cM_put 154 = .ok (.if_icmp .ne 12, 3) := by decide +kernel
theorem dM_put_157 : decode cM_put 157 = .ok (.aload_n 0, 1) := by decide +kernel
theorem dM_put_158 : decode cM_put 158 = .ok (.getfield 90, 3) := by decide +kernel
theorem dM_put_161 : decode cM_put 161 = .ok (.bipush 32, 2) := by decide +kernel
theorem dM_put_163 : decode cM_put 163 = .ok (.if_icmp .eq 39, 3) := by decide +kernel
theorem dM_put_166 : decode cM_put 166 = .ok (.aload_n 0, 1) := by decide +kernel
theorem dM_put_167 : decode cM_put 167 = .ok (.getfield 72, 3) := by decide +kernel
theorem dM_put_170 : decode cM_put 170 = .ok (.bipush 24, 2) := by decide +kernel
theorem dM_put_172 : decode cM_put 172 = .ok (.if_icmp .eq 30, 3) := by decide +kernel
theorem dM_put_175 : decode cM_put 175 = .ok (.iload_n 1, 1) := by decide +kernel
theorem dM_put_176 : decode cM_put 176 = .ok (.bipush 9, 2) := by decide +kernel
theorem dM_put_178 : decode cM_put 178 = .ok (.if_icmp .ne 11, 3) := by decide +kernel
theorem dM_put_181 : decode cM_put 181 = .ok (.aload_n 0, 1) := by decide +kernel
theorem dM_put_182 : decode cM_put 182 = .ok (.invokevirtual 75, 3) := by decide +kernel
theorem dM_put_185 : decode cM_put 185 = .ok (.iconst 5, 1) := by decide +kernel
theorem dM_put_186 : decode cM_put 186 = .ok (.if_icmp .eq 16, 3) := by decide +kernel
theorem dM_put_189 : decode cM_put 189 = .ok (.aload_n 0, 1) := by decide +kernel
theorem dM_put_190 : decode cM_put 190 = .ok (.getfield 93, 3) := by decide +kernel
theorem dM_put_193 : decode cM_put 193 = .ok (.iload 6, 2) := by decide +kernel
theorem dM_put_195 : decode cM_put 195 = .ok (.iadd, 1) := by decide +kernel
theorem dM_put_196 : decode cM_put 196 = .ok (.sipush 360, 3) := by decide +kernel
theorem dM_put_199 : decode cM_put 199 = .ok (.if_icmp .le 7, 3) := by decide +kernel
theorem dM_put_202 : decode cM_put 202 = .ok (.iconst 1, 1) := by decide +kernel
theorem dM_put_203 : decode cM_put 203 = .ok (.goto 4, 3) := by decide +kernel
theorem dM_put_206 : decode cM_put 206 = .ok (.iconst 0, 1) := by decide +kernel
theorem dM_put_207 : decode cM_put 207 = .ok (.istore 7, 2) := by decide +kernel
theorem dM_put_209 : decode cM_put 209 = .ok (.iload 7, 2) := by decide +kernel
theorem dM_put_211 : decode cM_put 211 = .ok (.ifCond .eq 5, 3) := by decide +kernel
theorem dM_put_214 : decode cM_put 214 = .ok (.iconst (-1), 1) := by decide +kernel
theorem dM_put_215 : decode cM_put 215 = .ok (.ireturn, 1) := by decide +kernel
theorem dM_put_216 : decode cM_put 216 = .ok (.aload_n 0, 1) := by decide +kernel
theorem dM_put_217 : decode cM_put 217 = .ok (.getfield 87, 3) := by decide +kernel
theorem dM_put_220 : decode cM_put 220 = .ok (.istore 8, 2) := by decide +kernel
theorem dM_put_222 : decode cM_put 222 = .ok (.aload_n 0, 1) := by decide +kernel
theorem dM_put_223 : decode cM_put 223 = .ok (.getfield 13, 3) := by decide +kernel
theorem dM_put_226 : decode cM_put 226 = .ok (.iload 8, 2) := by decide +kernel
theorem dM_put_228 : decode cM_put 228 = .ok (.iload_n 1, 1) := by decide +kernel
theorem dM_put_229 : decode cM_put 229 = .ok (.iastore, 1) := by decide +kernel
theorem dM_put_230 : decode cM_put 230 = .ok (.aload_n 0, 1) := by decide +kernel
theorem dM_put_231 : decode cM_put 231 = .ok (.getfield 17, 3) := by decide +kernel
theorem dM_put_234 : decode cM_put 234 = .ok (.iload 8, 2) := by decide +kernel
theorem dM_put_236 : decode cM_put 236 = .ok (.iload_n 2, 1) := by decide +kernel
theorem dM_put_237 : decode cM_put 237 = .ok (.iastore, 1) := by decide +kernel
theorem dM_put_238 : decode cM_put 238 = .ok (.aload_n 0, 1) := by decide +kernel
theorem dM_put_239 : decode cM_put 239 = .ok (.getfield 20, 3) := by decide +kernel
theorem dM_put_242 : decode cM_put 242 = .ok (.iload 8, 2) := by decide +kernel
theorem dM_put_244 : decode cM_put 244 = .ok (.iconst (-1), 1) := by decide +kernel
theorem dM_put_245 : decode cM_put 245 = .ok (.iastore, 1) := by decide +kernel
theorem dM_put_246 : decode cM_put 246 = .ok (.aload_n 0, 1) := by decide +kernel
theorem dM_put_247 : decode cM_put 247 = .ok (.getfield 23, 3) := by decide +kernel
theorem dM_put_250 : decode cM_put 250 = .ok (.iload 8, 2) := by decide +kernel
theorem dM_put_252 : decode cM_put 252 = .ok (.iconst (-1), 1) := by decide +kernel
theorem dM_put_253 : decode cM_put 253 = .ok (.iastore, 1) := by decide +kernel
theorem dM_put_254 : decode cM_put 254 = .ok (.aload_n 0, 1) := by decide +kernel
theorem dM_put_255 : decode cM_put 255 = .ok (.getfield 29, 3) := by decide +kernel
theorem dM_put_258 : decode cM_put 258 = .ok (.iload 8, 2) := by decide +kernel
theorem dM_put_260 : decode cM_put 260 = .ok (.aload_n 0, 1) := by decide +kernel
theorem dM_put_261 : decode cM_put 261 = .ok (.getfield 72, 3) := by decide +kernel
theorem dM_put_264 : decode cM_put 264 = .ok (.iastore, 1) := by decide +kernel
theorem dM_put_265 : decode cM_put 265 = .ok (.aload_n 0, 1) := by decide +kernel
theorem dM_put_266 : decode cM_put 266 = .ok (.getfield 32, 3) := by decide +kernel
theorem dM_put_269 : decode cM_put 269 = .ok (.iload 8, 2) := by decide +kernel
theorem dM_put_271 : decode cM_put 271 = .ok (.aload_n 0, 1) := by decide +kernel
theorem dM_put_272 : decode cM_put 272 = .ok (.invokevirtual 75, 3) := by decide +kernel
theorem dM_put_275 : decode cM_put 275 = .ok (.iastore, 1) := by decide +kernel
theorem dM_put_276 : decode cM_put 276 = .ok (.aload_n 0, 1) := by decide +kernel
theorem dM_put_277 : decode cM_put 277 = .ok (.getfield 35, 3) := by decide +kernel
theorem dM_put_280 : decode cM_put 280 = .ok (.iload 8, 2) := by decide +kernel
theorem dM_put_282 : decode cM_put 282 = .ok (.iload 6, 2) := by decide +kernel
theorem dM_put_284 : decode cM_put 284 = .ok (.iastore, 1) := by decide +kernel
theorem dM_put_285 : decode cM_put 285 = .ok (.aload_n 0, 1) := by decide +kernel
theorem dM_put_286 : decode cM_put 286 = .ok (.dup, 1) := by decide +kernel
theorem dM_put_287 : decode cM_put 287 = .ok (.getfield 93, 3) := by decide +kernel
theorem dM_put_290 : decode cM_put 290 = .ok (.iload 6, 2) := by decide +kernel
theorem dM_put_292 : decode cM_put 292 = .ok (.iadd, 1) := by decide +kernel
theorem dM_put_293 : decode cM_put 293 = .ok (.putfield 93, 3) := by decide +kernel
theorem dM_put_296 : decode cM_put 296 = .ok (.aload_n 0, 1) := by decide +kernel
theorem dM_put_297 : decode cM_put 297 = .ok (.getfield 38, 3) := by decide +kernel
theorem dM_put_300 : decode cM_put 300 = .ok (.iload 8, 2) := by decide +kernel
theorem dM_put_302 : decode cM_put 302 = .ok (.iload_n 1, 1) := by decide +kernel
theorem dM_put_303 : decode cM_put 303 = .ok (.iconst 1, 1) := by decide +kernel
theorem dM_put_304 : decode cM_put 304 = .ok (.if_icmp .ne 10, 3) := by decide +kernel
theorem dM_put_307 : decode cM_put 307 = .ok (.aload_n 0, 1) := by decide +kernel
theorem dM_put_308 : decode cM_put 308 = .ok (.getfield 90, 3) := by decide +kernel
theorem dM_put_311 : decode cM_put 311 = .ok (.goto 4, 3) := by decide +kernel
theorem dM_put_314 : decode cM_put 314 = .ok (.iconst (-1), 1) := by decide +kernel
theorem dM_put_315 : decode cM_put 315 = .ok (.iastore, 1) := by decide +kernel
theorem dM_put_316 : decode cM_put 316 = .ok (.aload_n 0, 1) := by decide +kernel
theorem dM_put_317 : decode cM_put 317 = .ok (.dup, 1) := by decide +kernel
theorem dM_put_318 : decode cM_put 318 = .ok (.getfield 90, 3) := by decide +kernel
theorem dM_put_321 : decode cM_put 321 = .ok (.iload_n 1, 1) := by decide +kernel
theorem dM_put_322 : decode cM_put 322 = .ok (.iconst 1, 1) := by decide +kernel
theorem dM_put_323 : decode cM_put 323 = .ok (.if_icmp .ne 7, 3) := by decide +kernel
theorem dM_put_326 : decode cM_put 326 = .ok (.iconst 1, 1) := by decide +kernel
theorem dM_put_327 : decode cM_put 327 = .ok (.goto 4, 3) := by decide +kernel
theorem dM_put_330 : decode cM_put 330 = .ok (.iconst 0, 1) := by decide +kernel
theorem dM_put_331 : decode cM_put 331 = .ok (.iadd, 1) := by decide +kernel
theorem dM_put_332 : decode cM_put 332 = .ok (.putfield 90, 3) := by decide +kernel
theorem dM_put_335 : decode cM_put 335 = .ok (.iload 4, 2) := by decide +kernel
theorem dM_put_337 : decode cM_put 337 = .ok (.iconst (-1), 1) := by decide +kernel
theorem dM_put_338 : decode cM_put 338 = .ok (.if_icmp .eq 20, 3) := by decide +kernel
theorem dM_put_341 : decode cM_put 341 = .ok (.iload 5, 2) := by decide +kernel
theorem dM_put_343 : decode cM_put 343 = .ok (.ifCond .eq 15, 3) := by decide +kernel
theorem dM_put_346 : decode cM_put 346 = .ok (.aload_n 0, 1) := by decide +kernel
theorem dM_put_347 : decode cM_put 347 = .ok (.getfield 23, 3) := by decide +kernel
theorem dM_put_350 : decode cM_put 350 = .ok (.iload 4, 2) := by decide +kernel
theorem dM_put_352 : decode cM_put 352 = .ok (.iload 8, 2) := by decide +kernel
theorem dM_put_354 : decode cM_put 354 = .ok (.iastore, 1) := by decide +kernel
theorem dM_put_355 : decode cM_put 355 = .ok (.goto 18, 3) := by decide +kernel
theorem dM_put_358 : decode cM_put 358 = .ok (.iload 4, 2) := by decide +kernel
theorem dM_put_360 : decode cM_put 360 = .ok (.iconst (-1), 1) := by decide +kernel
theorem dM_put_361 : decode cM_put 361 = .ok (.if_icmp .eq 12, 3) := by decide +kernel
theorem dM_put_364 : decode cM_put 364 = .ok (.aload_n 0, 1) := by decide +kernel
theorem dM_put_365 : decode cM_put 365 = .ok (.getfield 20, 3) := by decide +kernel
theorem dM_put_368 : decode cM_put 368 = .ok (.iload 4, 2) := by decide +kernel
theorem dM_put_370 : decode cM_put 370 = .ok (.iload 8, 2) := by decide +kernel
theorem dM_put_372 : decode cM_put 372 = .ok (.iastore, 1) := by decide +kernel
theorem dM_put_373 : decode cM_put 373 = .ok (.aload_n 0, 1) := by decide +kernel
theorem dM_put_374 : decode cM_put 374 = .ok (.dup, 1) := by decide +kernel
theorem dM_put_375 : decode cM_put 375 = .ok (.getfield 87, 3) := by decide +kernel
theorem dM_put_378 : decode cM_put 378 = .ok (.iconst 1, 1) := by decide +kernel
theorem dM_put_379 : decode cM_put 379 = .ok (.iadd, 1) := by decide +kernel
theorem dM_put_380 : decode cM_put 380 = .ok (.putfield 87, 3) := by decide +kernel
theorem dM_put_383 : decode cM_put 383 = .ok (.aload_n 0, 1) := by decide +kernel
theorem dM_put_384 : decode cM_put 384 = .ok (.getfield 72, 3) := by decide +kernel
theorem dM_put_387 : decode cM_put 387 = .ok (.ifCond .le 18, 3) := by decide +kernel
theorem dM_put_390 : decode cM_put 390 = .ok (.aload_n 0, 1) := by decide +kernel
theorem dM_put_391 : decode cM_put 391 = .ok (.getfield 44, 3) := by decide +kernel
theorem dM_put_394 : decode cM_put 394 = .ok (.aload_n 0, 1) := by decide +kernel
theorem dM_put_395 : decode cM_put 395 = .ok (.getfield 72, 3) := by decide +kernel
theorem dM_put_398 : decode cM_put 398 = .ok (.iconst 1, 1) := by decide +kernel
theorem dM_put_399 : decode cM_put 399 = .ok (.isub, 1) := by decide +kernel
theorem dM_put_400 : decode cM_put 400 = .ok (.dup2, 1) := by decide +kernel
theorem dM_put_401 : decode cM_put 401 = .ok (.iaload, 1) := by decide +kernel
theorem dM_put_402 : decode cM_put 402 = .ok (.iconst 1, 1) := by decide +kernel
theorem dM_put_403 : decode cM_put 403 = .ok (.isub, 1) := by decide +kernel
theorem dM_put_404 : decode cM_put 404 = .ok (.iastore, 1) := by decide +kernel
theorem dM_put_405 : decode cM_put 405 = .ok (.aload_n 0, 1) := by decide +kernel
theorem dM_put_406 : decode cM_put 406 = .ok (.getfield 41, 3) := by decide +kernel
theorem dM_put_409 : decode cM_put 409 = .ok (.aload_n 0, 1) := by decide +kernel
theorem dM_put_410 : decode cM_put 410 = .ok (.getfield 72, 3) := by decide +kernel
theorem dM_put_413 : decode cM_put 413 = .ok (.iload 8, 2) := by decide +kernel
theorem dM_put_415 : decode cM_put 415 = .ok (.iastore, 1) := by decide +kernel
theorem dM_put_416 : decode cM_put 416 = .ok (.aload_n 0, 1) := by decide +kernel
theorem dM_put_417 : decode cM_put 417 = .ok (.getfield 44, 3) := by decide +kernel
theorem dM_put_420 : decode cM_put 420 = .ok (.aload_n 0, 1) := by decide +kernel
theorem dM_put_421 : decode cM_put 421 = .ok (.getfield 72, 3) := by decide +kernel
theorem dM_put_424 : decode cM_put 424 = .ok (.iload_n 1, 1) := by decide +kernel
theorem dM_put_425 : decode cM_put 425 = .ok (.invokestatic 96, 3) := by decide +kernel
theorem dM_put_428 : decode cM_put 428 = .ok (.iastore, 1) := by decide +kernel
theorem dM_put_429 : decode cM_put 429 = .ok (.aload_n 0, 1) := by decide +kernel
theorem dM_put_430 : decode cM_put 430 = .ok (.dup, 1) := by decide +kernel
theorem dM_put_431 : decode cM_put 431 = .ok (.getfield 72, 3) := by decide +kernel
theorem dM_put_434 : decode cM_put 434 = .ok (.iconst 1, 1) := by decide +kernel
theorem dM_put_435 : decode cM_put 435 = .ok (.iadd, 1) := by decide +kernel
theorem dM_put_436 : decode cM_put 436 = .ok (.putfield 72, 3) := by decide +kernel
theorem dM_put_439 : decode cM_put 439 = .ok (.aload_n 0, 1) := by decide +kernel
theorem dM_put_440 : decode cM_put 440 = .ok (.getfield 72, 3) := by decide +kernel
theorem dM_put_443 : decode cM_put 443 = .ok (.ifCond .le 48, 3) := by decide +kernel
theorem dM_put_446 : decode cM_put 446 = .ok (.aload_n 0, 1) := by decide +kernel
theorem dM_put_447 : decode cM_put 447 = .ok (.getfield 44, 3) := by decide +kernel
theorem dM_put_450 : decode cM_put 450 = .ok (.aload_n 0, 1) := by decide +kernel
theorem dM_put_451 : decode cM_put 451 = .ok (.getfield 72, 3) := by decide +kernel
theorem dM_put_454 : decode cM_put 454 = .ok (.iconst 1, 1) := by decide +kernel
theorem dM_put_455 : decode cM_put 455 = .ok (.isub, 1) := by decide +kernel
theorem dM_put_456 : decode cM_put 456 = .ok (.iaload, 1) := by decide +kernel
theorem dM_put_457 : decode cM_put 457 = .ok (.ifCond .ne 34, 3) := by decide +kernel
theorem dM_put_460 : decode cM_put 460 = .ok (.aload_n 0, 1) := by decide +kernel
theorem dM_put_461 : decode cM_put 461 = .ok (.dup, 1) := by decide +kernel
theorem dM_put_462 : decode cM_put 462 = .ok (.getfield 72, 3) := by decide +kernel
theorem dM_put_465 : decode cM_put 465 = .ok (.iconst 1, 1) := by decide +kernel
theorem dM_put_466 : decode cM_put 466 = .ok (.isub, 1) := by decide +kernel
theorem dM_put_467 : decode cM_put 467 = .ok (.putfield 72, 3) := by decide +kernel
theorem dM_put_470 : decode cM_put 470 = .ok (.aload_n 0, 1) := by decide +kernel
theorem dM_put_471 : decode cM_put 471 = .ok (.getfield 26, 3) := by decide +kernel
theorem dM_put_474 : decode cM_put 474 = .ok (.aload_n 0, 1) := by decide +kernel
theorem dM_put_475 : decode cM_put 475 = .ok (.getfield 41, 3) := by decide +kernel
theorem dM_put_478 : decode cM_put 478 = .ok (.aload_n 0, 1) := by decide +kernel
theorem dM_put_479 : decode cM_put 479 = .ok (.getfield 72, 3) := by decide +kernel
theorem dM_put_482 : decode cM_put 482 = .ok (.iaload, 1) := by decide +kernel
theorem dM_put_483 : decode cM_put 483 = .ok (.aload_n 0, 1) := by decide +kernel
theorem dM_put_484 : decode cM_put 484 = .ok (.getfield 87, 3) := by decide +kernel
theorem dM_put_487 : decode cM_put 487 = .ok (.iastore, 1) := by decide +kernel
theorem dM_put_488 : decode cM_put 488 = .ok (.goto (-49), 3) := by decide +kernel
theorem dM_put_491 : decode cM_put 491 = .ok (.aload_n 0, 1) := by decide +kernel
theorem dM_put_492 : decode cM_put 492 = .ok (.dup, 1) := by decide +kernel
theorem dM_put_493 : decode cM_put 493 = .ok (.getfield 7, 3) := by decide +kernel
theorem dM_put_496 : decode cM_put 496 = .ok (.iload_n 1, 1) := by decide +kernel
theorem dM_put_497 : decode cM_put 497 = .ok (.invokestatic 96, 3) := by decide +kernel
theorem dM_put_500 : decode cM_put 500 = .ok (.iconst 1, 1) := by decide +kernel
theorem dM_put_501 : decode cM_put 501 = .ok (.isub, 1) := by decide +kernel
theorem dM_put_502 : decode cM_put 502 = .ok (.iadd, 1) := by decide +kernel
theorem dM_put_503 : decode cM_put 503 = .ok (.putfield 7, 3) := by decide +kernel
theorem dM_put_506 : decode cM_put 506 = .ok (.aload_n 0, 1) := by decide +kernel
theorem dM_put_507 : decode cM_put 507 = .ok (.getfield 7, 3) := by decide +kernel
theorem dM_put_510 : decode cM_put 510 = .ok (.ireturn, 1) := by decide +kernel
theorem dM_isSaid_0 : decode cM_isSaid 0 = .ok (.iload_n 1, 1) := by decide +kernel
theorem dM_isSaid_1 : decode cM_isSaid 1 = .ok (.ifCond .lt 9, 3) := by decide +kernel
theorem dM_isSaid_4 : decode cM_isSaid 4 = .ok (.iload_n 1, 1) := by decide +kernel
theorem dM_isSaid_5 : decode cM_isSaid 5 = .ok (.bipush 10, 2) := by decide +kernel
theorem dM_isSaid_7 : decode cM_isSaid 7 = .ok (.if_icmp .le 5, 3) := by decide +kernel
theorem dM_isSaid_10 : decode cM_isSaid 10 = .ok (.iconst 0, 1) := by decide +kernel
theorem dM_isSaid_11 : decode cM_isSaid 11 = .ok (.ireturn, 1) := by decide +kernel
theorem dM_isSaid_12 : decode cM_isSaid 12 = .ok (.iload_n 1, 1) := by decide +kernel
theorem dM_isSaid_13 : decode cM_isSaid 13 = .ok (.iconst 2, 1) := by decide +kernel
theorem dM_isSaid_14 : decode cM_isSaid 14 = .ok (.if_icmp .eq 9, 3) := by decide +kernel
theorem dM_isSaid_17 : decode cM_isSaid 17 = .ok (.iload_n 1, 1) := by decide +kernel
theorem dM_isSaid_18 : decode cM_isSaid 18 = .ok (.bipush 10, 2) := by decide +kernel
theorem dM_isSaid_20 : decode cM_isSaid 20 = .ok (.if_icmp .ne 20, 3) := by decide +kernel
theorem dM_isSaid_23 : decode cM_isSaid 23 = .ok (.iload_n 2, 1) := by decide +kernel
theorem dM_isSaid_24 : decode cM_isSaid 24 = .ok (.iconst 3, 1) := by decide +kernel
theorem dM_isSaid_25 : decode cM_isSaid 25 = .ok (.if_icmp .le 13, 3) := by decide +kernel
theorem dM_isSaid_28 : decode cM_isSaid 28 = .ok (.iload_n 2, 1) := by decide +kernel
theorem dM_isSaid_29 : decode cM_isSaid 29 = .ok (.bipush 16, 2) := by decide +kernel
theorem dM_isSaid_31 : decode cM_isSaid 31 = .ok (.if_icmp .ge 7, 3) := by decide +kernel
theorem dM_isSaid_34 : decode cM_isSaid 34 = .ok (.iconst 1, 1) := by decide +kernel
theorem dM_isSaid_35 : decode cM_isSaid 35 = .ok (.goto 4, 3) := by decide +kernel
theorem dM_isSaid_38 : decode cM_isSaid 38 = .ok (.iconst 0, 1) := by decide +kernel
theorem dM_isSaid_39 : decode cM_isSaid 39 = .ok (.ireturn, 1) := by decide +kernel
theorem dM_isSaid_40 : decode cM_isSaid 40 = .ok (.iload_n 1, 1) := by decide +kernel
theorem dM_isSaid_41 : decode cM_isSaid 41 = .ok (.iconst 3, 1) := by decide +kernel
theorem dM_isSaid_42 : decode cM_isSaid 42 = .ok (.if_icmp .ne 21, 3) := by decide +kernel
theorem dM_isSaid_45 : decode cM_isSaid 45 = .ok (.iload_n 2, 1) := by decide +kernel
theorem dM_isSaid_46 : decode cM_isSaid 46 = .ok (.ifCond .lt 15, 3) := by decide +kernel
theorem dM_isSaid_49 : decode cM_isSaid 49 = .ok (.iload_n 2, 1) := by decide +kernel
theorem dM_isSaid_50 : decode cM_isSaid 50 = .ok (.aload_n 0, 1) := by decide +kernel
theorem dM_isSaid_51 : decode cM_isSaid 51 = .ok (.invokevirtual 75, 3) := by decide +kernel
theorem dM_isSaid_54 : decode cM_isSaid 54 = .ok (.if_icmp .ge 7, 3) := by decide +kernel
theorem dM_isSaid_57 : decode cM_isSaid 57 = .ok (.iconst 1, 1) := by decide +kernel
theorem dM_isSaid_58 : decode cM_isSaid 58 = .ok (.goto 4, 3) := by decide +kernel
theorem dM_isSaid_61 : decode cM_isSaid 61 = .ok (.iconst 0, 1) := by decide +kernel
theorem dM_isSaid_62 : decode cM_isSaid 62 = .ok (.ireturn, 1) := by decide +kernel
theorem dM_isSaid_63 : decode cM_isSaid 63 = .ok (.iload_n 1, 1) := by decide +kernel
theorem dM_isSaid_64 : decode cM_isSaid 64 = .ok (.iconst 4, 1) := by decide +kernel
theorem dM_isSaid_65 : decode cM_isSaid 65 = .ok (.if_icmp .eq 8, 3) := by decide +kernel
theorem dM_isSaid_68 : decode cM_isSaid 68 = .ok (.iload_n 1, 1) := by decide +kernel
theorem dM_isSaid_69 : decode cM_isSaid 69 = .ok (.iconst 5, 1) := by decide +kernel
theorem dM_isSaid_70 : decode cM_isSaid 70 = .ok (.if_icmp .ne 23, 3) := by decide +kernel
theorem dM_isSaid_73 : decode cM_isSaid 73 = .ok (.iload_n 2, 1) := by decide +kernel
theorem dM_isSaid_74 : decode cM_isSaid 74 = .ok (.bipush (-17), 2) := by decide +kernel
theorem dM_isSaid_76 : decode cM_isSaid 76 = .ok (.if_icmp .le 13, 3) := by decide +kernel
theorem dM_isSaid_79 : decode cM_isSaid 79 = .ok (.iload_n 2, 1) := by decide +kernel
theorem dM_isSaid_80 : decode cM_isSaid 80 = .ok (.bipush 16, 2) := by decide +kernel
theorem dM_isSaid_82 : decode cM_isSaid 82 = .ok (.if_icmp .ge 7, 3) := by decide +kernel
theorem dM_isSaid_85 : decode cM_isSaid 85 = .ok (.iconst 1, 1) := by decide +kernel
theorem dM_isSaid_86 : decode cM_isSaid 86 = .ok (.goto 16, 3) := by decide +kernel
theorem dM_isSaid_89 : decode cM_isSaid 89 = .ok (.iconst 0, 1) := by decide +kernel
theorem dM_isSaid_90 : decode cM_isSaid 90 = .ok (.goto 12, 3) := by decide +kernel
theorem dM_isSaid_93 : decode cM_isSaid 93 = .ok (.iload_n 2, 1) := by decide +kernel
theorem dM_isSaid_94 : decode cM_isSaid 94 = .ok (.ifCond .ne 7, 3) := by decide +kernel
theorem dM_isSaid_97 : decode cM_isSaid 97 = .ok (.iconst 1, 1) := by decide +kernel
theorem dM_isSaid_98 : decode cM_isSaid 98 = .ok (.goto 4, 3) := by decide +kernel
theorem dM_isSaid_101 : decode cM_isSaid 101 = .ok (.iconst 0, 1) := by decide +kernel
theorem dM_isSaid_102 : decode cM_isSaid 102 = .ok (.ireturn, 1) := by decide +kernel
theorem dM_trapsHere_0 : decode cM_trapsHere 0 = .ok (.aload_n 0, 1) := by decide +kernel
theorem dM_trapsHere_1 : decode cM_trapsHere 1 = .ok (.getfield 72, 3) := by decide +kernel
theorem dM_trapsHere_4 : decode cM_trapsHere 4 = .ok (.ifCond .ne 7, 3) := by decide +kernel
theorem dM_trapsHere_7 : decode cM_trapsHere 7 = .ok (.iconst 0, 1) := by decide +kernel
theorem dM_trapsHere_8 : decode cM_trapsHere 8 = .ok (.goto 46, 3) := by decide +kernel
theorem dM_trapsHere_11 : decode cM_trapsHere 11 = .ok (.aload_n 0, 1) := by decide +kernel
theorem dM_trapsHere_12 : decode cM_trapsHere 12 = .ok (.getfield 32, 3) := by decide +kernel
theorem dM_trapsHere_15 : decode cM_trapsHere 15 = .ok (.aload_n 0, 1) := by decide +kernel
theorem dM_trapsHere_16 : decode cM_trapsHere 16 = .ok (.getfield 41, 3) := by decide +kernel
theorem dM_trapsHere_19 : decode cM_trapsHere 19 = .ok (.aload_n 0, 1) := by decide +kernel
theorem dM_trapsHere_20 : decode cM_trapsHere 20 = .ok (.getfield 72, 3) := by decide +kernel
theorem dM_trapsHere_23 : decode cM_trapsHere 23 = .ok (.iconst 1, 1) := by decide +kernel
theorem dM_trapsHere_24 : decode cM_trapsHere 24 = .ok (.isub, 1) := by decide +kernel
theorem dM_trapsHere_25 : decode cM_trapsHere 25 = .ok (.iaload, 1) := by decide +kernel
theorem dM_trapsHere_26 : decode cM_trapsHere 26 = .ok (.iaload, 1) := by decide +kernel
theorem dM_trapsHere_27 : decode cM_trapsHere 27 = .ok (.aload_n 0, 1) := by decide +kernel
theorem dM_trapsHere_28 : decode cM_trapsHere 28 = .ok (.getfield 13, 3) := by decide +kernel
theorem dM_trapsHere_31 : decode cM_trapsHere 31 = .ok (.aload_n 0, 1) := by decide +kernel
theorem dM_trapsHere_32 : decode cM_trapsHere 32 = .ok (.getfield 41, 3) := by decide +kernel
theorem dM_trapsHere_35 : decode cM_trapsHere 35 = .ok (.aload_n 0, 1) := by decide +kernel
theorem dM_trapsHere_36 : decode cM_trapsHere 36 = .ok (.getfield 72, 3) := by decide +kernel
theorem dM_trapsHere_39 : decode cM_trapsHere 39 = .ok (.iconst 1, 1) := by decide +kernel
theorem dM_trapsHere_40 : decode cM_trapsHere 40 = .ok (.isub, 1) := by decide +kernel
theorem dM_trapsHere_41 : decode cM_trapsHere 41 = .ok (.iaload, 1) := by decide +kernel
theorem dM_trapsHere_42 : decode cM_trapsHere 42 = .ok (.iaload, 1) := by decide +kernel
theorem dM_trapsHere_43 : decode cM_trapsHere 43 = .ok (.bipush 9, 2) := by decide +kernel
theorem dM_trapsHere_45 : decode cM_trapsHere 45 = .ok (.if_icmp .ne 7, 3) := by decide +kernel
theorem dM_trapsHere_48 : decode cM_trapsHere 48 = .ok (.iconst 1, 1) := by decide +kernel
theorem dM_trapsHere_49 : decode cM_trapsHere 49 = .ok (.goto 4, 3) := by decide +kernel
theorem dM_trapsHere_52 : decode cM_trapsHere 52 = .ok (.iconst 0, 1) := by decide +kernel
theorem dM_trapsHere_53 : decode cM_trapsHere 53 = .ok (.iadd, 1) := by decide +kernel
theorem dM_trapsHere_54 : decode cM_trapsHere 54 = .ok (.ireturn, 1) := by decide +kernel
theorem dM_fails_0 : decode cM_fails 0 = .ok (.aload_n 0, 1) := by decide +kernel
theorem dM_fails_1 : decode cM_fails 1 = .ok (.iload_n 1, 1) := by decide +kernel
theorem dM_fails_2 : decode cM_fails 2 = .ok (.ifCond .eq 7, 3) := by decide +kernel
theorem dM_fails_5 : decode cM_fails 5 = .ok (.iconst 1, 1) := by decide +kernel
theorem dM_fails_6 : decode cM_fails 6 = .ok (.goto 12, 3) := by decide +kernel
theorem dM_fails_9 : decode cM_fails 9 = .ok (.iload_n 2, 1) := by decide +kernel
theorem dM_fails_10 : decode cM_fails 10 = .ok (.ifCond .eq 7, 3) := by decide +kernel
theorem dM_fails_13 : decode cM_fails 13 = .ok (.iconst 2, 1) := by decide +kernel
theorem dM_fails_14 : decode cM_fails 14 = .ok (.goto 4, 3) := by decide +kernel
theorem dM_fails_17 : decode cM_fails 17 = .ok (.iconst 0, 1) := by decide +kernel
theorem dM_fails_18 : decode cM_fails 18 = .ok (.putfield 69, 3) := by decide +kernel
theorem dM_fails_21 : decode cM_fails 21 = .ok (.aload_n 0, 1) := by decide +kernel
theorem dM_fails_22 : decode cM_fails 22 = .ok (.getfield 69, 3) := by decide +kernel
theorem dM_fails_25 : decode cM_fails 25 = .ok (.ifCond .le 7, 3) := by decide +kernel
theorem dM_fails_28 : decode cM_fails 28 = .ok (.iconst 1, 1) := by decide +kernel
theorem dM_fails_29 : decode cM_fails 29 = .ok (.goto 4, 3) := by decide +kernel
theorem dM_fails_32 : decode cM_fails 32 = .ok (.iconst 0, 1) := by decide +kernel
theorem dM_fails_33 : decode cM_fails 33 = .ok (.ireturn, 1) := by decide +kernel
theorem dM_partsOf_0 : decode cM_partsOf 0 = .ok (.iload_n 0, 1) := by decide +kernel
theorem dM_partsOf_1 : decode cM_partsOf 1 = .ok (.iconst 4, 1) := by decide +kernel
theorem dM_partsOf_2 : decode cM_partsOf 2 = .ok (.if_icmp .ge 7, 3) := by decide +kernel
theorem dM_partsOf_5 : decode cM_partsOf 5 = .ok (.iconst 0, 1) := by decide +kernel
theorem dM_partsOf_6 : decode cM_partsOf 6 = .ok (.goto 25, 3) := by decide +kernel
theorem dM_partsOf_9 : decode cM_partsOf 9 = .ok (.iload_n 0, 1) := by decide +kernel
theorem dM_partsOf_10 : decode cM_partsOf 10 = .ok (.iconst 4, 1) := by decide +kernel
theorem dM_partsOf_11 : decode cM_partsOf 11 = .ok (.if_icmp .eq 15, 3) := by decide +kernel
theorem dM_partsOf_14 : decode cM_partsOf 14 = .ok (.iload_n 0, 1) := by decide +kernel
theorem dM_partsOf_15 : decode cM_partsOf 15 = .ok (.bipush 6, 2) := by decide +kernel
theorem dM_partsOf_17 : decode cM_partsOf 17 = .ok (.if_icmp .eq 9, 3) := by decide +kernel
theorem dM_partsOf_20 : decode cM_partsOf 20 = .ok (.iload_n 0, 1) := by decide +kernel
theorem dM_partsOf_21 : decode cM_partsOf 21 = .ok (.bipush 7, 2) := by decide +kernel
theorem dM_partsOf_23 : decode cM_partsOf 23 = .ok (.if_icmp .ne 7, 3) := by decide +kernel
theorem dM_partsOf_26 : decode cM_partsOf 26 = .ok (.iconst 2, 1) := by decide +kernel
theorem dM_partsOf_27 : decode cM_partsOf 27 = .ok (.goto 4, 3) := by decide +kernel
theorem dM_partsOf_30 : decode cM_partsOf 30 = .ok (.iconst 1, 1) := by decide +kernel
theorem dM_partsOf_31 : decode cM_partsOf 31 = .ok (.ireturn, 1) := by decide +kernel
theorem dM_start_0 : decode cM_start 0 = .ok (.aload_n 0, 1) := by decide +kernel
theorem dM_start_1 : decode cM_start 1 = .ok (.aload_n 0, 1) := by decide +kernel
theorem dM_start_2 : decode cM_start 2 = .ok (.getfield 7, 3) := by decide +kernel
theorem dM_start_5 : decode cM_start 5 = .ok (.ifCond .le 7, 3) := by decide +kernel
theorem dM_start_8 : decode cM_start 8 = .ok (.iconst 1, 1) := by decide +kernel
theorem dM_start_9 : decode cM_start 9 = .ok (.goto 4, 3) := by decide +kernel
theorem dM_start_12 : decode cM_start 12 = .ok (.iconst 0, 1) := by decide +kernel
theorem dM_start_13 : decode cM_start 13 = .ok (.iconst 0, 1) := by decide +kernel
theorem dM_start_14 : decode cM_start 14 = .ok (.invokevirtual 83, 3) := by decide +kernel
theorem dM_start_17 : decode cM_start 17 = .ok (.ifCond .eq 5, 3) := by decide +kernel
theorem dM_start_20 : decode cM_start 20 = .ok (.iconst 0, 1) := by decide +kernel
theorem dM_start_21 : decode cM_start 21 = .ok (.ireturn, 1) := by decide +kernel
theorem dM_start_22 : decode cM_start 22 = .ok (.aload_n 0, 1) := by decide +kernel
theorem dM_start_23 : decode cM_start 23 = .ok (.iconst 0, 1) := by decide +kernel
theorem dM_start_24 : decode cM_start 24 = .ok (.invokevirtual 110, 3) := by decide +kernel
theorem dM_start_27 : decode cM_start 27 = .ok (.iconst 0, 1) := by decide +kernel
theorem dM_start_28 : decode cM_start 28 = .ok (.istore_n 1, 1) := by decide +kernel
theorem dM_start_29 : decode cM_start 29 = .ok (.iconst 0, 1) := by decide +kernel
theorem dM_start_30 : decode cM_start 30 = .ok (.istore_n 2, 1) := by decide +kernel
theorem dM_start_31 : decode cM_start 31 = .ok (.iload_n 2, 1) := by decide +kernel
theorem dM_start_32 : decode cM_start 32 = .ok (.aload_n 0, 1) := by decide +kernel
theorem dM_start_33 : decode cM_start 33 = .ok (.getfield 87, 3) := by decide +kernel
theorem dM_start_36 : decode cM_start 36 = .ok (.if_icmp .ge 44, 3) := by decide +kernel
theorem dM_start_39 : decode cM_start 39 = .ok (.aload_n 0, 1) := by decide +kernel
theorem dM_start_40 : decode cM_start 40 = .ok (.getfield 13, 3) := by decide +kernel
theorem dM_start_43 : decode cM_start 43 = .ok (.iload_n 2, 1) := by decide +kernel
theorem dM_start_44 : decode cM_start 44 = .ok (.iaload, 1) := by decide +kernel
theorem dM_start_45 : decode cM_start 45 = .ok (.bipush 8, 2) := by decide +kernel
theorem dM_start_47 : decode cM_start 47 = .ok (.if_icmp .eq 6, 3) := by decide +kernel
theorem dM_start_50 : decode cM_start 50 = .ok (.goto 24, 3) := by decide +kernel
theorem dM_start_53 : decode cM_start 53 = .ok (.iinc 1 1, 3) := by decide +kernel
theorem dM_start_56 : decode cM_start 56 = .ok (.aload_n 0, 1) := by decide +kernel
theorem dM_start_57 : decode cM_start 57 = .ok (.aload_n 0, 1) := by decide +kernel
theorem dM_start_58 : decode cM_start 58 = .ok (.getfield 20, 3) := by decide +kernel
theorem dM_start_61 : decode cM_start 61 = .ok (.iload_n 2, 1) := by decide +kernel
theorem dM_start_62 : decode cM_start 62 = .ok (.iaload, 1) := by decide +kernel
theorem dM_start_63 : decode cM_start 63 = .ok (.invokevirtual 100, 3) := by decide +kernel
theorem dM_start_66 : decode cM_start 66 = .ok (.iconst 1, 1) := by decide +kernel
theorem dM_start_67 : decode cM_start 67 = .ok (.iand, 1) := by decide +kernel
theorem dM_start_68 : decode cM_start 68 = .ok (.iconst 1, 1) := by decide +kernel
theorem dM_start_69 : decode cM_start 69 = .ok (.if_icmp .ne 5, 3) := by decide +kernel
theorem dM_start_72 : decode cM_start 72 = .ok (.iload_n 1, 1) := by decide +kernel
theorem dM_start_73 : decode cM_start 73 = .ok (.ireturn, 1) := by decide +kernel
theorem dM_start_74 : decode cM_start 74 = .ok (.iinc 2 1, 3) := by decide +kernel
theorem dM_start_77 : decode cM_start 77 = .ok (.goto (-46), 3) := by decide +kernel
theorem dM_start_80 : decode cM_start 80 = .ok (.aload_n 0, 1) := by decide +kernel
theorem dM_start_81 : decode cM_start 81 = .ok (.iconst 1, 1) := by decide +kernel
theorem dM_start_82 : decode cM_start 82 = .ok (.putfield 114, 3) := by decide +kernel
theorem dM_start_85 : decode cM_start 85 = .ok (.aload_n 0, 1) := by decide +kernel
theorem dM_start_86 : decode cM_start 86 = .ok (.iconst 1, 1) := by decide +kernel
theorem dM_start_87 : decode cM_start 87 = .ok (.putfield 117, 3) := by decide +kernel
theorem dM_start_90 : decode cM_start 90 = .ok (.iconst 0, 1) := by decide +kernel
theorem dM_start_91 : decode cM_start 91 = .ok (.ireturn, 1) := by decide +kernel
theorem dM_rest_0 : decode cM_rest 0 = .ok (.aload_n 0, 1) := by decide +kernel
theorem dM_rest_1 : decode cM_rest 1 = .ok (.iload_n 1, 1) := by decide +kernel
theorem dM_rest_2 : decode cM_rest 2 = .ok (.putfield 114, 3) := by decide +kernel
theorem dM_rest_5 : decode cM_rest 5 = .ok (.aload_n 0, 1) := by decide +kernel
theorem dM_rest_6 : decode cM_rest 6 = .ok (.iconst 0, 1) := by decide +kernel
theorem dM_rest_7 : decode cM_rest 7 = .ok (.putfield 121, 3) := by decide +kernel
theorem dM_rest_10 : decode cM_rest 10 = .ok (.iconst 0, 1) := by decide +kernel
theorem dM_rest_11 : decode cM_rest 11 = .ok (.istore_n 2, 1) := by decide +kernel
theorem dM_rest_12 : decode cM_rest 12 = .ok (.iload_n 2, 1) := by decide +kernel
theorem dM_rest_13 : decode cM_rest 13 = .ok (.bipush 32, 2) := by decide +kernel
theorem dM_rest_15 : decode cM_rest 15 = .ok (.if_icmp .ge 16, 3) := by decide +kernel
theorem dM_rest_18 : decode cM_rest 18 = .ok (.aload_n 0, 1) := by decide +kernel
theorem dM_rest_19 : decode cM_rest 19 = .ok (.getfield 47, 3) := by decide +kernel
theorem dM_rest_22 : decode cM_rest 22 = .ok (.iload_n 2, 1) := by decide +kernel
theorem dM_rest_23 : decode cM_rest 23 = .ok (.iconst 0, 1) := by decide +kernel
theorem dM_rest_24 : decode cM_rest 24 = .ok (.bastore, 1) := by decide +kernel
theorem dM_rest_25 : decode cM_rest 25 = .ok (.iinc 2 1, 3) := by decide +kernel
theorem dM_rest_28 : decode cM_rest 28 = .ok (.goto (-16), 3) := by decide +kernel
theorem dM_rest_31 : decode cM_rest 31 = .ok (.iconst 0, 1) := by decide +kernel
theorem dM_rest_32 : decode cM_rest 32 = .ok (.istore_n 2, 1) := by decide +kernel
theorem dM_rest_33 : decode cM_rest 33 = .ok (.iload_n 2, 1) := by decide +kernel
theorem dM_rest_34 : decode cM_rest 34 = .ok (.bipush 16, 2) := by decide +kernel
theorem dM_rest_36 : decode cM_rest 36 = .ok (.if_icmp .ge 16, 3) := by decide +kernel
theorem dM_rest_39 : decode cM_rest 39 = .ok (.aload_n 0, 1) := by decide +kernel
theorem dM_rest_40 : decode cM_rest 40 = .ok (.getfield 54, 3) := by decide +kernel
theorem dM_rest_43 : decode cM_rest 43 = .ok (.iload_n 2, 1) := by decide +kernel
theorem dM_rest_44 : decode cM_rest 44 = .ok (.iconst 0, 1) := by decide +kernel
theorem dM_rest_45 : decode cM_rest 45 = .ok (.iastore, 1) := by decide +kernel
theorem dM_rest_46 : decode cM_rest 46 = .ok (.iinc 2 1, 3) := by decide +kernel
theorem dM_rest_49 : decode cM_rest 49 = .ok (.goto (-16), 3) := by decide +kernel
theorem dM_rest_52 : decode cM_rest 52 = .ok (.return_, 1) := by decide +kernel
theorem dM_codes_0 : decode cM_codes 0 = .ok (.aload_n 0, 1) := by decide +kernel
theorem dM_codes_1 : decode cM_codes 1 = .ok (.getfield 20, 3) := by decide +kernel
theorem dM_codes_4 : decode cM_codes 4 = .ok (.iload_n 1, 1) := by decide +kernel
theorem dM_codes_5 : decode cM_codes 5 = .ok (.iaload, 1) := by decide +kernel
theorem dM_codes_6 : decode cM_codes 6 = .ok (.iconst (-1), 1) := by decide +kernel
theorem dM_codes_7 : decode cM_codes 7 = .ok (.if_icmp .ne 7, 3) := by decide +kernel
theorem dM_codes_10 : decode cM_codes 10 = .ok (.iconst 0, 1) := by decide +kernel
theorem dM_codes_11 : decode cM_codes 11 = .ok (.goto 13, 3) := by decide +kernel
theorem dM_codes_14 : decode cM_codes 14 = .ok (.aload_n 0, 1) := by decide +kernel
theorem dM_codes_15 : decode cM_codes 15 = .ok (.aload_n 0, 1) := by decide +kernel
theorem dM_codes_16 : decode cM_codes 16 = .ok (.getfield 20, 3) := by decide +kernel
theorem dM_codes_19 : decode cM_codes 19 = .ok (.iload_n 1, 1) := by decide +kernel
theorem dM_codes_20 : decode cM_codes 20 = .ok (.iaload, 1) := by decide +kernel
theorem dM_codes_21 : decode cM_codes 21 = .ok (.invokevirtual 100, 3) := by decide +kernel
theorem dM_codes_24 : decode cM_codes 24 = .ok (.istore_n 2, 1) := by decide +kernel
theorem dM_codes_25 : decode cM_codes 25 = .ok (.aload_n 0, 1) := by decide +kernel
theorem dM_codes_26 : decode cM_codes 26 = .ok (.getfield 23, 3) := by decide +kernel
theorem dM_codes_29 : decode cM_codes 29 = .ok (.iload_n 1, 1) := by decide +kernel
theorem dM_codes_30 : decode cM_codes 30 = .ok (.iaload, 1) := by decide +kernel
theorem dM_codes_31 : decode cM_codes 31 = .ok (.iconst (-1), 1) := by decide +kernel
theorem dM_codes_32 : decode cM_codes 32 = .ok (.if_icmp .ne 7, 3) := by decide +kernel
theorem dM_codes_35 : decode cM_codes 35 = .ok (.iconst 0, 1) := by decide +kernel
theorem dM_codes_36 : decode cM_codes 36 = .ok (.goto 13, 3) := by decide +kernel
theorem dM_codes_39 : decode cM_codes 39 = .ok (.aload_n 0, 1) := by decide +kernel
theorem dM_codes_40 : decode cM_codes 40 = .ok (.aload_n 0, 1) := by decide +kernel
theorem dM_codes_41 : decode cM_codes 41 = .ok (.getfield 23, 3) := by decide +kernel
theorem dM_codes_44 : decode cM_codes 44 = .ok (.iload_n 1, 1) := by decide +kernel
theorem dM_codes_45 : decode cM_codes 45 = .ok (.iaload, 1) := by decide +kernel
theorem dM_codes_46 : decode cM_codes 46 = .ok (.invokevirtual 100, 3) := by decide +kernel
theorem dM_codes_49 : decode cM_codes 49 = .ok (.istore_n 3, 1) := by decide +kernel
theorem dM_codes_50 : decode cM_codes 50 = .ok (.aload_n 0, 1) := by decide +kernel
theorem dM_codes_51 : decode cM_codes 51 = .ok (.getfield 13, 3) := by decide +kernel
theorem dM_codes_54 : decode cM_codes 54 = .ok (.iload_n 1, 1) := by decide +kernel
theorem dM_codes_55 : decode cM_codes 55 = .ok (.iaload, 1) := by decide +kernel
theorem dM_codes_56 : decode cM_codes 56 = .ok (.tableswitch 106 0 9 #[56, 58, 56, 60, 69, 106, 73, 90, 96, 101], 56) := by decide +kernel
theorem dM_codes_112 : decode cM_codes 112 = .ok (.iconst 1, 1) := by decide +kernel
theorem dM_codes_113 : decode cM_codes 113 = .ok (.ireturn, 1) := by decide +kernel
theorem dM_codes_114 : decode cM_codes 114 = .ok (.iconst 2, 1) := by decide +kernel
theorem dM_codes_115 : decode cM_codes 115 = .ok (.ireturn, 1) := by decide +kernel
theorem dM_codes_116 : decode cM_codes 116 = .ok (.iconst 4, 1) := by decide +kernel
theorem dM_codes_117 : decode cM_codes 117 = .ok (.aload_n 0, 1) := by decide +kernel
theorem dM_codes_118 : decode cM_codes 118 = .ok (.getfield 17, 3) := by decide +kernel
theorem dM_codes_121 : decode cM_codes 121 = .ok (.iload_n 1, 1) := by decide +kernel
theorem dM_codes_122 : decode cM_codes 122 = .ok (.iaload, 1) := by decide +kernel
theorem dM_codes_123 : decode cM_codes 123 = .ok (.ishl, 1) := by decide +kernel
theorem dM_codes_124 : decode cM_codes 124 = .ok (.ireturn, 1) := by decide +kernel
theorem dM_codes_125 : decode cM_codes 125 = .ok (.iload_n 2, 1) := by decide +kernel
theorem dM_codes_126 : decode cM_codes 126 = .ok (.iload_n 3, 1) := by decide +kernel
theorem dM_codes_127 : decode cM_codes 127 = .ok (.ior, 1) := by decide +kernel
theorem dM_codes_128 : decode cM_codes 128 = .ok (.ireturn, 1) := by decide +kernel
theorem dM_codes_129 : decode cM_codes 129 = .ok (.iload_n 2, 1) := by decide +kernel
theorem dM_codes_130 : decode cM_codes 130 = .ok (.iconst 1, 1) := by decide +kernel
theorem dM_codes_131 : decode cM_codes 131 = .ok (.iand, 1) := by decide +kernel
theorem dM_codes_132 : decode cM_codes 132 = .ok (.ifCond .ne 7, 3) := by decide +kernel
theorem dM_codes_135 : decode cM_codes 135 = .ok (.iload_n 2, 1) := by decide +kernel
theorem dM_codes_136 : decode cM_codes 136 = .ok (.goto 9, 3) := by decide +kernel
theorem dM_codes_139 : decode cM_codes 139 = .ok (.iload_n 2, 1) := by decide +kernel
theorem dM_codes_140 : decode cM_codes 140 = .ok (.bipush (-2), 2) := by decide +kernel
theorem dM_codes_142 : decode cM_codes 142 = .ok (.iand, 1) := by decide +kernel
theorem dM_codes_143 : decode cM_codes 143 = .ok (.iload_n 3, 1) := by decide +kernel
theorem dM_codes_144 : decode cM_codes 144 = .ok (.ior, 1) := by decide +kernel
theorem dM_codes_145 : decode cM_codes 145 = .ok (.ireturn, 1) := by decide +kernel
theorem dM_codes_146 : decode cM_codes 146 = .ok (.iload_n 2, 1) := by decide +kernel
theorem dM_codes_147 : decode cM_codes 147 = .ok (.iload_n 3, 1) := by decide +kernel
theorem dM_codes_148 : decode cM_codes 148 = .ok (.invokestatic 103, 3) := by decide +kernel
theorem dM_codes_151 : decode cM_codes 151 = .ok (.ireturn, 1) := by decide +kernel
theorem dM_codes_152 : decode cM_codes 152 = .ok (.iload_n 2, 1) := by decide +kernel
theorem dM_codes_153 : decode cM_codes 153 = .ok (.bipush (-2), 2) := by decide +kernel
theorem dM_codes_155 : decode cM_codes 155 = .ok (.iand, 1) := by decide +kernel
theorem dM_codes_156 : decode cM_codes 156 = .ok (.ireturn, 1) := by decide +kernel
theorem dM_codes_157 : decode cM_codes 157 = .ok (.iload_n 2, 1) := by decide +kernel
theorem dM_codes_158 : decode cM_codes 158 = .ok (.invokestatic 107, 3) := by decide +kernel
theorem dM_codes_161 : decode cM_codes 161 = .ok (.ireturn, 1) := by decide +kernel
theorem dM_codes_162 : decode cM_codes 162 = .ok (.iload_n 2, 1) := by decide +kernel
theorem dM_codes_163 : decode cM_codes 163 = .ok (.ireturn, 1) := by decide +kernel
theorem dM_pairs_0 : decode cM_pairs 0 = .ok (.iconst 0, 1) := by decide +kernel
theorem dM_pairs_1 : decode cM_pairs 1 = .ok (.istore_n 2, 1) := by decide +kernel
theorem dM_pairs_2 : decode cM_pairs 2 = .ok (.iconst 0, 1) := by decide +kernel
theorem dM_pairs_3 : decode cM_pairs 3 = .ok (.istore_n 3, 1) := by decide +kernel
theorem dM_pairs_4 : decode cM_pairs 4 = .ok (.iload_n 3, 1) := by decide +kernel
theorem dM_pairs_5 : decode cM_pairs 5 = .ok (.bipush 8, 2) := by decide +kernel
theorem dM_pairs_7 : decode cM_pairs 7 = .ok (.if_icmp .ge 65, 3) := by decide +kernel
theorem dM_pairs_10 : decode cM_pairs 10 = .ok (.iconst 0, 1) := by decide +kernel
theorem dM_pairs_11 : decode cM_pairs 11 = .ok (.istore 4, 2) := by decide +kernel
theorem dM_pairs_13 : decode cM_pairs 13 = .ok (.iload 4, 2) := by decide +kernel
theorem dM_pairs_15 : decode cM_pairs 15 = .ok (.bipush 8, 2) := by decide +kernel
theorem dM_pairs_17 : decode cM_pairs 17 = .ok (.if_icmp .ge 49, 3) := by decide +kernel
theorem dM_pairs_20 : decode cM_pairs 20 = .ok (.iload_n 0, 1) := by decide +kernel
theorem dM_pairs_21 : decode cM_pairs 21 = .ok (.iload_n 3, 1) := by decide +kernel
theorem dM_pairs_22 : decode cM_pairs 22 = .ok (.ishr, 1) := by decide +kernel
theorem dM_pairs_23 : decode cM_pairs 23 = .ok (.iconst 1, 1) := by decide +kernel
theorem dM_pairs_24 : decode cM_pairs 24 = .ok (.iand, 1) := by decide +kernel
theorem dM_pairs_25 : decode cM_pairs 25 = .ok (.iconst 1, 1) := by decide +kernel
theorem dM_pairs_26 : decode cM_pairs 26 = .ok (.if_icmp .ne 32, 3) := by decide +kernel
theorem dM_pairs_29 : decode cM_pairs 29 = .ok (.iload_n 1, 1) := by decide +kernel
theorem dM_pairs_30 : decode cM_pairs 30 = .ok (.iload 4, 2) := by decide +kernel
theorem dM_pairs_32 : decode cM_pairs 32 = .ok (.ishr, 1) := by decide +kernel
theorem dM_pairs_33 : decode cM_pairs 33 = .ok (.iconst 1, 1) := by decide +kernel
theorem dM_pairs_34 : decode cM_pairs 34 = .ok (.iand, 1) := by decide +kernel
theorem dM_pairs_35 : decode cM_pairs 35 = .ok (.iconst 1, 1) := by decide +kernel
theorem dM_pairs_36 : decode cM_pairs 36 = .ok (.if_icmp .ne 22, 3) := by decide +kernel
theorem dM_pairs_39 : decode cM_pairs 39 = .ok (.iload_n 2, 1) := by decide +kernel
theorem dM_pairs_40 : decode cM_pairs 40 = .ok (.iconst 1, 1) := by decide +kernel
theorem dM_pairs_41 : decode cM_pairs 41 = .ok (.iload_n 3, 1) := by decide +kernel
theorem dM_pairs_42 : decode cM_pairs 42 = .ok (.iload 4, 2) := by decide +kernel
theorem dM_pairs_44 : decode cM_pairs 44 = .ok (.if_icmp .le 7, 3) := by decide +kernel
theorem dM_pairs_47 : decode cM_pairs 47 = .ok (.iload_n 3, 1) := by decide +kernel
theorem dM_pairs_48 : decode cM_pairs 48 = .ok (.goto 5, 3) := by decide +kernel
theorem dM_pairs_51 : decode cM_pairs 51 = .ok (.iload 4, 2) := by decide +kernel
theorem dM_pairs_53 : decode cM_pairs 53 = .ok (.ishl, 1) := by decide +kernel
theorem dM_pairs_54 : decode cM_pairs 54 = .ok (.ior, 1) := by decide +kernel
theorem dM_pairs_55 : decode cM_pairs 55 = .ok (.goto 4, 3) := by decide +kernel
theorem dM_pairs_58 : decode cM_pairs 58 = .ok (.iload_n 2, 1) := by decide +kernel
theorem dM_pairs_59 : decode cM_pairs 59 = .ok (.istore_n 2, 1) := by decide +kernel
theorem dM_pairs_60 : decode cM_pairs 60 = .ok (.iinc 4 1, 3) := by decide +kernel
theorem dM_pairs_63 : decode cM_pairs 63 = .ok (.goto (-50), 3) := by decide +kernel
theorem dM_pairs_66 : decode cM_pairs 66 = .ok (.iinc 3 1, 3) := by decide +kernel
theorem dM_pairs_69 : decode cM_pairs 69 = .ok (.goto (-65), 3) := by decide +kernel
theorem dM_pairs_72 : decode cM_pairs 72 = .ok (.iload_n 2, 1) := by decide +kernel
theorem dM_pairs_73 : decode cM_pairs 73 = .ok (.ireturn, 1) := by decide +kernel
end
section
theorem dM_caught_0 : decode cM_caught 0 = .ok (.iload_n 0, 1) := by decide +kernel
theorem dM_caught_1 : decode cM_caught 1 = .ok (.iconst 3, 1) := by decide +kernel
theorem dM_caught_2 : decode cM_caught 2 = .ok (.iand, 1) := by decide +kernel
theorem dM_caught_3 : decode cM_caught 3 = .ok (.iload_n 0, 1) := by decide +kernel
theorem dM_caught_4 : decode cM_caught 4 = .ok (.iconst 2, 1) := by decide +kernel
theorem dM_caught_5 : decode cM_caught 5 = .ok (.ishr, 1) := by decide +kernel
theorem dM_caught_6 : decode cM_caught 6 = .ok (.iconst 1, 1) := by decide +kernel
theorem dM_caught_7 : decode cM_caught 7 = .ok (.iand, 1) := by decide +kernel
theorem dM_caught_8 : decode cM_caught 8 = .ok (.ior, 1) := by decide +kernel
theorem dM_caught_9 : decode cM_caught 9 = .ok (.iload_n 0, 1) := by decide +kernel
theorem dM_caught_10 : decode cM_caught 10 = .ok (.iconst 3, 1) := by decide +kernel
theorem dM_caught_11 : decode cM_caught 11 = .ok (.ishr, 1) := by decide +kernel
theorem dM_caught_12 : decode cM_caught 12 = .ok (.iconst 2, 1) := by decide +kernel
theorem dM_caught_13 : decode cM_caught 13 = .ok (.ishl, 1) := by decide +kernel
theorem dM_caught_14 : decode cM_caught 14 = .ok (.ior, 1) := by decide +kernel
theorem dM_caught_15 : decode cM_caught 15 = .ok (.ireturn, 1) := by decide +kernel
theorem dM_clear_0 : decode cM_clear 0 = .ok (.aload_n 0, 1) := by decide +kernel
theorem dM_clear_1 : decode cM_clear 1 = .ok (.iconst 0, 1) := by decide +kernel
theorem dM_clear_2 : decode cM_clear 2 = .ok (.putfield 69, 3) := by decide +kernel
theorem dM_clear_5 : decode cM_clear 5 = .ok (.aload_n 0, 1) := by decide +kernel
theorem dM_clear_6 : decode cM_clear 6 = .ok (.getfield 87, 3) := by decide +kernel
theorem dM_clear_9 : decode cM_clear 9 = .ok (.istore_n 1, 1) := by decide +kernel
theorem dM_clear_10 : decode cM_clear 10 = .ok (.aload_n 0, 1) := by decide +kernel
theorem dM_clear_11 : decode cM_clear 11 = .ok (.iconst 0, 1) := by decide +kernel
theorem dM_clear_12 : decode cM_clear 12 = .ok (.putfield 87, 3) := by decide +kernel
theorem dM_clear_15 : decode cM_clear 15 = .ok (.aload_n 0, 1) := by decide +kernel
theorem dM_clear_16 : decode cM_clear 16 = .ok (.iconst 0, 1) := by decide +kernel
theorem dM_clear_17 : decode cM_clear 17 = .ok (.putfield 90, 3) := by decide +kernel
theorem dM_clear_20 : decode cM_clear 20 = .ok (.aload_n 0, 1) := by decide +kernel
theorem dM_clear_21 : decode cM_clear 21 = .ok (.iconst 0, 1) := by decide +kernel
theorem dM_clear_22 : decode cM_clear 22 = .ok (.putfield 93, 3) := by decide +kernel
theorem dM_clear_25 : decode cM_clear 25 = .ok (.aload_n 0, 1) := by decide +kernel
theorem dM_clear_26 : decode cM_clear 26 = .ok (.iconst 1, 1) := by decide +kernel
theorem dM_clear_27 : decode cM_clear 27 = .ok (.putfield 7, 3) := by decide +kernel
theorem dM_clear_30 : decode cM_clear 30 = .ok (.aload_n 0, 1) := by decide +kernel
theorem dM_clear_31 : decode cM_clear 31 = .ok (.iconst 0, 1) := by decide +kernel
theorem dM_clear_32 : decode cM_clear 32 = .ok (.putfield 72, 3) := by decide +kernel
theorem dM_clear_35 : decode cM_clear 35 = .ok (.aload_n 0, 1) := by decide +kernel
theorem dM_clear_36 : decode cM_clear 36 = .ok (.iconst 0, 1) := by decide +kernel
theorem dM_clear_37 : decode cM_clear 37 = .ok (.invokevirtual 110, 3) := by decide +kernel
theorem dM_clear_40 : decode cM_clear 40 = .ok (.iload_n 1, 1) := by decide +kernel
theorem dM_clear_41 : decode cM_clear 41 = .ok (.ireturn, 1) := by decide +kernel
theorem dM_instant_0 : decode cM_instant 0 = .ok (.aload_n 0, 1) := by decide +kernel
theorem dM_instant_1 : decode cM_instant 1 = .ok (.getfield 114, 3) := by decide +kernel
theorem dM_instant_4 : decode cM_instant 4 = .ok (.iconst 1, 1) := by decide +kernel
theorem dM_instant_5 : decode cM_instant 5 = .ok (.if_icmp .ne 7, 3) := by decide +kernel
theorem dM_instant_8 : decode cM_instant 8 = .ok (.iconst 1, 1) := by decide +kernel
theorem dM_instant_9 : decode cM_instant 9 = .ok (.goto 4, 3) := by decide +kernel
theorem dM_instant_12 : decode cM_instant 12 = .ok (.iconst 0, 1) := by decide +kernel
theorem dM_instant_13 : decode cM_instant 13 = .ok (.istore_n 2, 1) := by decide +kernel
theorem dM_instant_14 : decode cM_instant 14 = .ok (.aload_n 0, 1) := by decide +kernel
theorem dM_instant_15 : decode cM_instant 15 = .ok (.iload_n 2, 1) := by decide +kernel
theorem dM_instant_16 : decode cM_instant 16 = .ok (.ifCond .ne 7, 3) := by decide +kernel
theorem dM_instant_19 : decode cM_instant 19 = .ok (.iconst 1, 1) := by decide +kernel
theorem dM_instant_20 : decode cM_instant 20 = .ok (.goto 4, 3) := by decide +kernel
theorem dM_instant_23 : decode cM_instant 23 = .ok (.iconst 0, 1) := by decide +kernel
theorem dM_instant_24 : decode cM_instant 24 = .ok (.iload_n 2, 1) := by decide +kernel
theorem dM_instant_25 : decode cM_instant 25 = .ok (.ifCond .eq 17, 3) := by decide +kernel
theorem dM_instant_28 : decode cM_instant 28 = .ok (.iload_n 1, 1) := by decide +kernel
theorem dM_instant_29 : decode cM_instant 29 = .ok (.ifCond .lt 9, 3) := by decide +kernel
theorem dM_instant_32 : decode cM_instant 32 = .ok (.iload_n 1, 1) := by decide +kernel
theorem dM_instant_33 : decode cM_instant 33 = .ok (.bipush 15, 2) := by decide +kernel
theorem dM_instant_35 : decode cM_instant 35 = .ok (.if_icmp .le 7, 3) := by decide +kernel
theorem dM_instant_38 : decode cM_instant 38 = .ok (.iconst 1, 1) := by decide +kernel
theorem dM_instant_39 : decode cM_instant 39 = .ok (.goto 4, 3) := by decide +kernel
theorem dM_instant_42 : decode cM_instant 42 = .ok (.iconst 0, 1) := by decide +kernel
theorem dM_instant_43 : decode cM_instant 43 = .ok (.invokevirtual 83, 3) := by decide +kernel
theorem dM_instant_46 : decode cM_instant 46 = .ok (.ifCond .eq 5, 3) := by decide +kernel
theorem dM_instant_49 : decode cM_instant 49 = .ok (.iconst 0, 1) := by decide +kernel
theorem dM_instant_50 : decode cM_instant 50 = .ok (.ireturn, 1) := by decide +kernel
theorem dM_instant_51 : decode cM_instant 51 = .ok (.aload_n 0, 1) := by decide +kernel
theorem dM_instant_52 : decode cM_instant 52 = .ok (.iload_n 1, 1) := by decide +kernel
theorem dM_instant_53 : decode cM_instant 53 = .ok (.invokevirtual 180, 3) := by decide +kernel
theorem dM_instant_56 : decode cM_instant 56 = .ok (.istore_n 3, 1) := by decide +kernel
theorem dM_instant_57 : decode cM_instant 57 = .ok (.iconst 0, 1) := by decide +kernel
theorem dM_instant_58 : decode cM_instant 58 = .ok (.istore 4, 2) := by decide +kernel
theorem dM_instant_60 : decode cM_instant 60 = .ok (.iload 4, 2) := by decide +kernel
theorem dM_instant_62 : decode cM_instant 62 = .ok (.bipush 16, 2) := by decide +kernel
theorem dM_instant_64 : decode cM_instant 64 = .ok (.if_icmp .ge 23, 3) := by decide +kernel
theorem dM_instant_67 : decode cM_instant 67 = .ok (.aload_n 0, 1) := by decide +kernel
theorem dM_instant_68 : decode cM_instant 68 = .ok (.getfield 54, 3) := by decide +kernel
theorem dM_instant_71 : decode cM_instant 71 = .ok (.iload 4, 2) := by decide +kernel
theorem dM_instant_73 : decode cM_instant 73 = .ok (.aload_n 0, 1) := by decide +kernel
theorem dM_instant_74 : decode cM_instant 74 = .ok (.getfield 57, 3) := by decide +kernel
theorem dM_instant_77 : decode cM_instant 77 = .ok (.iload 4, 2) := by decide +kernel
theorem dM_instant_79 : decode cM_instant 79 = .ok (.iaload, 1) := by decide +kernel
theorem dM_instant_80 : decode cM_instant 80 = .ok (.iastore, 1) := by decide +kernel
theorem dM_instant_81 : decode cM_instant 81 = .ok (.iinc 4 1, 3) := by decide +kernel
theorem dM_instant_84 : decode cM_instant 84 = .ok (.goto (-24), 3) := by decide +kernel
theorem dM_instant_87 : decode cM_instant 87 = .ok (.iload_n 3, 1) := by decide +kernel
theorem dM_instant_88 : decode cM_instant 88 = .ok (.iconst (-1), 1) := by decide +kernel
theorem dM_instant_89 : decode cM_instant 89 = .ok (.if_icmp .ne 5, 3) := by decide +kernel
theorem dM_instant_92 : decode cM_instant 92 = .ok (.iconst 2, 1) := by decide +kernel
theorem dM_instant_93 : decode cM_instant 93 = .ok (.ireturn, 1) := by decide +kernel
theorem dM_instant_94 : decode cM_instant 94 = .ok (.aload_n 0, 1) := by decide +kernel
theorem dM_instant_95 : decode cM_instant 95 = .ok (.dup, 1) := by decide +kernel
theorem dM_instant_96 : decode cM_instant 96 = .ok (.getfield 121, 3) := by decide +kernel
theorem dM_instant_99 : decode cM_instant 99 = .ok (.iconst 1, 1) := by decide +kernel
theorem dM_instant_100 : decode cM_instant 100 = .ok (.iadd, 1) := by decide +kernel
theorem dM_instant_101 : decode cM_instant 101 = .ok (.putfield 121, 3) := by decide +kernel
theorem dM_instant_104 : decode cM_instant 104 = .ok (.aload_n 0, 1) := by decide +kernel
theorem dM_instant_105 : decode cM_instant 105 = .ok (.iconst 0, 1) := by decide +kernel
theorem dM_instant_106 : decode cM_instant 106 = .ok (.putfield 117, 3) := by decide +kernel
theorem dM_instant_109 : decode cM_instant 109 = .ok (.iconst 0, 1) := by decide +kernel
theorem dM_instant_110 : decode cM_instant 110 = .ok (.istore 4, 2) := by decide +kernel
theorem dM_instant_112 : decode cM_instant 112 = .ok (.iload 4, 2) := by decide +kernel
theorem dM_instant_114 : decode cM_instant 114 = .ok (.bipush 32, 2) := by decide +kernel
theorem dM_instant_116 : decode cM_instant 116 = .ok (.if_icmp .ge 36, 3) := by decide +kernel
theorem dM_instant_119 : decode cM_instant 119 = .ok (.aload_n 0, 1) := by decide +kernel
theorem dM_instant_120 : decode cM_instant 120 = .ok (.getfield 47, 3) := by decide +kernel
theorem dM_instant_123 : decode cM_instant 123 = .ok (.iload 4, 2) := by decide +kernel
theorem dM_instant_125 : decode cM_instant 125 = .ok (.iload_n 3, 1) := by decide +kernel
theorem dM_instant_126 : decode cM_instant 126 = .ok (.iconst 1, 1) := by decide +kernel
theorem dM_instant_127 : decode cM_instant 127 = .ok (.if_icmp .ne 17, 3) := by decide +kernel
theorem dM_instant_130 : decode cM_instant 130 = .ok (.aload_n 0, 1) := by decide +kernel
theorem dM_instant_131 : decode cM_instant 131 = .ok (.getfield 51, 3) := by decide +kernel
theorem dM_instant_134 : decode cM_instant 134 = .ok (.iload 4, 2) := by decide +kernel
theorem dM_instant_136 : decode cM_instant 136 = .ok (.baload, 1) := by decide +kernel
theorem dM_instant_137 : decode cM_instant 137 = .ok (.ifCond .eq 7, 3) := by decide +kernel
theorem dM_instant_140 : decode cM_instant 140 = .ok (.iconst 1, 1) := by decide +kernel
theorem dM_instant_141 : decode cM_instant 141 = .ok (.goto 4, 3) := by decide +kernel
theorem dM_instant_144 : decode cM_instant 144 = .ok (.iconst 0, 1) := by decide +kernel
theorem dM_instant_145 : decode cM_instant 145 = .ok (.bastore, 1) := by decide +kernel
theorem dM_instant_146 : decode cM_instant 146 = .ok (.iinc 4 1, 3) := by decide +kernel
theorem dM_instant_149 : decode cM_instant 149 = .ok (.goto (-37), 3) := by decide +kernel
theorem dM_instant_152 : decode cM_instant 152 = .ok (.aload_n 0, 1) := by decide +kernel
theorem dM_instant_153 : decode cM_instant 153 = .ok (.iload_n 3, 1) := by decide +kernel
theorem dM_instant_154 : decode cM_instant 154 = .ok (.iconst 1, 1) := by decide +kernel
theorem dM_instant_155 : decode cM_instant 155 = .ok (.if_icmp .ne 7, 3) := by decide +kernel
theorem dM_instant_158 : decode cM_instant 158 = .ok (.iconst 1, 1) := by decide +kernel
theorem dM_instant_159 : decode cM_instant 159 = .ok (.goto 4, 3) := by decide +kernel
theorem dM_instant_162 : decode cM_instant 162 = .ok (.iconst 2, 1) := by decide +kernel
theorem dM_instant_163 : decode cM_instant 163 = .ok (.putfield 114, 3) := by decide +kernel
theorem dM_instant_166 : decode cM_instant 166 = .ok (.iload_n 3, 1) := by decide +kernel
theorem dM_instant_167 : decode cM_instant 167 = .ok (.iconst 1, 1) := by decide +kernel
theorem dM_instant_168 : decode cM_instant 168 = .ok (.if_icmp .ne 7, 3) := by decide +kernel
theorem dM_instant_171 : decode cM_instant 171 = .ok (.iconst 0, 1) := by decide +kernel
theorem dM_instant_172 : decode cM_instant 172 = .ok (.goto 4, 3) := by decide +kernel
theorem dM_instant_175 : decode cM_instant 175 = .ok (.iconst 1, 1) := by decide +kernel
theorem dM_instant_176 : decode cM_instant 176 = .ok (.ireturn, 1) := by decide +kernel
theorem dM_react_0 : decode cM_react 0 = .ok (.iconst 0, 1) := by decide +kernel
theorem dM_react_1 : decode cM_react 1 = .ok (.istore_n 2, 1) := by decide +kernel
theorem dM_react_2 : decode cM_react 2 = .ok (.iload_n 2, 1) := by decide +kernel
theorem dM_react_3 : decode cM_react 3 = .ok (.bipush 16, 2) := by decide +kernel
theorem dM_react_5 : decode cM_react 5 = .ok (.bipush 27, 2) := by decide +kernel
theorem dM_react_7 : decode cM_react 7 = .ok (.aload_n 0, 1) := by decide +kernel
theorem dM_react_8 : decode cM_react 8 = .ok (.getfield 87, 3) := by decide +kernel
theorem dM_react_11 : decode cM_react 11 = .ok (.imul, 1) := by decide +kernel
theorem dM_react_12 : decode cM_react 12 = .ok (.iadd, 1) := by decide +kernel
theorem dM_react_13 : decode cM_react 13 = .ok (.if_icmp .ge 29, 3) := by decide +kernel
theorem dM_react_16 : decode cM_react 16 = .ok (.aload_n 0, 1) := by decide +kernel
theorem dM_react_17 : decode cM_react 17 = .ok (.getfield 57, 3) := by decide +kernel
theorem dM_react_20 : decode cM_react 20 = .ok (.iload_n 2, 1) := by decide +kernel
theorem dM_react_21 : decode cM_react 21 = .ok (.iload_n 2, 1) := by decide +kernel
theorem dM_react_22 : decode cM_react 22 = .ok (.iconst 4, 1) := by decide +kernel
theorem dM_react_23 : decode cM_react 23 = .ok (.if_icmp .ge 11, 3) := by decide +kernel
theorem dM_react_26 : decode cM_react 26 = .ok (.iload_n 1, 1) := by decide +kernel
theorem dM_react_27 : decode cM_react 27 = .ok (.iload_n 2, 1) := by decide +kernel
theorem dM_react_28 : decode cM_react 28 = .ok (.ishr, 1) := by decide +kernel
theorem dM_react_29 : decode cM_react 29 = .ok (.iconst 1, 1) := by decide +kernel
theorem dM_react_30 : decode cM_react 30 = .ok (.iand, 1) := by decide +kernel
theorem dM_react_31 : decode cM_react 31 = .ok (.goto 4, 3) := by decide +kernel
theorem dM_react_34 : decode cM_react 34 = .ok (.iconst 2, 1) := by decide +kernel
theorem dM_react_35 : decode cM_react 35 = .ok (.iastore, 1) := by decide +kernel
theorem dM_react_36 : decode cM_react 36 = .ok (.iinc 2 1, 3) := by decide +kernel
theorem dM_react_39 : decode cM_react 39 = .ok (.goto (-37), 3) := by decide +kernel
theorem dM_react_42 : decode cM_react 42 = .ok (.iconst 1, 1) := by decide +kernel
theorem dM_react_43 : decode cM_react 43 = .ok (.istore_n 2, 1) := by decide +kernel
theorem dM_react_44 : decode cM_react 44 = .ok (.iconst (-1), 1) := by decide +kernel
theorem dM_react_45 : decode cM_react 45 = .ok (.istore_n 3, 1) := by decide +kernel
theorem dM_react_46 : decode cM_react 46 = .ok (.iload_n 2, 1) := by decide +kernel
theorem dM_react_47 : decode cM_react 47 = .ok (.ifCond .eq 124, 3) := by decide +kernel
theorem dM_react_50 : decode cM_react 50 = .ok (.iconst 0, 1) := by decide +kernel
theorem dM_react_51 : decode cM_react 51 = .ok (.istore 4, 2) := by decide +kernel
theorem dM_react_53 : decode cM_react 53 = .ok (.iload 4, 2) := by decide +kernel
theorem dM_react_55 : decode cM_react 55 = .ok (.bipush 16, 2) := by decide +kernel
theorem dM_react_57 : decode cM_react 57 = .ok (.bipush 27, 2) := by decide +kernel
theorem dM_react_59 : decode cM_react 59 = .ok (.aload_n 0, 1) := by decide +kernel
theorem dM_react_60 : decode cM_react 60 = .ok (.getfield 87, 3) := by decide +kernel
theorem dM_react_63 : decode cM_react 63 = .ok (.imul, 1) := by decide +kernel
theorem dM_react_64 : decode cM_react 64 = .ok (.iadd, 1) := by decide +kernel
theorem dM_react_65 : decode cM_react 65 = .ok (.if_icmp .ge 25, 3) := by decide +kernel
theorem dM_react_68 : decode cM_react 68 = .ok (.aload_n 0, 1) := by decide +kernel
theorem dM_react_69 : decode cM_react 69 = .ok (.getfield 60, 3) := by decide +kernel
theorem dM_react_72 : decode cM_react 72 = .ok (.iload 4, 2) := by decide +kernel
theorem dM_react_74 : decode cM_react 74 = .ok (.iconst 0, 1) := by decide +kernel
theorem dM_react_75 : decode cM_react 75 = .ok (.bastore, 1) := by decide +kernel
theorem dM_react_76 : decode cM_react 76 = .ok (.aload_n 0, 1) := by decide +kernel
theorem dM_react_77 : decode cM_react 77 = .ok (.getfield 63, 3) := by decide +kernel
theorem dM_react_80 : decode cM_react 80 = .ok (.iload 4, 2) := by decide +kernel
theorem dM_react_82 : decode cM_react 82 = .ok (.iconst 0, 1) := by decide +kernel
theorem dM_react_83 : decode cM_react 83 = .ok (.bastore, 1) := by decide +kernel
theorem dM_react_84 : decode cM_react 84 = .ok (.iinc 4 1, 3) := by decide +kernel
theorem dM_react_87 : decode cM_react 87 = .ok (.goto (-34), 3) := by decide +kernel
theorem dM_react_90 : decode cM_react 90 = .ok (.iconst 0, 1) := by decide +kernel
theorem dM_react_91 : decode cM_react 91 = .ok (.istore 4, 2) := by decide +kernel
theorem dM_react_93 : decode cM_react 93 = .ok (.iload 4, 2) := by decide +kernel
theorem dM_react_95 : decode cM_react 95 = .ok (.bipush 16, 2) := by decide +kernel
theorem dM_react_97 : decode cM_react 97 = .ok (.if_icmp .ge 18, 3) := by decide +kernel
theorem dM_react_100 : decode cM_react 100 = .ok (.aload_n 0, 1) := by decide +kernel
theorem dM_react_101 : decode cM_react 101 = .ok (.getfield 66, 3) := by decide +kernel
theorem dM_react_104 : decode cM_react 104 = .ok (.iload 4, 2) := by decide +kernel
theorem dM_react_106 : decode cM_react 106 = .ok (.iload 4, 2) := by decide +kernel
theorem dM_react_108 : decode cM_react 108 = .ok (.iastore, 1) := by decide +kernel
theorem dM_react_109 : decode cM_react 109 = .ok (.iinc 4 1, 3) := by decide +kernel
theorem dM_react_112 : decode cM_react 112 = .ok (.goto (-19), 3) := by decide +kernel
theorem dM_react_115 : decode cM_react 115 = .ok (.iconst 0, 1) := by decide +kernel
theorem dM_react_116 : decode cM_react 116 = .ok (.istore 4, 2) := by decide +kernel
theorem dM_react_118 : decode cM_react 118 = .ok (.iload 4, 2) := by decide +kernel
theorem dM_react_120 : decode cM_react 120 = .ok (.bipush 32, 2) := by decide +kernel
theorem dM_react_122 : decode cM_react 122 = .ok (.if_icmp .ge 17, 3) := by decide +kernel
theorem dM_react_125 : decode cM_react 125 = .ok (.aload_n 0, 1) := by decide +kernel
theorem dM_react_126 : decode cM_react 126 = .ok (.getfield 51, 3) := by decide +kernel
theorem dM_react_129 : decode cM_react 129 = .ok (.iload 4, 2) := by decide +kernel
theorem dM_react_131 : decode cM_react 131 = .ok (.iconst 0, 1) := by decide +kernel
theorem dM_react_132 : decode cM_react 132 = .ok (.bastore, 1) := by decide +kernel
theorem dM_react_133 : decode cM_react 133 = .ok (.iinc 4 1, 3) := by decide +kernel
theorem dM_react_136 : decode cM_react 136 = .ok (.goto (-18), 3) := by decide +kernel
theorem dM_react_139 : decode cM_react 139 = .ok (.aload_n 0, 1) := by decide +kernel
theorem dM_react_140 : decode cM_react 140 = .ok (.iconst 0, 1) := by decide +kernel
theorem dM_react_141 : decode cM_react 141 = .ok (.putfield 167, 3) := by decide +kernel
theorem dM_react_144 : decode cM_react 144 = .ok (.aload_n 0, 1) := by decide +kernel
theorem dM_react_145 : decode cM_react 145 = .ok (.iconst 0, 1) := by decide +kernel
theorem dM_react_146 : decode cM_react 146 = .ok (.putfield 173, 3) := by decide +kernel
theorem dM_react_149 : decode cM_react 149 = .ok (.aload_n 0, 1) := by decide +kernel
theorem dM_react_150 : decode cM_react 150 = .ok (.iconst 0, 1) := by decide +kernel
theorem dM_react_151 : decode cM_react 151 = .ok (.aload_n 0, 1) := by decide +kernel
theorem dM_react_152 : decode cM_react 152 = .ok (.getfield 117, 3) := by decide +kernel
theorem dM_react_155 : decode cM_react 155 = .ok (.iconst 1, 1) := by decide +kernel
theorem dM_react_156 : decode cM_react 156 = .ok (.invokevirtual 142, 3) := by decide +kernel
theorem dM_react_159 : decode cM_react 159 = .ok (.invokestatic 164, 3) := by decide +kernel
theorem dM_react_162 : decode cM_react 162 = .ok (.istore_n 3, 1) := by decide +kernel
theorem dM_react_163 : decode cM_react 163 = .ok (.aload_n 0, 1) := by decide +kernel
theorem dM_react_164 : decode cM_react 164 = .ok (.invokevirtual 176, 3) := by decide +kernel
theorem dM_react_167 : decode cM_react 167 = .ok (.istore_n 2, 1) := by decide +kernel
theorem dM_react_168 : decode cM_react 168 = .ok (.goto (-122), 3) := by decide +kernel
theorem dM_react_171 : decode cM_react 171 = .ok (.iconst 4, 1) := by decide +kernel
theorem dM_react_172 : decode cM_react 172 = .ok (.istore 4, 2) := by decide +kernel
theorem dM_react_174 : decode cM_react 174 = .ok (.iload 4, 2) := by decide +kernel
theorem dM_react_176 : decode cM_react 176 = .ok (.bipush 16, 2) := by decide +kernel
theorem dM_react_178 : decode cM_react 178 = .ok (.if_icmp .ge 36, 3) := by decide +kernel
theorem dM_react_181 : decode cM_react 181 = .ok (.aload_n 0, 1) := by decide +kernel
theorem dM_react_182 : decode cM_react 182 = .ok (.aload_n 0, 1) := by decide +kernel
theorem dM_react_183 : decode cM_react 183 = .ok (.getfield 173, 3) := by decide +kernel
theorem dM_react_186 : decode cM_react 186 = .ok (.ifCond .ne 14, 3) := by decide +kernel
theorem dM_react_189 : decode cM_react 189 = .ok (.aload_n 0, 1) := by decide +kernel
theorem dM_react_190 : decode cM_react 190 = .ok (.getfield 57, 3) := by decide +kernel
theorem dM_react_193 : decode cM_react 193 = .ok (.iload 4, 2) := by decide +kernel
theorem dM_react_195 : decode cM_react 195 = .ok (.iaload, 1) := by decide +kernel
theorem dM_react_196 : decode cM_react 196 = .ok (.iconst 2, 1) := by decide +kernel
theorem dM_react_197 : decode cM_react 197 = .ok (.if_icmp .ne 7, 3) := by decide +kernel
theorem dM_react_200 : decode cM_react 200 = .ok (.iconst 1, 1) := by decide +kernel
theorem dM_react_201 : decode cM_react 201 = .ok (.goto 4, 3) := by decide +kernel
theorem dM_react_204 : decode cM_react 204 = .ok (.iconst 0, 1) := by decide +kernel
theorem dM_react_205 : decode cM_react 205 = .ok (.putfield 173, 3) := by decide +kernel
theorem dM_react_208 : decode cM_react 208 = .ok (.iinc 4 1, 3) := by decide +kernel
theorem dM_react_211 : decode cM_react 211 = .ok (.goto (-37), 3) := by decide +kernel
theorem dM_react_214 : decode cM_react 214 = .ok (.aload_n 0, 1) := by decide +kernel
theorem dM_react_215 : decode cM_react 215 = .ok (.getfield 173, 3) := by decide +kernel
theorem dM_react_218 : decode cM_react 218 = .ok (.ifCond .eq 7, 3) := by decide +kernel
theorem dM_react_221 : decode cM_react 221 = .ok (.iconst (-1), 1) := by decide +kernel
theorem dM_react_222 : decode cM_react 222 = .ok (.goto 4, 3) := by decide +kernel
theorem dM_react_225 : decode cM_react 225 = .ok (.iload_n 3, 1) := by decide +kernel
theorem dM_react_226 : decode cM_react 226 = .ok (.ireturn, 1) := by decide +kernel
theorem dM_run_0 : decode cM_run 0 = .ok (.aload_n 0, 1) := by decide +kernel
theorem dM_run_1 : decode cM_run 1 = .ok (.getfield 13, 3) := by decide +kernel
theorem dM_run_4 : decode cM_run 4 = .ok (.iload_n 1, 1) := by decide +kernel
theorem dM_run_5 : decode cM_run 5 = .ok (.iaload, 1) := by decide +kernel
theorem dM_run_6 : decode cM_run 6 = .ok (.tableswitch 223 0 9 #[54, 61, 54, 54, 88, 96, 104, 162, 170, 215], 54) := by decide +kernel
theorem dM_run_60 : decode cM_run 60 = .ok (.aload_n 0, 1) := by decide +kernel
theorem dM_run_61 : decode cM_run 61 = .ok (.iload_n 1, 1) := by decide +kernel
theorem dM_run_62 : decode cM_run 62 = .ok (.iload_n 3, 1) := by decide +kernel
theorem dM_run_63 : decode cM_run 63 = .ok (.invokevirtual 127, 3) := by decide +kernel
theorem dM_run_66 : decode cM_run 66 = .ok (.ireturn, 1) := by decide +kernel
theorem dM_run_67 : decode cM_run 67 = .ok (.iload_n 2, 1) := by decide +kernel
theorem dM_run_68 : decode cM_run 68 = .ok (.ifCond .eq 12, 3) := by decide +kernel
theorem dM_run_71 : decode cM_run 71 = .ok (.aload_n 0, 1) := by decide +kernel
theorem dM_run_72 : decode cM_run 72 = .ok (.iload_n 1, 1) := by decide +kernel
theorem dM_run_73 : decode cM_run 73 = .ok (.iload_n 3, 1) := by decide +kernel
theorem dM_run_74 : decode cM_run 74 = .ok (.invokevirtual 127, 3) := by decide +kernel
theorem dM_run_77 : decode cM_run 77 = .ok (.goto 16, 3) := by decide +kernel
theorem dM_run_80 : decode cM_run 80 = .ok (.iconst 1, 1) := by decide +kernel
theorem dM_run_81 : decode cM_run 81 = .ok (.iload_n 3, 1) := by decide +kernel
theorem dM_run_82 : decode cM_run 82 = .ok (.ifCond .eq 7, 3) := by decide +kernel
theorem dM_run_85 : decode cM_run 85 = .ok (.iconst 0, 1) := by decide +kernel
theorem dM_run_86 : decode cM_run 86 = .ok (.goto 4, 3) := by decide +kernel
theorem dM_run_89 : decode cM_run 89 = .ok (.iconst (-1), 1) := by decide +kernel
theorem dM_run_90 : decode cM_run 90 = .ok (.invokestatic 124, 3) := by decide +kernel
theorem dM_run_93 : decode cM_run 93 = .ok (.ireturn, 1) := by decide +kernel
theorem dM_run_94 : decode cM_run 94 = .ok (.aload_n 0, 1) := by decide +kernel
theorem dM_run_95 : decode cM_run 95 = .ok (.iload_n 1, 1) := by decide +kernel
theorem dM_run_96 : decode cM_run 96 = .ok (.iload_n 2, 1) := by decide +kernel
theorem dM_run_97 : decode cM_run 97 = .ok (.iload_n 3, 1) := by decide +kernel
theorem dM_run_98 : decode cM_run 98 = .ok (.invokevirtual 131, 3) := by decide +kernel
theorem dM_run_101 : decode cM_run 101 = .ok (.ireturn, 1) := by decide +kernel
theorem dM_run_102 : decode cM_run 102 = .ok (.aload_n 0, 1) := by decide +kernel
theorem dM_run_103 : decode cM_run 103 = .ok (.iload_n 1, 1) := by decide +kernel
theorem dM_run_104 : decode cM_run 104 = .ok (.iload_n 2, 1) := by decide +kernel
theorem dM_run_105 : decode cM_run 105 = .ok (.iload_n 3, 1) := by decide +kernel
theorem dM_run_106 : decode cM_run 106 = .ok (.invokevirtual 135, 3) := by decide +kernel
theorem dM_run_109 : decode cM_run 109 = .ok (.ireturn, 1) := by decide +kernel
theorem dM_run_110 : decode cM_run 110 = .ok (.iload_n 2, 1) := by decide +kernel
theorem dM_run_111 : decode cM_run 111 = .ok (.ifCond .ne 16, 3) := by decide +kernel
theorem dM_run_114 : decode cM_run 114 = .ok (.aload_n 0, 1) := by decide +kernel
theorem dM_run_115 : decode cM_run 115 = .ok (.aload_n 0, 1) := by decide +kernel
theorem dM_run_116 : decode cM_run 116 = .ok (.getfield 20, 3) := by decide +kernel
theorem dM_run_119 : decode cM_run 119 = .ok (.iload_n 1, 1) := by decide +kernel
theorem dM_run_120 : decode cM_run 120 = .ok (.iaload, 1) := by decide +kernel
theorem dM_run_121 : decode cM_run 121 = .ok (.invokevirtual 138, 3) := by decide +kernel
theorem dM_run_124 : decode cM_run 124 = .ok (.ifCond .eq 31, 3) := by decide +kernel
theorem dM_run_127 : decode cM_run 127 = .ok (.aload_n 0, 1) := by decide +kernel
theorem dM_run_128 : decode cM_run 128 = .ok (.iload_n 1, 1) := by decide +kernel
theorem dM_run_129 : decode cM_run 129 = .ok (.aload_n 0, 1) := by decide +kernel
theorem dM_run_130 : decode cM_run 130 = .ok (.aload_n 0, 1) := by decide +kernel
theorem dM_run_131 : decode cM_run 131 = .ok (.getfield 20, 3) := by decide +kernel
theorem dM_run_134 : decode cM_run 134 = .ok (.iload_n 1, 1) := by decide +kernel
theorem dM_run_135 : decode cM_run 135 = .ok (.iaload, 1) := by decide +kernel
theorem dM_run_136 : decode cM_run 136 = .ok (.iload_n 2, 1) := by decide +kernel
theorem dM_run_137 : decode cM_run 137 = .ok (.iload_n 3, 1) := by decide +kernel
theorem dM_run_138 : decode cM_run 138 = .ok (.invokevirtual 142, 3) := by decide +kernel
theorem dM_run_141 : decode cM_run 141 = .ok (.aload_n 0, 1) := by decide +kernel
theorem dM_run_142 : decode cM_run 142 = .ok (.getfield 23, 3) := by decide +kernel
theorem dM_run_145 : decode cM_run 145 = .ok (.iload_n 1, 1) := by decide +kernel
theorem dM_run_146 : decode cM_run 146 = .ok (.iaload, 1) := by decide +kernel
theorem dM_run_147 : decode cM_run 147 = .ok (.iload_n 2, 1) := by decide +kernel
theorem dM_run_148 : decode cM_run 148 = .ok (.iload_n 3, 1) := by decide +kernel
theorem dM_run_149 : decode cM_run 149 = .ok (.invokevirtual 145, 3) := by decide +kernel
theorem dM_run_152 : decode cM_run 152 = .ok (.goto 15, 3) := by decide +kernel
theorem dM_run_155 : decode cM_run 155 = .ok (.aload_n 0, 1) := by decide +kernel
theorem dM_run_156 : decode cM_run 156 = .ok (.aload_n 0, 1) := by decide +kernel
theorem dM_run_157 : decode cM_run 157 = .ok (.getfield 23, 3) := by decide +kernel
theorem dM_run_160 : decode cM_run 160 = .ok (.iload_n 1, 1) := by decide +kernel
theorem dM_run_161 : decode cM_run 161 = .ok (.iaload, 1) := by decide +kernel
theorem dM_run_162 : decode cM_run 162 = .ok (.iconst 0, 1) := by decide +kernel
theorem dM_run_163 : decode cM_run 163 = .ok (.iload_n 3, 1) := by decide +kernel
theorem dM_run_164 : decode cM_run 164 = .ok (.invokevirtual 142, 3) := by decide +kernel
theorem dM_run_167 : decode cM_run 167 = .ok (.ireturn, 1) := by decide +kernel
theorem dM_run_168 : decode cM_run 168 = .ok (.aload_n 0, 1) := by decide +kernel
theorem dM_run_169 : decode cM_run 169 = .ok (.iload_n 1, 1) := by decide +kernel
theorem dM_run_170 : decode cM_run 170 = .ok (.iload_n 2, 1) := by decide +kernel
theorem dM_run_171 : decode cM_run 171 = .ok (.iload_n 3, 1) := by decide +kernel
theorem dM_run_172 : decode cM_run 172 = .ok (.invokevirtual 149, 3) := by decide +kernel
theorem dM_run_175 : decode cM_run 175 = .ok (.ireturn, 1) := by decide +kernel
theorem dM_run_176 : decode cM_run 176 = .ok (.iload_n 2, 1) := by decide +kernel
theorem dM_run_177 : decode cM_run 177 = .ok (.ifCond .eq 18, 3) := by decide +kernel
theorem dM_run_180 : decode cM_run 180 = .ok (.aload_n 0, 1) := by decide +kernel
theorem dM_run_181 : decode cM_run 181 = .ok (.aload_n 0, 1) := by decide +kernel
theorem dM_run_182 : decode cM_run 182 = .ok (.getfield 20, 3) := by decide +kernel
theorem dM_run_185 : decode cM_run 185 = .ok (.iload_n 1, 1) := by decide +kernel
theorem dM_run_186 : decode cM_run 186 = .ok (.iaload, 1) := by decide +kernel
theorem dM_run_187 : decode cM_run 187 = .ok (.iconst 1, 1) := by decide +kernel
theorem dM_run_188 : decode cM_run 188 = .ok (.iload_n 3, 1) := by decide +kernel
theorem dM_run_189 : decode cM_run 189 = .ok (.invokevirtual 142, 3) := by decide +kernel
theorem dM_run_192 : decode cM_run 192 = .ok (.goto 28, 3) := by decide +kernel
theorem dM_run_195 : decode cM_run 195 = .ok (.aload_n 0, 1) := by decide +kernel
theorem dM_run_196 : decode cM_run 196 = .ok (.iload_n 1, 1) := by decide +kernel
theorem dM_run_197 : decode cM_run 197 = .ok (.aload_n 0, 1) := by decide +kernel
theorem dM_run_198 : decode cM_run 198 = .ok (.aload_n 0, 1) := by decide +kernel
theorem dM_run_199 : decode cM_run 199 = .ok (.getfield 20, 3) := by decide +kernel
theorem dM_run_202 : decode cM_run 202 = .ok (.iload_n 1, 1) := by decide +kernel
theorem dM_run_203 : decode cM_run 203 = .ok (.iaload, 1) := by decide +kernel
theorem dM_run_204 : decode cM_run 204 = .ok (.iconst 0, 1) := by decide +kernel
theorem dM_run_205 : decode cM_run 205 = .ok (.iload_n 3, 1) := by decide +kernel
theorem dM_run_206 : decode cM_run 206 = .ok (.invokevirtual 142, 3) := by decide +kernel
theorem dM_run_209 : decode cM_run 209 = .ok (.aload_n 0, 1) := by decide +kernel
theorem dM_run_210 : decode cM_run 210 = .ok (.getfield 20, 3) := by decide +kernel
theorem dM_run_213 : decode cM_run 213 = .ok (.iload_n 1, 1) := by decide +kernel
theorem dM_run_214 : decode cM_run 214 = .ok (.iaload, 1) := by decide +kernel
theorem dM_run_215 : decode cM_run 215 = .ok (.iconst 0, 1) := by decide +kernel
theorem dM_run_216 : decode cM_run 216 = .ok (.iload_n 3, 1) := by decide +kernel
theorem dM_run_217 : decode cM_run 217 = .ok (.invokevirtual 145, 3) := by decide +kernel
theorem dM_run_220 : decode cM_run 220 = .ok (.ireturn, 1) := by decide +kernel
theorem dM_run_221 : decode cM_run 221 = .ok (.aload_n 0, 1) := by decide +kernel
theorem dM_run_222 : decode cM_run 222 = .ok (.iload_n 1, 1) := by decide +kernel
theorem dM_run_223 : decode cM_run 223 = .ok (.iload_n 2, 1) := by decide +kernel
theorem dM_run_224 : decode cM_run 224 = .ok (.iload_n 3, 1) := by decide +kernel
theorem dM_run_225 : decode cM_run 225 = .ok (.invokevirtual 152, 3) := by decide +kernel
theorem dM_run_228 : decode cM_run 228 = .ok (.ireturn, 1) := by decide +kernel
theorem dM_run_229 : decode cM_run 229 = .ok (.aload_n 0, 1) := by decide +kernel
theorem dM_run_230 : decode cM_run 230 = .ok (.iload_n 1, 1) := by decide +kernel
theorem dM_run_231 : decode cM_run 231 = .ok (.iload_n 2, 1) := by decide +kernel
theorem dM_run_232 : decode cM_run 232 = .ok (.iload_n 3, 1) := by decide +kernel
theorem dM_run_233 : decode cM_run 233 = .ok (.invokevirtual 155, 3) := by decide +kernel
theorem dM_run_236 : decode cM_run 236 = .ok (.ireturn, 1) := by decide +kernel
theorem dM_simple_0 : decode cM_simple 0 = .ok (.aload_n 0, 1) := by decide +kernel
theorem dM_simple_1 : decode cM_simple 1 = .ok (.getfield 13, 3) := by decide +kernel
theorem dM_simple_4 : decode cM_simple 4 = .ok (.iload_n 1, 1) := by decide +kernel
theorem dM_simple_5 : decode cM_simple 5 = .ok (.iaload, 1) := by decide +kernel
theorem dM_simple_6 : decode cM_simple 6 = .ok (.iconst 1, 1) := by decide +kernel
theorem dM_simple_7 : decode cM_simple 7 = .ok (.if_icmp .ne 7, 3) := by decide +kernel
theorem dM_simple_10 : decode cM_simple 10 = .ok (.iconst 1, 1) := by decide +kernel
theorem dM_simple_11 : decode cM_simple 11 = .ok (.goto 25, 3) := by decide +kernel
theorem dM_simple_14 : decode cM_simple 14 = .ok (.aload_n 0, 1) := by decide +kernel
theorem dM_simple_15 : decode cM_simple 15 = .ok (.getfield 13, 3) := by decide +kernel
theorem dM_simple_18 : decode cM_simple 18 = .ok (.iload_n 1, 1) := by decide +kernel
theorem dM_simple_19 : decode cM_simple 19 = .ok (.iaload, 1) := by decide +kernel
theorem dM_simple_20 : decode cM_simple 20 = .ok (.iconst 3, 1) := by decide +kernel
theorem dM_simple_21 : decode cM_simple 21 = .ok (.if_icmp .ne 14, 3) := by decide +kernel
theorem dM_simple_24 : decode cM_simple 24 = .ok (.iconst 2, 1) := by decide +kernel
theorem dM_simple_25 : decode cM_simple 25 = .ok (.aload_n 0, 1) := by decide +kernel
theorem dM_simple_26 : decode cM_simple 26 = .ok (.getfield 17, 3) := by decide +kernel
theorem dM_simple_29 : decode cM_simple 29 = .ok (.iload_n 1, 1) := by decide +kernel
theorem dM_simple_30 : decode cM_simple 30 = .ok (.iaload, 1) := by decide +kernel
theorem dM_simple_31 : decode cM_simple 31 = .ok (.iadd, 1) := by decide +kernel
theorem dM_simple_32 : decode cM_simple 32 = .ok (.goto 4, 3) := by decide +kernel
theorem dM_simple_35 : decode cM_simple 35 = .ok (.iconst 0, 1) := by decide +kernel
theorem dM_simple_36 : decode cM_simple 36 = .ok (.istore_n 3, 1) := by decide +kernel
theorem dM_simple_37 : decode cM_simple 37 = .ok (.aload_n 0, 1) := by decide +kernel
theorem dM_simple_38 : decode cM_simple 38 = .ok (.getfield 13, 3) := by decide +kernel
theorem dM_simple_41 : decode cM_simple 41 = .ok (.iload_n 1, 1) := by decide +kernel
theorem dM_simple_42 : decode cM_simple 42 = .ok (.iaload, 1) := by decide +kernel
theorem dM_simple_43 : decode cM_simple 43 = .ok (.iconst 2, 1) := by decide +kernel
theorem dM_simple_44 : decode cM_simple 44 = .ok (.if_icmp .ne 64, 3) := by decide +kernel
theorem dM_simple_47 : decode cM_simple 47 = .ok (.aload_n 0, 1) := by decide +kernel
theorem dM_simple_48 : decode cM_simple 48 = .ok (.getfield 63, 3) := by decide +kernel
theorem dM_simple_51 : decode cM_simple 51 = .ok (.aload_n 0, 1) := by decide +kernel
theorem dM_simple_52 : decode cM_simple 52 = .ok (.getfield 66, 3) := by decide +kernel
theorem dM_simple_55 : decode cM_simple 55 = .ok (.aload_n 0, 1) := by decide +kernel
theorem dM_simple_56 : decode cM_simple 56 = .ok (.getfield 17, 3) := by decide +kernel
theorem dM_simple_59 : decode cM_simple 59 = .ok (.iload_n 1, 1) := by decide +kernel
theorem dM_simple_60 : decode cM_simple 60 = .ok (.iaload, 1) := by decide +kernel
theorem dM_simple_61 : decode cM_simple 61 = .ok (.iaload, 1) := by decide +kernel
theorem dM_simple_62 : decode cM_simple 62 = .ok (.iconst 1, 1) := by decide +kernel
theorem dM_simple_63 : decode cM_simple 63 = .ok (.bastore, 1) := by decide +kernel
theorem dM_simple_64 : decode cM_simple 64 = .ok (.aload_n 0, 1) := by decide +kernel
theorem dM_simple_65 : decode cM_simple 65 = .ok (.getfield 60, 3) := by decide +kernel
theorem dM_simple_68 : decode cM_simple 68 = .ok (.aload_n 0, 1) := by decide +kernel
theorem dM_simple_69 : decode cM_simple 69 = .ok (.getfield 66, 3) := by decide +kernel
theorem dM_simple_72 : decode cM_simple 72 = .ok (.aload_n 0, 1) := by decide +kernel
theorem dM_simple_73 : decode cM_simple 73 = .ok (.getfield 17, 3) := by decide +kernel
theorem dM_simple_76 : decode cM_simple 76 = .ok (.iload_n 1, 1) := by decide +kernel
theorem dM_simple_77 : decode cM_simple 77 = .ok (.iaload, 1) := by decide +kernel
theorem dM_simple_78 : decode cM_simple 78 = .ok (.iaload, 1) := by decide +kernel
theorem dM_simple_79 : decode cM_simple 79 = .ok (.aload_n 0, 1) := by decide +kernel
theorem dM_simple_80 : decode cM_simple 80 = .ok (.getfield 60, 3) := by decide +kernel
theorem dM_simple_83 : decode cM_simple 83 = .ok (.aload_n 0, 1) := by decide +kernel
theorem dM_simple_84 : decode cM_simple 84 = .ok (.getfield 66, 3) := by decide +kernel
theorem dM_simple_87 : decode cM_simple 87 = .ok (.aload_n 0, 1) := by decide +kernel
theorem dM_simple_88 : decode cM_simple 88 = .ok (.getfield 17, 3) := by decide +kernel
theorem dM_simple_91 : decode cM_simple 91 = .ok (.iload_n 1, 1) := by decide +kernel
theorem dM_simple_92 : decode cM_simple 92 = .ok (.iaload, 1) := by decide +kernel
theorem dM_simple_93 : decode cM_simple 93 = .ok (.iaload, 1) := by decide +kernel
theorem dM_simple_94 : decode cM_simple 94 = .ok (.baload, 1) := by decide +kernel
theorem dM_simple_95 : decode cM_simple 95 = .ok (.ifCond .ne 7, 3) := by decide +kernel
theorem dM_simple_98 : decode cM_simple 98 = .ok (.iload_n 2, 1) := by decide +kernel
theorem dM_simple_99 : decode cM_simple 99 = .ok (.ifCond .eq 7, 3) := by decide +kernel
theorem dM_simple_102 : decode cM_simple 102 = .ok (.iconst 1, 1) := by decide +kernel
theorem dM_simple_103 : decode cM_simple 103 = .ok (.goto 4, 3) := by decide +kernel
theorem dM_simple_106 : decode cM_simple 106 = .ok (.iconst 0, 1) := by decide +kernel
theorem dM_simple_107 : decode cM_simple 107 = .ok (.bastore, 1) := by decide +kernel
theorem dM_simple_108 : decode cM_simple 108 = .ok (.aload_n 0, 1) := by decide +kernel
theorem dM_simple_109 : decode cM_simple 109 = .ok (.getfield 13, 3) := by decide +kernel
theorem dM_simple_112 : decode cM_simple 112 = .ok (.iload_n 1, 1) := by decide +kernel
theorem dM_simple_113 : decode cM_simple 113 = .ok (.iaload, 1) := by decide +kernel
theorem dM_simple_114 : decode cM_simple 114 = .ok (.iconst 1, 1) := by decide +kernel
theorem dM_simple_115 : decode cM_simple 115 = .ok (.if_icmp .ne 19, 3) := by decide +kernel
theorem dM_simple_118 : decode cM_simple 118 = .ok (.iload_n 2, 1) := by decide +kernel
theorem dM_simple_119 : decode cM_simple 119 = .ok (.ifCond .eq 15, 3) := by decide +kernel
theorem dM_simple_122 : decode cM_simple 122 = .ok (.aload_n 0, 1) := by decide +kernel
theorem dM_simple_123 : decode cM_simple 123 = .ok (.getfield 51, 3) := by decide +kernel
theorem dM_simple_126 : decode cM_simple 126 = .ok (.aload_n 0, 1) := by decide +kernel
theorem dM_simple_127 : decode cM_simple 127 = .ok (.getfield 38, 3) := by decide +kernel
theorem dM_simple_130 : decode cM_simple 130 = .ok (.iload_n 1, 1) := by decide +kernel
theorem dM_simple_131 : decode cM_simple 131 = .ok (.iaload, 1) := by decide +kernel
theorem dM_simple_132 : decode cM_simple 132 = .ok (.iconst 1, 1) := by decide +kernel
theorem dM_simple_133 : decode cM_simple 133 = .ok (.bastore, 1) := by decide +kernel
theorem dM_simple_134 : decode cM_simple 134 = .ok (.iconst 1, 1) := by decide +kernel
theorem dM_simple_135 : decode cM_simple 135 = .ok (.iload_n 3, 1) := by decide +kernel
theorem dM_simple_136 : decode cM_simple 136 = .ok (.ishl, 1) := by decide +kernel
theorem dM_simple_137 : decode cM_simple 137 = .ok (.iload_n 2, 1) := by decide +kernel
theorem dM_simple_138 : decode cM_simple 138 = .ok (.ifCond .eq 7, 3) := by decide +kernel
theorem dM_simple_141 : decode cM_simple 141 = .ok (.iload_n 3, 1) := by decide +kernel
theorem dM_simple_142 : decode cM_simple 142 = .ok (.goto 4, 3) := by decide +kernel
theorem dM_simple_145 : decode cM_simple 145 = .ok (.iconst (-1), 1) := by decide +kernel
theorem dM_simple_146 : decode cM_simple 146 = .ok (.invokestatic 124, 3) := by decide +kernel
theorem dM_simple_149 : decode cM_simple 149 = .ok (.ireturn, 1) := by decide +kernel
theorem dM_outcome_0 : decode cM_outcome 0 = .ok (.iload_n 0, 1) := by decide +kernel
theorem dM_outcome_1 : decode cM_outcome 1 = .ok (.iload_n 1, 1) := by decide +kernel
theorem dM_outcome_2 : decode cM_outcome 2 = .ok (.iconst 1, 1) := by decide +kernel
theorem dM_outcome_3 : decode cM_outcome 3 = .ok (.iadd, 1) := by decide +kernel
theorem dM_outcome_4 : decode cM_outcome 4 = .ok (.bipush 8, 2) := by decide +kernel
theorem dM_outcome_6 : decode cM_outcome 6 = .ok (.ishl, 1) := by decide +kernel
theorem dM_outcome_7 : decode cM_outcome 7 = .ok (.ior, 1) := by decide +kernel
theorem dM_outcome_8 : decode cM_outcome 8 = .ok (.ireturn, 1) := by decide +kernel
theorem dM_present_0 : decode cM_present 0 = .ok (.iload_n 2, 1) := by decide +kernel
theorem dM_present_1 : decode cM_present 1 = .ok (.ifCond .ne 38, 3) := by decide +kernel
theorem dM_present_4 : decode cM_present 4 = .ok (.aload_n 0, 1) := by decide +kernel
theorem dM_present_5 : decode cM_present 5 = .ok (.aload_n 0, 1) := by decide +kernel
theorem dM_present_6 : decode cM_present 6 = .ok (.aload_n 0, 1) := by decide +kernel
theorem dM_present_7 : decode cM_present 7 = .ok (.getfield 20, 3) := by decide +kernel
theorem dM_present_10 : decode cM_present 10 = .ok (.iload_n 1, 1) := by decide +kernel
theorem dM_present_11 : decode cM_present 11 = .ok (.iaload, 1) := by decide +kernel
theorem dM_present_12 : decode cM_present 12 = .ok (.invokevirtual 138, 3) := by decide +kernel
theorem dM_present_15 : decode cM_present 15 = .ok (.ifCond .eq 12, 3) := by decide +kernel
theorem dM_present_18 : decode cM_present 18 = .ok (.aload_n 0, 1) := by decide +kernel
theorem dM_present_19 : decode cM_present 19 = .ok (.getfield 20, 3) := by decide +kernel
theorem dM_present_22 : decode cM_present 22 = .ok (.iload_n 1, 1) := by decide +kernel
theorem dM_present_23 : decode cM_present 23 = .ok (.iaload, 1) := by decide +kernel
theorem dM_present_24 : decode cM_present 24 = .ok (.goto 9, 3) := by decide +kernel
theorem dM_present_27 : decode cM_present 27 = .ok (.aload_n 0, 1) := by decide +kernel
theorem dM_present_28 : decode cM_present 28 = .ok (.getfield 23, 3) := by decide +kernel
theorem dM_present_31 : decode cM_present 31 = .ok (.iload_n 1, 1) := by decide +kernel
theorem dM_present_32 : decode cM_present 32 = .ok (.iaload, 1) := by decide +kernel
theorem dM_present_33 : decode cM_present 33 = .ok (.iconst 0, 1) := by decide +kernel
theorem dM_present_34 : decode cM_present 34 = .ok (.iload_n 3, 1) := by decide +kernel
theorem dM_present_35 : decode cM_present 35 = .ok (.invokevirtual 142, 3) := by decide +kernel
theorem dM_present_38 : decode cM_present 38 = .ok (.ireturn, 1) := by decide +kernel
theorem dM_present_39 : decode cM_present 39 = .ok (.aload_n 0, 1) := by decide +kernel
theorem dM_present_40 : decode cM_present 40 = .ok (.aload_n 0, 1) := by decide +kernel
theorem dM_present_41 : decode cM_present 41 = .ok (.getfield 17, 3) := by decide +kernel
theorem dM_present_44 : decode cM_present 44 = .ok (.iload_n 1, 1) := by decide +kernel
theorem dM_present_45 : decode cM_present 45 = .ok (.iaload, 1) := by decide +kernel
theorem dM_present_46 : decode cM_present 46 = .ok (.invokevirtual 158, 3) := by decide +kernel
theorem dM_present_49 : decode cM_present 49 = .ok (.istore 4, 2) := by decide +kernel
theorem dM_present_51 : decode cM_present 51 = .ok (.iload 4, 2) := by decide +kernel
theorem dM_present_53 : decode cM_present 53 = .ok (.iconst 2, 1) := by decide +kernel
theorem dM_present_54 : decode cM_present 54 = .ok (.if_icmp .eq 31, 3) := by decide +kernel
theorem dM_present_57 : decode cM_present 57 = .ok (.aload_n 0, 1) := by decide +kernel
theorem dM_present_58 : decode cM_present 58 = .ok (.iload 4, 2) := by decide +kernel
theorem dM_present_60 : decode cM_present 60 = .ok (.iconst 1, 1) := by decide +kernel
theorem dM_present_61 : decode cM_present 61 = .ok (.if_icmp .ne 12, 3) := by decide +kernel
theorem dM_present_64 : decode cM_present 64 = .ok (.aload_n 0, 1) := by decide +kernel
theorem dM_present_65 : decode cM_present 65 = .ok (.getfield 20, 3) := by decide +kernel
theorem dM_present_68 : decode cM_present 68 = .ok (.iload_n 1, 1) := by decide +kernel
theorem dM_present_69 : decode cM_present 69 = .ok (.iaload, 1) := by decide +kernel
theorem dM_present_70 : decode cM_present 70 = .ok (.goto 9, 3) := by decide +kernel
theorem dM_present_73 : decode cM_present 73 = .ok (.aload_n 0, 1) := by decide +kernel
theorem dM_present_74 : decode cM_present 74 = .ok (.getfield 23, 3) := by decide +kernel
theorem dM_present_77 : decode cM_present 77 = .ok (.iload_n 1, 1) := by decide +kernel
theorem dM_present_78 : decode cM_present 78 = .ok (.iaload, 1) := by decide +kernel
theorem dM_present_79 : decode cM_present 79 = .ok (.iconst 1, 1) := by decide +kernel
theorem dM_present_80 : decode cM_present 80 = .ok (.iload_n 3, 1) := by decide +kernel
theorem dM_present_81 : decode cM_present 81 = .ok (.invokevirtual 142, 3) := by decide +kernel
theorem dM_present_84 : decode cM_present 84 = .ok (.ireturn, 1) := by decide +kernel
theorem dM_present_85 : decode cM_present 85 = .ok (.aload_n 0, 1) := by decide +kernel
theorem dM_present_86 : decode cM_present 86 = .ok (.aload_n 0, 1) := by decide +kernel
theorem dM_present_87 : decode cM_present 87 = .ok (.getfield 20, 3) := by decide +kernel
theorem dM_present_90 : decode cM_present 90 = .ok (.iload_n 1, 1) := by decide +kernel
theorem dM_present_91 : decode cM_present 91 = .ok (.iaload, 1) := by decide +kernel
theorem dM_present_92 : decode cM_present 92 = .ok (.iconst 1, 1) := by decide +kernel
theorem dM_present_93 : decode cM_present 93 = .ok (.iconst 0, 1) := by decide +kernel
theorem dM_present_94 : decode cM_present 94 = .ok (.invokevirtual 142, 3) := by decide +kernel
theorem dM_present_97 : decode cM_present 97 = .ok (.istore 5, 2) := by decide +kernel
theorem dM_present_99 : decode cM_present 99 = .ok (.aload_n 0, 1) := by decide +kernel
theorem dM_present_100 : decode cM_present 100 = .ok (.aload_n 0, 1) := by decide +kernel
theorem dM_present_101 : decode cM_present 101 = .ok (.getfield 23, 3) := by decide +kernel
theorem dM_present_104 : decode cM_present 104 = .ok (.iload_n 1, 1) := by decide +kernel
theorem dM_present_105 : decode cM_present 105 = .ok (.iaload, 1) := by decide +kernel
theorem dM_present_106 : decode cM_present 106 = .ok (.iconst 1, 1) := by decide +kernel
theorem dM_present_107 : decode cM_present 107 = .ok (.iconst 0, 1) := by decide +kernel
theorem dM_present_108 : decode cM_present 108 = .ok (.invokevirtual 142, 3) := by decide +kernel
theorem dM_present_111 : decode cM_present 111 = .ok (.istore 6, 2) := by decide +kernel
theorem dM_present_113 : decode cM_present 113 = .ok (.iload 5, 2) := by decide +kernel
theorem dM_present_115 : decode cM_present 115 = .ok (.invokestatic 161, 3) := by decide +kernel
theorem dM_present_118 : decode cM_present 118 = .ok (.iload 6, 2) := by decide +kernel
theorem dM_present_120 : decode cM_present 120 = .ok (.invokestatic 161, 3) := by decide +kernel
theorem dM_present_123 : decode cM_present 123 = .ok (.ior, 1) := by decide +kernel
theorem dM_present_124 : decode cM_present 124 = .ok (.iconst (-1), 1) := by decide +kernel
theorem dM_present_125 : decode cM_present 125 = .ok (.invokestatic 124, 3) := by decide +kernel
theorem dM_present_128 : decode cM_present 128 = .ok (.ireturn, 1) := by decide +kernel
theorem dM_has_0 : decode cM_has 0 = .ok (.iload_n 1, 1) := by decide +kernel
theorem dM_has_1 : decode cM_has 1 = .ok (.istore_n 2, 1) := by decide +kernel
theorem dM_has_2 : decode cM_has 2 = .ok (.iload_n 2, 1) := by decide +kernel
theorem dM_has_3 : decode cM_has 3 = .ok (.aload_n 0, 1) := by decide +kernel
theorem dM_has_4 : decode cM_has 4 = .ok (.getfield 26, 3) := by decide +kernel
theorem dM_has_7 : decode cM_has 7 = .ok (.iload_n 1, 1) := by decide +kernel
theorem dM_has_8 : decode cM_has 8 = .ok (.iaload, 1) := by decide +kernel
theorem dM_has_9 : decode cM_has 9 = .ok (.if_icmp .ge 35, 3) := by decide +kernel
theorem dM_has_12 : decode cM_has 12 = .ok (.aload_n 0, 1) := by decide +kernel
theorem dM_has_13 : decode cM_has 13 = .ok (.getfield 38, 3) := by decide +kernel
theorem dM_has_16 : decode cM_has 16 = .ok (.iload_n 2, 1) := by decide +kernel
theorem dM_has_17 : decode cM_has 17 = .ok (.iaload, 1) := by decide +kernel
theorem dM_has_18 : decode cM_has 18 = .ok (.iconst (-1), 1) := by decide +kernel
theorem dM_has_19 : decode cM_has 19 = .ok (.if_icmp .eq 19, 3) := by decide +kernel
theorem dM_has_22 : decode cM_has 22 = .ok (.aload_n 0, 1) := by decide +kernel
theorem dM_has_23 : decode cM_has 23 = .ok (.getfield 47, 3) := by decide +kernel
theorem dM_has_26 : decode cM_has 26 = .ok (.aload_n 0, 1) := by decide +kernel
theorem dM_has_27 : decode cM_has 27 = .ok (.getfield 38, 3) := by decide +kernel
theorem dM_has_30 : decode cM_has 30 = .ok (.iload_n 2, 1) := by decide +kernel
theorem dM_has_31 : decode cM_has 31 = .ok (.iaload, 1) := by decide +kernel
theorem dM_has_32 : decode cM_has 32 = .ok (.baload, 1) := by decide +kernel
theorem dM_has_33 : decode cM_has 33 = .ok (.ifCond .eq 5, 3) := by decide +kernel
theorem dM_has_36 : decode cM_has 36 = .ok (.iconst 1, 1) := by decide +kernel
theorem dM_has_37 : decode cM_has 37 = .ok (.ireturn, 1) := by decide +kernel
theorem dM_has_38 : decode cM_has 38 = .ok (.iinc 2 1, 3) := by decide +kernel
theorem dM_has_41 : decode cM_has 41 = .ok (.goto (-39), 3) := by decide +kernel
theorem dM_has_44 : decode cM_has 44 = .ok (.iconst 0, 1) := by decide +kernel
theorem dM_has_45 : decode cM_has 45 = .ok (.ireturn, 1) := by decide +kernel
theorem dM_test_0 : decode cM_test 0 = .ok (.aload_n 0, 1) := by decide +kernel
theorem dM_test_1 : decode cM_test 1 = .ok (.getfield 57, 3) := by decide +kernel
theorem dM_test_4 : decode cM_test 4 = .ok (.aload_n 0, 1) := by decide +kernel
theorem dM_test_5 : decode cM_test 5 = .ok (.getfield 66, 3) := by decide +kernel
theorem dM_test_8 : decode cM_test 8 = .ok (.iload_n 1, 1) := by decide +kernel
theorem dM_test_9 : decode cM_test 9 = .ok (.ifCond .ge 9, 3) := by decide +kernel
theorem dM_test_12 : decode cM_test 12 = .ok (.iconst (-1), 1) := by decide +kernel
theorem dM_test_13 : decode cM_test 13 = .ok (.iload_n 1, 1) := by decide +kernel
theorem dM_test_14 : decode cM_test 14 = .ok (.isub, 1) := by decide +kernel
theorem dM_test_15 : decode cM_test 15 = .ok (.goto 4, 3) := by decide +kernel
theorem dM_test_18 : decode cM_test 18 = .ok (.iload_n 1, 1) := by decide +kernel
theorem dM_test_19 : decode cM_test 19 = .ok (.iaload, 1) := by decide +kernel
theorem dM_test_20 : decode cM_test 20 = .ok (.iaload, 1) := by decide +kernel
theorem dM_test_21 : decode cM_test 21 = .ok (.istore_n 2, 1) := by decide +kernel
theorem dM_test_22 : decode cM_test 22 = .ok (.iload_n 2, 1) := by decide +kernel
theorem dM_test_23 : decode cM_test 23 = .ok (.iconst 2, 1) := by decide +kernel
theorem dM_test_24 : decode cM_test 24 = .ok (.if_icmp .eq 7, 3) := by decide +kernel
theorem dM_test_27 : decode cM_test 27 = .ok (.iload_n 1, 1) := by decide +kernel
theorem dM_test_28 : decode cM_test 28 = .ok (.ifCond .lt 7, 3) := by decide +kernel
theorem dM_test_31 : decode cM_test 31 = .ok (.iload_n 2, 1) := by decide +kernel
theorem dM_test_32 : decode cM_test 32 = .ok (.goto 6, 3) := by decide +kernel
theorem dM_test_35 : decode cM_test 35 = .ok (.iconst 1, 1) := by decide +kernel
theorem dM_test_36 : decode cM_test 36 = .ok (.iload_n 2, 1) := by decide +kernel
theorem dM_test_37 : decode cM_test 37 = .ok (.isub, 1) := by decide +kernel
theorem dM_test_38 : decode cM_test 38 = .ok (.ireturn, 1) := by decide +kernel
theorem dM_canOf_0 : decode cM_canOf 0 = .ok (.iload_n 0, 1) := by decide +kernel
theorem dM_canOf_1 : decode cM_canOf 1 = .ok (.sipush 255, 3) := by decide +kernel
theorem dM_canOf_4 : decode cM_canOf 4 = .ok (.iand, 1) := by decide +kernel
theorem dM_canOf_5 : decode cM_canOf 5 = .ok (.ireturn, 1) := by decide +kernel
theorem dM_suspend_0 : decode cM_suspend 0 = .ok (.iload_n 2, 1) := by decide +kernel
theorem dM_suspend_1 : decode cM_suspend 1 = .ok (.ifCond .eq 7, 3) := by decide +kernel
theorem dM_suspend_4 : decode cM_suspend 4 = .ok (.iconst 0, 1) := by decide +kernel
theorem dM_suspend_5 : decode cM_suspend 5 = .ok (.goto 13, 3) := by decide +kernel
theorem dM_suspend_8 : decode cM_suspend 8 = .ok (.aload_n 0, 1) := by decide +kernel
theorem dM_suspend_9 : decode cM_suspend 9 = .ok (.aload_n 0, 1) := by decide +kernel
theorem dM_suspend_10 : decode cM_suspend 10 = .ok (.getfield 17, 3) := by decide +kernel
theorem dM_suspend_13 : decode cM_suspend 13 = .ok (.iload_n 1, 1) := by decide +kernel
theorem dM_suspend_14 : decode cM_suspend 14 = .ok (.iaload, 1) := by decide +kernel
theorem dM_suspend_15 : decode cM_suspend 15 = .ok (.invokevirtual 158, 3) := by decide +kernel
theorem dM_suspend_18 : decode cM_suspend 18 = .ok (.istore 4, 2) := by decide +kernel
theorem dM_suspend_20 : decode cM_suspend 20 = .ok (.iload 4, 2) := by decide +kernel
theorem dM_suspend_22 : decode cM_suspend 22 = .ok (.ifCond .ne 16, 3) := by decide +kernel
theorem dM_suspend_25 : decode cM_suspend 25 = .ok (.aload_n 0, 1) := by decide +kernel
theorem dM_suspend_26 : decode cM_suspend 26 = .ok (.aload_n 0, 1) := by decide +kernel
theorem dM_suspend_27 : decode cM_suspend 27 = .ok (.getfield 20, 3) := by decide +kernel
theorem dM_suspend_30 : decode cM_suspend 30 = .ok (.iload_n 1, 1) := by decide +kernel
theorem dM_suspend_31 : decode cM_suspend 31 = .ok (.iaload, 1) := by decide +kernel
theorem dM_suspend_32 : decode cM_suspend 32 = .ok (.iload_n 2, 1) := by decide +kernel
theorem dM_suspend_33 : decode cM_suspend 33 = .ok (.iload_n 3, 1) := by decide +kernel
theorem dM_suspend_34 : decode cM_suspend 34 = .ok (.invokevirtual 142, 3) := by decide +kernel
theorem dM_suspend_37 : decode cM_suspend 37 = .ok (.ireturn, 1) := by decide +kernel
theorem dM_suspend_38 : decode cM_suspend 38 = .ok (.iload 4, 2) := by decide +kernel
theorem dM_suspend_40 : decode cM_suspend 40 = .ok (.iconst 2, 1) := by decide +kernel
theorem dM_suspend_41 : decode cM_suspend 41 = .ok (.if_icmp .ne 25, 3) := by decide +kernel
theorem dM_suspend_44 : decode cM_suspend 44 = .ok (.aload_n 0, 1) := by decide +kernel
theorem dM_suspend_45 : decode cM_suspend 45 = .ok (.aload_n 0, 1) := by decide +kernel
theorem dM_suspend_46 : decode cM_suspend 46 = .ok (.getfield 20, 3) := by decide +kernel
theorem dM_suspend_49 : decode cM_suspend 49 = .ok (.iload_n 1, 1) := by decide +kernel
theorem dM_suspend_50 : decode cM_suspend 50 = .ok (.iaload, 1) := by decide +kernel
theorem dM_suspend_51 : decode cM_suspend 51 = .ok (.iconst 0, 1) := by decide +kernel
theorem dM_suspend_52 : decode cM_suspend 52 = .ok (.iconst 0, 1) := by decide +kernel
theorem dM_suspend_53 : decode cM_suspend 53 = .ok (.invokevirtual 142, 3) := by decide +kernel
theorem dM_suspend_56 : decode cM_suspend 56 = .ok (.invokestatic 161, 3) := by decide +kernel
theorem dM_suspend_59 : decode cM_suspend 59 = .ok (.iconst 2, 1) := by decide +kernel
theorem dM_suspend_60 : decode cM_suspend 60 = .ok (.ior, 1) := by decide +kernel
theorem dM_suspend_61 : decode cM_suspend 61 = .ok (.iconst (-1), 1) := by decide +kernel
theorem dM_suspend_62 : decode cM_suspend 62 = .ok (.invokestatic 124, 3) := by decide +kernel
theorem dM_suspend_65 : decode cM_suspend 65 = .ok (.ireturn, 1) := by decide +kernel
theorem dM_suspend_66 : decode cM_suspend 66 = .ok (.iload_n 1, 1) := by decide +kernel
theorem dM_suspend_67 : decode cM_suspend 67 = .ok (.istore 5, 2) := by decide +kernel
theorem dM_suspend_69 : decode cM_suspend 69 = .ok (.iload 5, 2) := by decide +kernel
theorem dM_suspend_71 : decode cM_suspend 71 = .ok (.aload_n 0, 1) := by decide +kernel
theorem dM_suspend_72 : decode cM_suspend 72 = .ok (.getfield 26, 3) := by decide +kernel
theorem dM_suspend_75 : decode cM_suspend 75 = .ok (.iload_n 1, 1) := by decide +kernel
theorem dM_suspend_76 : decode cM_suspend 76 = .ok (.iaload, 1) := by decide +kernel
theorem dM_suspend_77 : decode cM_suspend 77 = .ok (.if_icmp .ge 48, 3) := by decide +kernel
theorem dM_suspend_80 : decode cM_suspend 80 = .ok (.iload_n 3, 1) := by decide +kernel
theorem dM_suspend_81 : decode cM_suspend 81 = .ok (.ifCond .eq 44, 3) := by decide +kernel
theorem dM_suspend_84 : decode cM_suspend 84 = .ok (.aload_n 0, 1) := by decide +kernel
theorem dM_suspend_85 : decode cM_suspend 85 = .ok (.getfield 38, 3) := by decide +kernel
theorem dM_suspend_88 : decode cM_suspend 88 = .ok (.iload 5, 2) := by decide +kernel
theorem dM_suspend_90 : decode cM_suspend 90 = .ok (.iaload, 1) := by decide +kernel
theorem dM_suspend_91 : decode cM_suspend 91 = .ok (.iconst (-1), 1) := by decide +kernel
theorem dM_suspend_92 : decode cM_suspend 92 = .ok (.if_icmp .eq 27, 3) := by decide +kernel
theorem dM_suspend_95 : decode cM_suspend 95 = .ok (.aload_n 0, 1) := by decide +kernel
theorem dM_suspend_96 : decode cM_suspend 96 = .ok (.getfield 51, 3) := by decide +kernel
theorem dM_suspend_99 : decode cM_suspend 99 = .ok (.aload_n 0, 1) := by decide +kernel
theorem dM_suspend_100 : decode cM_suspend 100 = .ok (.getfield 38, 3) := by decide +kernel
theorem dM_suspend_103 : decode cM_suspend 103 = .ok (.iload 5, 2) := by decide +kernel
theorem dM_suspend_105 : decode cM_suspend 105 = .ok (.iaload, 1) := by decide +kernel
theorem dM_suspend_106 : decode cM_suspend 106 = .ok (.aload_n 0, 1) := by decide +kernel
theorem dM_suspend_107 : decode cM_suspend 107 = .ok (.getfield 47, 3) := by decide +kernel
theorem dM_suspend_110 : decode cM_suspend 110 = .ok (.aload_n 0, 1) := by decide +kernel
theorem dM_suspend_111 : decode cM_suspend 111 = .ok (.getfield 38, 3) := by decide +kernel
theorem dM_suspend_114 : decode cM_suspend 114 = .ok (.iload 5, 2) := by decide +kernel
theorem dM_suspend_116 : decode cM_suspend 116 = .ok (.iaload, 1) := by decide +kernel
theorem dM_suspend_117 : decode cM_suspend 117 = .ok (.baload, 1) := by decide +kernel
theorem dM_suspend_118 : decode cM_suspend 118 = .ok (.bastore, 1) := by decide +kernel
theorem dM_suspend_119 : decode cM_suspend 119 = .ok (.iinc 5 1, 3) := by decide +kernel
theorem dM_suspend_122 : decode cM_suspend 122 = .ok (.goto (-53), 3) := by decide +kernel
theorem dM_suspend_125 : decode cM_suspend 125 = .ok (.iconst 2, 1) := by decide +kernel
theorem dM_suspend_126 : decode cM_suspend 126 = .ok (.iload_n 3, 1) := by decide +kernel
theorem dM_suspend_127 : decode cM_suspend 127 = .ok (.ifCond .eq 7, 3) := by decide +kernel
theorem dM_suspend_130 : decode cM_suspend 130 = .ok (.iconst 1, 1) := by decide +kernel
theorem dM_suspend_131 : decode cM_suspend 131 = .ok (.goto 4, 3) := by decide +kernel
theorem dM_suspend_134 : decode cM_suspend 134 = .ok (.iconst (-1), 1) := by decide +kernel
theorem dM_suspend_135 : decode cM_suspend 135 = .ok (.invokestatic 124, 3) := by decide +kernel
theorem dM_suspend_138 : decode cM_suspend 138 = .ok (.ireturn, 1) := by decide +kernel
theorem dM_behind_0 : decode cM_behind 0 = .ok (.iload_n 2, 1) := by decide +kernel
theorem dM_behind_1 : decode cM_behind 1 = .ok (.invokestatic 164, 3) := by decide +kernel
theorem dM_behind_4 : decode cM_behind 4 = .ok (.ifCond .ne 7, 3) := by decide +kernel
theorem dM_behind_7 : decode cM_behind 7 = .ok (.iconst 1, 1) := by decide +kernel
theorem dM_behind_8 : decode cM_behind 8 = .ok (.goto 4, 3) := by decide +kernel
theorem dM_behind_11 : decode cM_behind 11 = .ok (.iconst 0, 1) := by decide +kernel
theorem dM_behind_12 : decode cM_behind 12 = .ok (.istore 6, 2) := by decide +kernel
theorem dM_behind_14 : decode cM_behind 14 = .ok (.iload_n 2, 1) := by decide +kernel
theorem dM_behind_15 : decode cM_behind 15 = .ok (.invokestatic 161, 3) := by decide +kernel
theorem dM_behind_18 : decode cM_behind 18 = .ok (.iconst 1, 1) := by decide +kernel
theorem dM_behind_19 : decode cM_behind 19 = .ok (.iand, 1) := by decide +kernel
theorem dM_behind_20 : decode cM_behind 20 = .ok (.ifCond .ne 5, 3) := by decide +kernel
theorem dM_behind_23 : decode cM_behind 23 = .ok (.iload_n 2, 1) := by decide +kernel
theorem dM_behind_24 : decode cM_behind 24 = .ok (.ireturn, 1) := by decide +kernel
theorem dM_behind_25 : decode cM_behind 25 = .ok (.aload_n 0, 1) := by decide +kernel
theorem dM_behind_26 : decode cM_behind 26 = .ok (.getfield 167, 3) := by decide +kernel
theorem dM_behind_29 : decode cM_behind 29 = .ok (.istore 7, 2) := by decide +kernel
theorem dM_behind_31 : decode cM_behind 31 = .ok (.aload_n 0, 1) := by decide +kernel
theorem dM_behind_32 : decode cM_behind 32 = .ok (.iload 4, 2) := by decide +kernel
theorem dM_behind_34 : decode cM_behind 34 = .ok (.ifCond .eq 10, 3) := by decide +kernel
theorem dM_behind_37 : decode cM_behind 37 = .ok (.aload_n 0, 1) := by decide +kernel
theorem dM_behind_38 : decode cM_behind 38 = .ok (.getfield 167, 3) := by decide +kernel
theorem dM_behind_41 : decode cM_behind 41 = .ok (.goto 11, 3) := by decide +kernel
theorem dM_behind_44 : decode cM_behind 44 = .ok (.iconst 1, 1) := by decide +kernel
theorem dM_behind_45 : decode cM_behind 45 = .ok (.aload_n 0, 1) := by decide +kernel
theorem dM_behind_46 : decode cM_behind 46 = .ok (.getfield 29, 3) := by decide +kernel
theorem dM_behind_49 : decode cM_behind 49 = .ok (.iload_n 1, 1) := by decide +kernel
theorem dM_behind_50 : decode cM_behind 50 = .ok (.iaload, 1) := by decide +kernel
theorem dM_behind_51 : decode cM_behind 51 = .ok (.iadd, 1) := by decide +kernel
theorem dM_behind_52 : decode cM_behind 52 = .ok (.putfield 167, 3) := by decide +kernel
theorem dM_behind_55 : decode cM_behind 55 = .ok (.aload_n 0, 1) := by decide +kernel
theorem dM_behind_56 : decode cM_behind 56 = .ok (.iload_n 3, 1) := by decide +kernel
theorem dM_behind_57 : decode cM_behind 57 = .ok (.iconst 1, 1) := by decide +kernel
theorem dM_behind_58 : decode cM_behind 58 = .ok (.iload 5, 2) := by decide +kernel
theorem dM_behind_60 : decode cM_behind 60 = .ok (.ifCond .eq 12, 3) := by decide +kernel
theorem dM_behind_63 : decode cM_behind 63 = .ok (.iload 6, 2) := by decide +kernel
theorem dM_behind_65 : decode cM_behind 65 = .ok (.ifCond .eq 7, 3) := by decide +kernel
theorem dM_behind_68 : decode cM_behind 68 = .ok (.iconst 1, 1) := by decide +kernel
theorem dM_behind_69 : decode cM_behind 69 = .ok (.goto 4, 3) := by decide +kernel
theorem dM_behind_72 : decode cM_behind 72 = .ok (.iconst 0, 1) := by decide +kernel
theorem dM_behind_73 : decode cM_behind 73 = .ok (.invokevirtual 142, 3) := by decide +kernel
theorem dM_behind_76 : decode cM_behind 76 = .ok (.istore 8, 2) := by decide +kernel
theorem dM_behind_78 : decode cM_behind 78 = .ok (.aload_n 0, 1) := by decide +kernel
theorem dM_behind_79 : decode cM_behind 79 = .ok (.iload 7, 2) := by decide +kernel
theorem dM_behind_81 : decode cM_behind 81 = .ok (.putfield 167, 3) := by decide +kernel
theorem dM_behind_84 : decode cM_behind 84 = .ok (.iload_n 2, 1) := by decide +kernel
theorem dM_behind_85 : decode cM_behind 85 = .ok (.invokestatic 161, 3) := by decide +kernel
theorem dM_behind_88 : decode cM_behind 88 = .ok (.bipush (-2), 2) := by decide +kernel
theorem dM_behind_90 : decode cM_behind 90 = .ok (.iand, 1) := by decide +kernel
theorem dM_behind_91 : decode cM_behind 91 = .ok (.iload 8, 2) := by decide +kernel
theorem dM_behind_93 : decode cM_behind 93 = .ok (.invokestatic 161, 3) := by decide +kernel
theorem dM_behind_96 : decode cM_behind 96 = .ok (.ior, 1) := by decide +kernel
theorem dM_behind_97 : decode cM_behind 97 = .ok (.iload 6, 2) := by decide +kernel
theorem dM_behind_99 : decode cM_behind 99 = .ok (.ifCond .eq 11, 3) := by decide +kernel
theorem dM_behind_102 : decode cM_behind 102 = .ok (.iload 8, 2) := by decide +kernel
theorem dM_behind_104 : decode cM_behind 104 = .ok (.invokestatic 164, 3) := by decide +kernel
theorem dM_behind_107 : decode cM_behind 107 = .ok (.goto 7, 3) := by decide +kernel
theorem dM_behind_110 : decode cM_behind 110 = .ok (.iload_n 2, 1) := by decide +kernel
theorem dM_behind_111 : decode cM_behind 111 = .ok (.invokestatic 164, 3) := by decide +kernel
theorem dM_behind_114 : decode cM_behind 114 = .ok (.invokestatic 124, 3) := by decide +kernel
theorem dM_behind_117 : decode cM_behind 117 = .ok (.ireturn, 1) := by decide +kernel
theorem dM_mustOf_0 : decode cM_mustOf 0 = .ok (.iload_n 0, 1) := by decide +kernel
theorem dM_mustOf_1 : decode cM_mustOf 1 = .ok (.bipush 8, 2) := by decide +kernel
theorem dM_mustOf_3 : decode cM_mustOf 3 = .ok (.ishr, 1) := by decide +kernel
theorem dM_mustOf_4 : decode cM_mustOf 4 = .ok (.iconst 1, 1) := by decide +kernel
theorem dM_mustOf_5 : decode cM_mustOf 5 = .ok (.isub, 1) := by decide +kernel
theorem dM_mustOf_6 : decode cM_mustOf 6 = .ok (.ireturn, 1) := by decide +kernel
theorem dM_parallel_0 : decode cM_parallel 0 = .ok (.aload_n 0, 1) := by decide +kernel
theorem dM_parallel_1 : decode cM_parallel 1 = .ok (.aload_n 0, 1) := by decide +kernel
theorem dM_parallel_2 : decode cM_parallel 2 = .ok (.getfield 20, 3) := by decide +kernel
theorem dM_parallel_5 : decode cM_parallel 5 = .ok (.iload_n 1, 1) := by decide +kernel
theorem dM_parallel_6 : decode cM_parallel 6 = .ok (.iaload, 1) := by decide +kernel
theorem dM_parallel_7 : decode cM_parallel 7 = .ok (.iload_n 2, 1) := by decide +kernel
theorem dM_parallel_8 : decode cM_parallel 8 = .ok (.iload_n 3, 1) := by decide +kernel
theorem dM_parallel_9 : decode cM_parallel 9 = .ok (.invokevirtual 170, 3) := by decide +kernel
theorem dM_parallel_12 : decode cM_parallel 12 = .ok (.istore 4, 2) := by decide +kernel
theorem dM_parallel_14 : decode cM_parallel 14 = .ok (.aload_n 0, 1) := by decide +kernel
theorem dM_parallel_15 : decode cM_parallel 15 = .ok (.aload_n 0, 1) := by decide +kernel
theorem dM_parallel_16 : decode cM_parallel 16 = .ok (.getfield 23, 3) := by decide +kernel
theorem dM_parallel_19 : decode cM_parallel 19 = .ok (.iload_n 1, 1) := by decide +kernel
theorem dM_parallel_20 : decode cM_parallel 20 = .ok (.iaload, 1) := by decide +kernel
theorem dM_parallel_21 : decode cM_parallel 21 = .ok (.iload_n 2, 1) := by decide +kernel
theorem dM_parallel_22 : decode cM_parallel 22 = .ok (.iload_n 3, 1) := by decide +kernel
theorem dM_parallel_23 : decode cM_parallel 23 = .ok (.invokevirtual 170, 3) := by decide +kernel
theorem dM_parallel_26 : decode cM_parallel 26 = .ok (.istore 5, 2) := by decide +kernel
theorem dM_parallel_28 : decode cM_parallel 28 = .ok (.iload 4, 2) := by decide +kernel
theorem dM_parallel_30 : decode cM_parallel 30 = .ok (.invokestatic 164, 3) := by decide +kernel
theorem dM_parallel_33 : decode cM_parallel 33 = .ok (.iconst (-1), 1) := by decide +kernel
theorem dM_parallel_34 : decode cM_parallel 34 = .ok (.if_icmp .eq 16, 3) := by decide +kernel
theorem dM_parallel_37 : decode cM_parallel 37 = .ok (.iload 5, 2) := by decide +kernel
theorem dM_parallel_39 : decode cM_parallel 39 = .ok (.invokestatic 164, 3) := by decide +kernel
theorem dM_parallel_42 : decode cM_parallel 42 = .ok (.iconst (-1), 1) := by decide +kernel
theorem dM_parallel_43 : decode cM_parallel 43 = .ok (.if_icmp .eq 7, 3) := by decide +kernel
theorem dM_parallel_46 : decode cM_parallel 46 = .ok (.iconst 1, 1) := by decide +kernel
theorem dM_parallel_47 : decode cM_parallel 47 = .ok (.goto 4, 3) := by decide +kernel
theorem dM_parallel_50 : decode cM_parallel 50 = .ok (.iconst 0, 1) := by decide +kernel
theorem dM_parallel_51 : decode cM_parallel 51 = .ok (.istore 6, 2) := by decide +kernel
theorem dM_parallel_53 : decode cM_parallel 53 = .ok (.iload 4, 2) := by decide +kernel
theorem dM_parallel_55 : decode cM_parallel 55 = .ok (.invokestatic 161, 3) := by decide +kernel
theorem dM_parallel_58 : decode cM_parallel 58 = .ok (.iload 5, 2) := by decide +kernel
theorem dM_parallel_60 : decode cM_parallel 60 = .ok (.invokestatic 161, 3) := by decide +kernel
theorem dM_parallel_63 : decode cM_parallel 63 = .ok (.invokestatic 103, 3) := by decide +kernel
theorem dM_parallel_66 : decode cM_parallel 66 = .ok (.iload 6, 2) := by decide +kernel
theorem dM_parallel_68 : decode cM_parallel 68 = .ok (.ifCond .eq 32, 3) := by decide +kernel
theorem dM_parallel_71 : decode cM_parallel 71 = .ok (.iload 4, 2) := by decide +kernel
theorem dM_parallel_73 : decode cM_parallel 73 = .ok (.invokestatic 164, 3) := by decide +kernel
theorem dM_parallel_76 : decode cM_parallel 76 = .ok (.iload 5, 2) := by decide +kernel
theorem dM_parallel_78 : decode cM_parallel 78 = .ok (.invokestatic 164, 3) := by decide +kernel
theorem dM_parallel_81 : decode cM_parallel 81 = .ok (.if_icmp .le 11, 3) := by decide +kernel
theorem dM_parallel_84 : decode cM_parallel 84 = .ok (.iload 4, 2) := by decide +kernel
theorem dM_parallel_86 : decode cM_parallel 86 = .ok (.invokestatic 164, 3) := by decide +kernel
theorem dM_parallel_89 : decode cM_parallel 89 = .ok (.goto 12, 3) := by decide +kernel
theorem dM_parallel_92 : decode cM_parallel 92 = .ok (.iload 5, 2) := by decide +kernel
theorem dM_parallel_94 : decode cM_parallel 94 = .ok (.invokestatic 164, 3) := by decide +kernel
theorem dM_parallel_97 : decode cM_parallel 97 = .ok (.goto 4, 3) := by decide +kernel
theorem dM_parallel_100 : decode cM_parallel 100 = .ok (.iconst (-1), 1) := by decide +kernel
theorem dM_parallel_101 : decode cM_parallel 101 = .ok (.invokestatic 124, 3) := by decide +kernel
theorem dM_parallel_104 : decode cM_parallel 104 = .ok (.ireturn, 1) := by decide +kernel
theorem dM_side_0 : decode cM_side 0 = .ok (.iload_n 2, 1) := by decide +kernel
theorem dM_side_1 : decode cM_side 1 = .ok (.ifCond .ne 11, 3) := by decide +kernel
theorem dM_side_4 : decode cM_side 4 = .ok (.aload_n 0, 1) := by decide +kernel
theorem dM_side_5 : decode cM_side 5 = .ok (.iload_n 1, 1) := by decide +kernel
theorem dM_side_6 : decode cM_side 6 = .ok (.invokevirtual 138, 3) := by decide +kernel
theorem dM_side_9 : decode cM_side 9 = .ok (.ifCond .eq 13, 3) := by decide +kernel
theorem dM_side_12 : decode cM_side 12 = .ok (.aload_n 0, 1) := by decide +kernel
theorem dM_side_13 : decode cM_side 13 = .ok (.iload_n 1, 1) := by decide +kernel
theorem dM_side_14 : decode cM_side 14 = .ok (.iload_n 2, 1) := by decide +kernel
theorem dM_side_15 : decode cM_side 15 = .ok (.iload_n 3, 1) := by decide +kernel
theorem dM_side_16 : decode cM_side 16 = .ok (.invokevirtual 142, 3) := by decide +kernel
theorem dM_side_19 : decode cM_side 19 = .ok (.goto 16, 3) := by decide +kernel
theorem dM_side_22 : decode cM_side 22 = .ok (.iconst 1, 1) := by decide +kernel
theorem dM_side_23 : decode cM_side 23 = .ok (.iload_n 3, 1) := by decide +kernel
theorem dM_side_24 : decode cM_side 24 = .ok (.ifCond .eq 7, 3) := by decide +kernel
theorem dM_side_27 : decode cM_side 27 = .ok (.iconst 0, 1) := by decide +kernel
theorem dM_side_28 : decode cM_side 28 = .ok (.goto 4, 3) := by decide +kernel
theorem dM_side_31 : decode cM_side 31 = .ok (.iconst (-1), 1) := by decide +kernel
theorem dM_side_32 : decode cM_side 32 = .ok (.invokestatic 124, 3) := by decide +kernel
theorem dM_side_35 : decode cM_side 35 = .ok (.ireturn, 1) := by decide +kernel
theorem dM_trap_0 : decode cM_trap 0 = .ok (.aload_n 0, 1) := by decide +kernel
theorem dM_trap_1 : decode cM_trap 1 = .ok (.aload_n 0, 1) := by decide +kernel
theorem dM_trap_2 : decode cM_trap 2 = .ok (.getfield 20, 3) := by decide +kernel
theorem dM_trap_5 : decode cM_trap 5 = .ok (.iload_n 1, 1) := by decide +kernel
theorem dM_trap_6 : decode cM_trap 6 = .ok (.iaload, 1) := by decide +kernel
theorem dM_trap_7 : decode cM_trap 7 = .ok (.iload_n 2, 1) := by decide +kernel
theorem dM_trap_8 : decode cM_trap 8 = .ok (.iload_n 3, 1) := by decide +kernel
theorem dM_trap_9 : decode cM_trap 9 = .ok (.invokevirtual 142, 3) := by decide +kernel
theorem dM_trap_12 : decode cM_trap 12 = .ok (.istore 4, 2) := by decide +kernel
theorem dM_trap_14 : decode cM_trap 14 = .ok (.iload 4, 2) := by decide +kernel
theorem dM_trap_16 : decode cM_trap 16 = .ok (.invokestatic 164, 3) := by decide +kernel
theorem dM_trap_19 : decode cM_trap 19 = .ok (.istore 5, 2) := by decide +kernel
theorem dM_trap_21 : decode cM_trap 21 = .ok (.iload_n 1, 1) := by decide +kernel
theorem dM_trap_22 : decode cM_trap 22 = .ok (.istore 6, 2) := by decide +kernel
theorem dM_trap_24 : decode cM_trap 24 = .ok (.iload 6, 2) := by decide +kernel
theorem dM_trap_26 : decode cM_trap 26 = .ok (.aload_n 0, 1) := by decide +kernel
theorem dM_trap_27 : decode cM_trap 27 = .ok (.getfield 26, 3) := by decide +kernel
theorem dM_trap_30 : decode cM_trap 30 = .ok (.iload_n 1, 1) := by decide +kernel
theorem dM_trap_31 : decode cM_trap 31 = .ok (.iaload, 1) := by decide +kernel
theorem dM_trap_32 : decode cM_trap 32 = .ok (.if_icmp .ge 39, 3) := by decide +kernel
theorem dM_trap_35 : decode cM_trap 35 = .ok (.iload 5, 2) := by decide +kernel
theorem dM_trap_37 : decode cM_trap 37 = .ok (.iconst 2, 1) := by decide +kernel
theorem dM_trap_38 : decode cM_trap 38 = .ok (.if_icmp .ne 33, 3) := by decide +kernel
theorem dM_trap_41 : decode cM_trap 41 = .ok (.aload_n 0, 1) := by decide +kernel
theorem dM_trap_42 : decode cM_trap 42 = .ok (.getfield 38, 3) := by decide +kernel
theorem dM_trap_45 : decode cM_trap 45 = .ok (.iload 6, 2) := by decide +kernel
theorem dM_trap_47 : decode cM_trap 47 = .ok (.iaload, 1) := by decide +kernel
theorem dM_trap_48 : decode cM_trap 48 = .ok (.iconst (-1), 1) := by decide +kernel
theorem dM_trap_49 : decode cM_trap 49 = .ok (.if_icmp .eq 16, 3) := by decide +kernel
theorem dM_trap_52 : decode cM_trap 52 = .ok (.aload_n 0, 1) := by decide +kernel
theorem dM_trap_53 : decode cM_trap 53 = .ok (.getfield 51, 3) := by decide +kernel
theorem dM_trap_56 : decode cM_trap 56 = .ok (.aload_n 0, 1) := by decide +kernel
theorem dM_trap_57 : decode cM_trap 57 = .ok (.getfield 38, 3) := by decide +kernel
theorem dM_trap_60 : decode cM_trap 60 = .ok (.iload 6, 2) := by decide +kernel
theorem dM_trap_62 : decode cM_trap 62 = .ok (.iaload, 1) := by decide +kernel
theorem dM_trap_63 : decode cM_trap 63 = .ok (.iconst 0, 1) := by decide +kernel
theorem dM_trap_64 : decode cM_trap 64 = .ok (.bastore, 1) := by decide +kernel
theorem dM_trap_65 : decode cM_trap 65 = .ok (.iinc 6 1, 3) := by decide +kernel
theorem dM_trap_68 : decode cM_trap 68 = .ok (.goto (-44), 3) := by decide +kernel
theorem dM_trap_71 : decode cM_trap 71 = .ok (.iload 4, 2) := by decide +kernel
theorem dM_trap_73 : decode cM_trap 73 = .ok (.invokestatic 161, 3) := by decide +kernel
theorem dM_trap_76 : decode cM_trap 76 = .ok (.invokestatic 107, 3) := by decide +kernel
theorem dM_trap_79 : decode cM_trap 79 = .ok (.iload 5, 2) := by decide +kernel
theorem dM_trap_81 : decode cM_trap 81 = .ok (.iconst 2, 1) := by decide +kernel
theorem dM_trap_82 : decode cM_trap 82 = .ok (.if_icmp .ne 7, 3) := by decide +kernel
theorem dM_trap_85 : decode cM_trap 85 = .ok (.iconst 0, 1) := by decide +kernel
theorem dM_trap_86 : decode cM_trap 86 = .ok (.goto 18, 3) := by decide +kernel
theorem dM_trap_89 : decode cM_trap 89 = .ok (.iload 5, 2) := by decide +kernel
theorem dM_trap_91 : decode cM_trap 91 = .ok (.iconst 2, 1) := by decide +kernel
theorem dM_trap_92 : decode cM_trap 92 = .ok (.if_icmp .le 10, 3) := by decide +kernel
theorem dM_trap_95 : decode cM_trap 95 = .ok (.iload 5, 2) := by decide +kernel
theorem dM_trap_97 : decode cM_trap 97 = .ok (.iconst 1, 1) := by decide +kernel
theorem dM_trap_98 : decode cM_trap 98 = .ok (.isub, 1) := by decide +kernel
theorem dM_trap_99 : decode cM_trap 99 = .ok (.goto 5, 3) := by decide +kernel
theorem dM_trap_102 : decode cM_trap 102 = .ok (.iload 5, 2) := by decide +kernel
theorem dM_trap_104 : decode cM_trap 104 = .ok (.invokestatic 124, 3) := by decide +kernel
theorem dM_trap_107 : decode cM_trap 107 = .ok (.ireturn, 1) := by decide +kernel
theorem dM_local_0 : decode cM_local 0 = .ok (.aload_n 0, 1) := by decide +kernel
theorem dM_local_1 : decode cM_local 1 = .ok (.getfield 66, 3) := by decide +kernel
theorem dM_local_4 : decode cM_local 4 = .ok (.aload_n 0, 1) := by decide +kernel
theorem dM_local_5 : decode cM_local 5 = .ok (.getfield 17, 3) := by decide +kernel
theorem dM_local_8 : decode cM_local 8 = .ok (.iload_n 1, 1) := by decide +kernel
theorem dM_local_9 : decode cM_local 9 = .ok (.iaload, 1) := by decide +kernel
theorem dM_local_10 : decode cM_local 10 = .ok (.iaload, 1) := by decide +kernel
theorem dM_local_11 : decode cM_local 11 = .ok (.istore 4, 2) := by decide +kernel
theorem dM_local_13 : decode cM_local 13 = .ok (.bipush 16, 2) := by decide +kernel
theorem dM_local_15 : decode cM_local 15 = .ok (.bipush 27, 2) := by decide +kernel
theorem dM_local_17 : decode cM_local 17 = .ok (.iload_n 1, 1) := by decide +kernel
theorem dM_local_18 : decode cM_local 18 = .ok (.imul, 1) := by decide +kernel
theorem dM_local_19 : decode cM_local 19 = .ok (.iadd, 1) := by decide +kernel
theorem dM_local_20 : decode cM_local 20 = .ok (.iload_n 2, 1) := by decide +kernel
theorem dM_local_21 : decode cM_local 21 = .ok (.ifCond .eq 10, 3) := by decide +kernel
theorem dM_local_24 : decode cM_local 24 = .ok (.aload_n 0, 1) := by decide +kernel
theorem dM_local_25 : decode cM_local 25 = .ok (.getfield 167, 3) := by decide +kernel
theorem dM_local_28 : decode cM_local 28 = .ok (.goto 5, 3) := by decide +kernel
theorem dM_local_31 : decode cM_local 31 = .ok (.bipush 26, 2) := by decide +kernel
theorem dM_local_33 : decode cM_local 33 = .ok (.iadd, 1) := by decide +kernel
theorem dM_local_34 : decode cM_local 34 = .ok (.istore 5, 2) := by decide +kernel
theorem dM_local_36 : decode cM_local 36 = .ok (.aload_n 0, 1) := by decide +kernel
theorem dM_local_37 : decode cM_local 37 = .ok (.getfield 66, 3) := by decide +kernel
theorem dM_local_40 : decode cM_local 40 = .ok (.aload_n 0, 1) := by decide +kernel
theorem dM_local_41 : decode cM_local 41 = .ok (.getfield 17, 3) := by decide +kernel
theorem dM_local_44 : decode cM_local 44 = .ok (.iload_n 1, 1) := by decide +kernel
theorem dM_local_45 : decode cM_local 45 = .ok (.iaload, 1) := by decide +kernel
theorem dM_local_46 : decode cM_local 46 = .ok (.iload 5, 2) := by decide +kernel
theorem dM_local_48 : decode cM_local 48 = .ok (.iastore, 1) := by decide +kernel
theorem dM_local_49 : decode cM_local 49 = .ok (.aload_n 0, 1) := by decide +kernel
theorem dM_local_50 : decode cM_local 50 = .ok (.aload_n 0, 1) := by decide +kernel
theorem dM_local_51 : decode cM_local 51 = .ok (.getfield 173, 3) := by decide +kernel
theorem dM_local_54 : decode cM_local 54 = .ok (.ifCond .ne 18, 3) := by decide +kernel
theorem dM_local_57 : decode cM_local 57 = .ok (.iload_n 3, 1) := by decide +kernel
theorem dM_local_58 : decode cM_local 58 = .ok (.ifCond .eq 18, 3) := by decide +kernel
theorem dM_local_61 : decode cM_local 61 = .ok (.aload_n 0, 1) := by decide +kernel
theorem dM_local_62 : decode cM_local 62 = .ok (.getfield 57, 3) := by decide +kernel
theorem dM_local_65 : decode cM_local 65 = .ok (.iload 5, 2) := by decide +kernel
theorem dM_local_67 : decode cM_local 67 = .ok (.iaload, 1) := by decide +kernel
theorem dM_local_68 : decode cM_local 68 = .ok (.iconst 2, 1) := by decide +kernel
theorem dM_local_69 : decode cM_local 69 = .ok (.if_icmp .ne 7, 3) := by decide +kernel
theorem dM_local_72 : decode cM_local 72 = .ok (.iconst 1, 1) := by decide +kernel
theorem dM_local_73 : decode cM_local 73 = .ok (.goto 4, 3) := by decide +kernel
theorem dM_local_76 : decode cM_local 76 = .ok (.iconst 0, 1) := by decide +kernel
theorem dM_local_77 : decode cM_local 77 = .ok (.putfield 173, 3) := by decide +kernel
theorem dM_local_80 : decode cM_local 80 = .ok (.aload_n 0, 1) := by decide +kernel
theorem dM_local_81 : decode cM_local 81 = .ok (.aload_n 0, 1) := by decide +kernel
theorem dM_local_82 : decode cM_local 82 = .ok (.getfield 20, 3) := by decide +kernel
theorem dM_local_85 : decode cM_local 85 = .ok (.iload_n 1, 1) := by decide +kernel
theorem dM_local_86 : decode cM_local 86 = .ok (.iaload, 1) := by decide +kernel
theorem dM_local_87 : decode cM_local 87 = .ok (.iload_n 2, 1) := by decide +kernel
theorem dM_local_88 : decode cM_local 88 = .ok (.iload_n 3, 1) := by decide +kernel
theorem dM_local_89 : decode cM_local 89 = .ok (.invokevirtual 142, 3) := by decide +kernel
theorem dM_local_92 : decode cM_local 92 = .ok (.istore 6, 2) := by decide +kernel
theorem dM_local_94 : decode cM_local 94 = .ok (.aload_n 0, 1) := by decide +kernel
theorem dM_local_95 : decode cM_local 95 = .ok (.getfield 66, 3) := by decide +kernel
theorem dM_local_98 : decode cM_local 98 = .ok (.aload_n 0, 1) := by decide +kernel
theorem dM_local_99 : decode cM_local 99 = .ok (.getfield 17, 3) := by decide +kernel
theorem dM_local_102 : decode cM_local 102 = .ok (.iload_n 1, 1) := by decide +kernel
theorem dM_local_103 : decode cM_local 103 = .ok (.iaload, 1) := by decide +kernel
theorem dM_local_104 : decode cM_local 104 = .ok (.iload 4, 2) := by decide +kernel
theorem dM_local_106 : decode cM_local 106 = .ok (.iastore, 1) := by decide +kernel
theorem dM_local_107 : decode cM_local 107 = .ok (.iload 6, 2) := by decide +kernel
theorem dM_local_109 : decode cM_local 109 = .ok (.ireturn, 1) := by decide +kernel
theorem dM_learns_0 : decode cM_learns 0 = .ok (.iconst 0, 1) := by decide +kernel
theorem dM_learns_1 : decode cM_learns 1 = .ok (.istore_n 1, 1) := by decide +kernel
theorem dM_learns_2 : decode cM_learns 2 = .ok (.iconst 4, 1) := by decide +kernel
theorem dM_learns_3 : decode cM_learns 3 = .ok (.istore_n 2, 1) := by decide +kernel
theorem dM_learns_4 : decode cM_learns 4 = .ok (.iload_n 2, 1) := by decide +kernel
theorem dM_learns_5 : decode cM_learns 5 = .ok (.bipush 16, 2) := by decide +kernel
theorem dM_learns_7 : decode cM_learns 7 = .ok (.bipush 27, 2) := by decide +kernel
theorem dM_learns_9 : decode cM_learns 9 = .ok (.aload_n 0, 1) := by decide +kernel
theorem dM_learns_10 : decode cM_learns 10 = .ok (.getfield 87, 3) := by decide +kernel
theorem dM_learns_13 : decode cM_learns 13 = .ok (.imul, 1) := by decide +kernel
theorem dM_learns_14 : decode cM_learns 14 = .ok (.iadd, 1) := by decide +kernel
theorem dM_learns_15 : decode cM_learns 15 = .ok (.if_icmp .ge 62, 3) := by decide +kernel
theorem dM_learns_18 : decode cM_learns 18 = .ok (.aload_n 0, 1) := by decide +kernel
theorem dM_learns_19 : decode cM_learns 19 = .ok (.getfield 57, 3) := by decide +kernel
theorem dM_learns_22 : decode cM_learns 22 = .ok (.iload_n 2, 1) := by decide +kernel
theorem dM_learns_23 : decode cM_learns 23 = .ok (.iaload, 1) := by decide +kernel
theorem dM_learns_24 : decode cM_learns 24 = .ok (.iconst 2, 1) := by decide +kernel
theorem dM_learns_25 : decode cM_learns 25 = .ok (.if_icmp .ne 46, 3) := by decide +kernel
theorem dM_learns_28 : decode cM_learns 28 = .ok (.aload_n 0, 1) := by decide +kernel
theorem dM_learns_29 : decode cM_learns 29 = .ok (.getfield 60, 3) := by decide +kernel
theorem dM_learns_32 : decode cM_learns 32 = .ok (.iload_n 2, 1) := by decide +kernel
theorem dM_learns_33 : decode cM_learns 33 = .ok (.baload, 1) := by decide +kernel
theorem dM_learns_34 : decode cM_learns 34 = .ok (.ifCond .ne 15, 3) := by decide +kernel
theorem dM_learns_37 : decode cM_learns 37 = .ok (.aload_n 0, 1) := by decide +kernel
theorem dM_learns_38 : decode cM_learns 38 = .ok (.getfield 63, 3) := by decide +kernel
theorem dM_learns_41 : decode cM_learns 41 = .ok (.iload_n 2, 1) := by decide +kernel
theorem dM_learns_42 : decode cM_learns 42 = .ok (.baload, 1) := by decide +kernel
theorem dM_learns_43 : decode cM_learns 43 = .ok (.ifCond .eq 6, 3) := by decide +kernel
theorem dM_learns_46 : decode cM_learns 46 = .ok (.goto 25, 3) := by decide +kernel
theorem dM_learns_49 : decode cM_learns 49 = .ok (.aload_n 0, 1) := by decide +kernel
theorem dM_learns_50 : decode cM_learns 50 = .ok (.getfield 57, 3) := by decide +kernel
theorem dM_learns_53 : decode cM_learns 53 = .ok (.iload_n 2, 1) := by decide +kernel
theorem dM_learns_54 : decode cM_learns 54 = .ok (.aload_n 0, 1) := by decide +kernel
theorem dM_learns_55 : decode cM_learns 55 = .ok (.getfield 60, 3) := by decide +kernel
theorem dM_learns_58 : decode cM_learns 58 = .ok (.iload_n 2, 1) := by decide +kernel
theorem dM_learns_59 : decode cM_learns 59 = .ok (.baload, 1) := by decide +kernel
theorem dM_learns_60 : decode cM_learns 60 = .ok (.ifCond .eq 7, 3) := by decide +kernel
theorem dM_learns_63 : decode cM_learns 63 = .ok (.iconst 1, 1) := by decide +kernel
theorem dM_learns_64 : decode cM_learns 64 = .ok (.goto 4, 3) := by decide +kernel
theorem dM_learns_67 : decode cM_learns 67 = .ok (.iconst 0, 1) := by decide +kernel
theorem dM_learns_68 : decode cM_learns 68 = .ok (.iastore, 1) := by decide +kernel
theorem dM_learns_69 : decode cM_learns 69 = .ok (.iconst 1, 1) := by decide +kernel
theorem dM_learns_70 : decode cM_learns 70 = .ok (.istore_n 1, 1) := by decide +kernel
theorem dM_learns_71 : decode cM_learns 71 = .ok (.iinc 2 1, 3) := by decide +kernel
theorem dM_learns_74 : decode cM_learns 74 = .ok (.goto (-70), 3) := by decide +kernel
theorem dM_learns_77 : decode cM_learns 77 = .ok (.iload_n 1, 1) := by decide +kernel
theorem dM_learns_78 : decode cM_learns 78 = .ok (.ireturn, 1) := by decide +kernel
theorem dM_status_0 : decode cM_status 0 = .ok (.aload_n 0, 1) := by decide +kernel
theorem dM_status_1 : decode cM_status 1 = .ok (.iload_n 1, 1) := by decide +kernel
theorem dM_status_2 : decode cM_status 2 = .ok (.ifCond .lt 9, 3) := by decide +kernel
theorem dM_status_5 : decode cM_status 5 = .ok (.iload_n 1, 1) := by decide +kernel
theorem dM_status_6 : decode cM_status 6 = .ok (.bipush 15, 2) := by decide +kernel
theorem dM_status_8 : decode cM_status 8 = .ok (.if_icmp .le 7, 3) := by decide +kernel
theorem dM_status_11 : decode cM_status 11 = .ok (.iconst 1, 1) := by decide +kernel
theorem dM_status_12 : decode cM_status 12 = .ok (.goto 4, 3) := by decide +kernel
theorem dM_status_15 : decode cM_status 15 = .ok (.iconst 0, 1) := by decide +kernel
theorem dM_status_16 : decode cM_status 16 = .ok (.iconst 0, 1) := by decide +kernel
theorem dM_status_17 : decode cM_status 17 = .ok (.invokevirtual 83, 3) := by decide +kernel
theorem dM_status_20 : decode cM_status 20 = .ok (.ifCond .eq 5, 3) := by decide +kernel
theorem dM_status_23 : decode cM_status 23 = .ok (.iconst 0, 1) := by decide +kernel
theorem dM_status_24 : decode cM_status 24 = .ok (.ireturn, 1) := by decide +kernel
theorem dM_status_25 : decode cM_status 25 = .ok (.aload_n 0, 1) := by decide +kernel
theorem dM_status_26 : decode cM_status 26 = .ok (.getfield 54, 3) := by decide +kernel
theorem dM_status_29 : decode cM_status 29 = .ok (.iload_n 1, 1) := by decide +kernel
theorem dM_status_30 : decode cM_status 30 = .ok (.iaload, 1) := by decide +kernel
theorem dM_status_31 : decode cM_status 31 = .ok (.ireturn, 1) := by decide +kernel
theorem dM_selected_0 : decode cM_selected 0 = .ok (.aload_n 0, 1) := by decide +kernel
theorem dM_selected_1 : decode cM_selected 1 = .ok (.iload_n 1, 1) := by decide +kernel
theorem dM_selected_2 : decode cM_selected 2 = .ok (.ifCond .lt 11, 3) := by decide +kernel
theorem dM_selected_5 : decode cM_selected 5 = .ok (.iload_n 1, 1) := by decide +kernel
theorem dM_selected_6 : decode cM_selected 6 = .ok (.aload_n 0, 1) := by decide +kernel
theorem dM_selected_7 : decode cM_selected 7 = .ok (.getfield 90, 3) := by decide +kernel
theorem dM_selected_10 : decode cM_selected 10 = .ok (.if_icmp .lt 7, 3) := by decide +kernel
theorem dM_selected_13 : decode cM_selected 13 = .ok (.iconst 1, 1) := by decide +kernel
theorem dM_selected_14 : decode cM_selected 14 = .ok (.goto 4, 3) := by decide +kernel
theorem dM_selected_17 : decode cM_selected 17 = .ok (.iconst 0, 1) := by decide +kernel
theorem dM_selected_18 : decode cM_selected 18 = .ok (.iconst 0, 1) := by decide +kernel
theorem dM_selected_19 : decode cM_selected 19 = .ok (.invokevirtual 83, 3) := by decide +kernel
theorem dM_selected_22 : decode cM_selected 22 = .ok (.ifCond .ne 16, 3) := by decide +kernel
theorem dM_selected_25 : decode cM_selected 25 = .ok (.aload_n 0, 1) := by decide +kernel
theorem dM_selected_26 : decode cM_selected 26 = .ok (.getfield 47, 3) := by decide +kernel
theorem dM_selected_29 : decode cM_selected 29 = .ok (.iload_n 1, 1) := by decide +kernel
theorem dM_selected_30 : decode cM_selected 30 = .ok (.baload, 1) := by decide +kernel
theorem dM_selected_31 : decode cM_selected 31 = .ok (.ifCond .eq 7, 3) := by decide +kernel
theorem dM_selected_34 : decode cM_selected 34 = .ok (.iconst 1, 1) := by decide +kernel
theorem dM_selected_35 : decode cM_selected 35 = .ok (.goto 4, 3) := by decide +kernel
theorem dM_selected_38 : decode cM_selected 38 = .ok (.iconst 0, 1) := by decide +kernel
theorem dM_selected_39 : decode cM_selected 39 = .ok (.ireturn, 1) := by decide +kernel
theorem dM_reacts_0 : decode cM_reacts 0 = .ok (.aload_n 0, 1) := by decide +kernel
theorem dM_reacts_1 : decode cM_reacts 1 = .ok (.aload_n 0, 1) := by decide +kernel
theorem dM_reacts_2 : decode cM_reacts 2 = .ok (.getfield 114, 3) := by decide +kernel
theorem dM_reacts_5 : decode cM_reacts 5 = .ok (.iconst 1, 1) := by decide +kernel
theorem dM_reacts_6 : decode cM_reacts 6 = .ok (.if_icmp .eq 7, 3) := by decide +kernel
theorem dM_reacts_9 : decode cM_reacts 9 = .ok (.iconst 1, 1) := by decide +kernel
theorem dM_reacts_10 : decode cM_reacts 10 = .ok (.goto 4, 3) := by decide +kernel
theorem dM_reacts_13 : decode cM_reacts 13 = .ok (.iconst 0, 1) := by decide +kernel
theorem dM_reacts_14 : decode cM_reacts 14 = .ok (.iconst 0, 1) := by decide +kernel
theorem dM_reacts_15 : decode cM_reacts 15 = .ok (.invokevirtual 83, 3) := by decide +kernel
theorem dM_reacts_18 : decode cM_reacts 18 = .ok (.ifCond .eq 5, 3) := by decide +kernel
theorem dM_reacts_21 : decode cM_reacts 21 = .ok (.iconst 0, 1) := by decide +kernel
theorem dM_reacts_22 : decode cM_reacts 22 = .ok (.ireturn, 1) := by decide +kernel
theorem dM_reacts_23 : decode cM_reacts 23 = .ok (.iconst 0, 1) := by decide +kernel
theorem dM_reacts_24 : decode cM_reacts 24 = .ok (.istore_n 1, 1) := by decide +kernel
theorem dM_reacts_25 : decode cM_reacts 25 = .ok (.iconst 0, 1) := by decide +kernel
theorem dM_reacts_26 : decode cM_reacts 26 = .ok (.istore_n 2, 1) := by decide +kernel
theorem dM_reacts_27 : decode cM_reacts 27 = .ok (.iload_n 2, 1) := by decide +kernel
theorem dM_reacts_28 : decode cM_reacts 28 = .ok (.bipush 16, 2) := by decide +kernel
theorem dM_reacts_30 : decode cM_reacts 30 = .ok (.if_icmp .ge 26, 3) := by decide +kernel
theorem dM_reacts_33 : decode cM_reacts 33 = .ok (.iload_n 1, 1) := by decide +kernel
theorem dM_reacts_34 : decode cM_reacts 34 = .ok (.aload_n 0, 1) := by decide +kernel
theorem dM_reacts_35 : decode cM_reacts 35 = .ok (.iload_n 2, 1) := by decide +kernel
theorem dM_reacts_36 : decode cM_reacts 36 = .ok (.invokevirtual 180, 3) := by decide +kernel
theorem dM_reacts_39 : decode cM_reacts 39 = .ok (.iconst (-1), 1) := by decide +kernel
theorem dM_reacts_40 : decode cM_reacts 40 = .ok (.if_icmp .ne 7, 3) := by decide +kernel
theorem dM_reacts_43 : decode cM_reacts 43 = .ok (.iconst 0, 1) := by decide +kernel
theorem dM_reacts_44 : decode cM_reacts 44 = .ok (.goto 4, 3) := by decide +kernel
theorem dM_reacts_47 : decode cM_reacts 47 = .ok (.iconst 1, 1) := by decide +kernel
theorem dM_reacts_48 : decode cM_reacts 48 = .ok (.iadd, 1) := by decide +kernel
theorem dM_reacts_49 : decode cM_reacts 49 = .ok (.istore_n 1, 1) := by decide +kernel
theorem dM_reacts_50 : decode cM_reacts 50 = .ok (.iinc 2 1, 3) := by decide +kernel
theorem dM_reacts_53 : decode cM_reacts 53 = .ok (.goto (-26), 3) := by decide +kernel
theorem dM_reacts_56 : decode cM_reacts 56 = .ok (.iload_n 1, 1) := by decide +kernel
theorem dM_reacts_57 : decode cM_reacts 57 = .ok (.ireturn, 1) := by decide +kernel
theorem dM_emits_0 : decode cM_emits 0 = .ok (.aload_n 0, 1) := by decide +kernel
theorem dM_emits_1 : decode cM_emits 1 = .ok (.getfield 114, 3) := by decide +kernel
theorem dM_emits_4 : decode cM_emits 4 = .ok (.iconst 1, 1) := by decide +kernel
theorem dM_emits_5 : decode cM_emits 5 = .ok (.if_icmp .ne 7, 3) := by decide +kernel
theorem dM_emits_8 : decode cM_emits 8 = .ok (.iconst 1, 1) := by decide +kernel
theorem dM_emits_9 : decode cM_emits 9 = .ok (.goto 4, 3) := by decide +kernel
theorem dM_emits_12 : decode cM_emits 12 = .ok (.iconst 0, 1) := by decide +kernel
theorem dM_emits_13 : decode cM_emits 13 = .ok (.istore_n 2, 1) := by decide +kernel
theorem dM_emits_14 : decode cM_emits 14 = .ok (.aload_n 0, 1) := by decide +kernel
theorem dM_emits_15 : decode cM_emits 15 = .ok (.iload_n 2, 1) := by decide +kernel
theorem dM_emits_16 : decode cM_emits 16 = .ok (.ifCond .ne 7, 3) := by decide +kernel
theorem dM_emits_19 : decode cM_emits 19 = .ok (.iconst 1, 1) := by decide +kernel
theorem dM_emits_20 : decode cM_emits 20 = .ok (.goto 4, 3) := by decide +kernel
theorem dM_emits_23 : decode cM_emits 23 = .ok (.iconst 0, 1) := by decide +kernel
theorem dM_emits_24 : decode cM_emits 24 = .ok (.iload_n 2, 1) := by decide +kernel
theorem dM_emits_25 : decode cM_emits 25 = .ok (.ifCond .eq 18, 3) := by decide +kernel
theorem dM_emits_28 : decode cM_emits 28 = .ok (.iload_n 1, 1) := by decide +kernel
theorem dM_emits_29 : decode cM_emits 29 = .ok (.iconst 4, 1) := by decide +kernel
theorem dM_emits_30 : decode cM_emits 30 = .ok (.if_icmp .lt 9, 3) := by decide +kernel
theorem dM_emits_33 : decode cM_emits 33 = .ok (.iload_n 1, 1) := by decide +kernel
theorem dM_emits_34 : decode cM_emits 34 = .ok (.bipush 15, 2) := by decide +kernel
theorem dM_emits_36 : decode cM_emits 36 = .ok (.if_icmp .le 7, 3) := by decide +kernel
theorem dM_emits_39 : decode cM_emits 39 = .ok (.iconst 1, 1) := by decide +kernel
theorem dM_emits_40 : decode cM_emits 40 = .ok (.goto 4, 3) := by decide +kernel
theorem dM_emits_43 : decode cM_emits 43 = .ok (.iconst 0, 1) := by decide +kernel
theorem dM_emits_44 : decode cM_emits 44 = .ok (.invokevirtual 83, 3) := by decide +kernel
theorem dM_emits_47 : decode cM_emits 47 = .ok (.ifCond .eq 5, 3) := by decide +kernel
theorem dM_emits_50 : decode cM_emits 50 = .ok (.iconst 0, 1) := by decide +kernel
theorem dM_emits_51 : decode cM_emits 51 = .ok (.ireturn, 1) := by decide +kernel
theorem dM_emits_52 : decode cM_emits 52 = .ok (.iconst 0, 1) := by decide +kernel
theorem dM_emits_53 : decode cM_emits 53 = .ok (.istore_n 3, 1) := by decide +kernel
theorem dM_emits_54 : decode cM_emits 54 = .ok (.iconst 0, 1) := by decide +kernel
theorem dM_emits_55 : decode cM_emits 55 = .ok (.istore 4, 2) := by decide +kernel
theorem dM_emits_57 : decode cM_emits 57 = .ok (.iload 4, 2) := by decide +kernel
theorem dM_emits_59 : decode cM_emits 59 = .ok (.bipush 16, 2) := by decide +kernel
theorem dM_emits_61 : decode cM_emits 61 = .ok (.if_icmp .ge 40, 3) := by decide +kernel
theorem dM_emits_64 : decode cM_emits 64 = .ok (.iload_n 3, 1) := by decide +kernel
theorem dM_emits_65 : decode cM_emits 65 = .ok (.aload_n 0, 1) := by decide +kernel
theorem dM_emits_66 : decode cM_emits 66 = .ok (.iload 4, 2) := by decide +kernel
theorem dM_emits_68 : decode cM_emits 68 = .ok (.invokevirtual 180, 3) := by decide +kernel
theorem dM_emits_71 : decode cM_emits 71 = .ok (.iconst (-1), 1) := by decide +kernel
theorem dM_emits_72 : decode cM_emits 72 = .ok (.if_icmp .eq 20, 3) := by decide +kernel
theorem dM_emits_75 : decode cM_emits 75 = .ok (.aload_n 0, 1) := by decide +kernel
theorem dM_emits_76 : decode cM_emits 76 = .ok (.getfield 57, 3) := by decide +kernel
theorem dM_emits_79 : decode cM_emits 79 = .ok (.iload_n 1, 1) := by decide +kernel
theorem dM_emits_80 : decode cM_emits 80 = .ok (.iaload, 1) := by decide +kernel
theorem dM_emits_81 : decode cM_emits 81 = .ok (.iconst 1, 1) := by decide +kernel
theorem dM_emits_82 : decode cM_emits 82 = .ok (.if_icmp .ne 10, 3) := by decide +kernel
theorem dM_emits_85 : decode cM_emits 85 = .ok (.iconst 1, 1) := by decide +kernel
theorem dM_emits_86 : decode cM_emits 86 = .ok (.iload 4, 2) := by decide +kernel
theorem dM_emits_88 : decode cM_emits 88 = .ok (.ishl, 1) := by decide +kernel
theorem dM_emits_89 : decode cM_emits 89 = .ok (.goto 4, 3) := by decide +kernel
theorem dM_emits_92 : decode cM_emits 92 = .ok (.iconst 0, 1) := by decide +kernel
theorem dM_emits_93 : decode cM_emits 93 = .ok (.ior, 1) := by decide +kernel
theorem dM_emits_94 : decode cM_emits 94 = .ok (.istore_n 3, 1) := by decide +kernel
theorem dM_emits_95 : decode cM_emits 95 = .ok (.iinc 4 1, 3) := by decide +kernel
theorem dM_emits_98 : decode cM_emits 98 = .ok (.goto (-41), 3) := by decide +kernel
theorem dM_emits_101 : decode cM_emits 101 = .ok (.iload_n 3, 1) := by decide +kernel
theorem dM_emits_102 : decode cM_emits 102 = .ok (.ireturn, 1) := by decide +kernel
theorem dM_count_0 : decode cM_count 0 = .ok (.aload_n 0, 1) := by decide +kernel
theorem dM_count_1 : decode cM_count 1 = .ok (.iconst 0, 1) := by decide +kernel
theorem dM_count_2 : decode cM_count 2 = .ok (.putfield 69, 3) := by decide +kernel
theorem dM_count_5 : decode cM_count 5 = .ok (.iconst 0, 1) := by decide +kernel
theorem dM_count_6 : decode cM_count 6 = .ok (.istore_n 2, 1) := by decide +kernel
theorem dM_count_7 : decode cM_count 7 = .ok (.iload_n 1, 1) := by decide +kernel
theorem dM_count_8 : decode cM_count 8 = .ok (.tableswitch 148 0 7 #[48, 53, 58, 63, 100, 105, 110, 143], 48) := by decide +kernel
theorem dM_count_56 : decode cM_count 56 = .ok (.aload_n 0, 1) := by decide +kernel
theorem dM_count_57 : decode cM_count 57 = .ok (.getfield 87, 3) := by decide +kernel
theorem dM_count_60 : decode cM_count 60 = .ok (.ireturn, 1) := by decide +kernel
theorem dM_count_61 : decode cM_count 61 = .ok (.aload_n 0, 1) := by decide +kernel
theorem dM_count_62 : decode cM_count 62 = .ok (.getfield 7, 3) := by decide +kernel
theorem dM_count_65 : decode cM_count 65 = .ok (.ireturn, 1) := by decide +kernel
theorem dM_count_66 : decode cM_count 66 = .ok (.aload_n 0, 1) := by decide +kernel
theorem dM_count_67 : decode cM_count 67 = .ok (.getfield 90, 3) := by decide +kernel
theorem dM_count_70 : decode cM_count 70 = .ok (.ireturn, 1) := by decide +kernel
theorem dM_count_71 : decode cM_count 71 = .ok (.iconst 0, 1) := by decide +kernel
theorem dM_count_72 : decode cM_count 72 = .ok (.istore_n 3, 1) := by decide +kernel
theorem dM_count_73 : decode cM_count 73 = .ok (.iload_n 3, 1) := by decide +kernel
theorem dM_count_74 : decode cM_count 74 = .ok (.aload_n 0, 1) := by decide +kernel
theorem dM_count_75 : decode cM_count 75 = .ok (.getfield 87, 3) := by decide +kernel
theorem dM_count_78 : decode cM_count 78 = .ok (.if_icmp .ge 28, 3) := by decide +kernel
theorem dM_count_81 : decode cM_count 81 = .ok (.iload_n 2, 1) := by decide +kernel
theorem dM_count_82 : decode cM_count 82 = .ok (.aload_n 0, 1) := by decide +kernel
theorem dM_count_83 : decode cM_count 83 = .ok (.getfield 13, 3) := by decide +kernel
theorem dM_count_86 : decode cM_count 86 = .ok (.iload_n 3, 1) := by decide +kernel
theorem dM_count_87 : decode cM_count 87 = .ok (.iaload, 1) := by decide +kernel
theorem dM_count_88 : decode cM_count 88 = .ok (.bipush 8, 2) := by decide +kernel
theorem dM_count_90 : decode cM_count 90 = .ok (.if_icmp .ne 7, 3) := by decide +kernel
theorem dM_count_93 : decode cM_count 93 = .ok (.iconst 1, 1) := by decide +kernel
theorem dM_count_94 : decode cM_count 94 = .ok (.goto 4, 3) := by decide +kernel
theorem dM_count_97 : decode cM_count 97 = .ok (.iconst 0, 1) := by decide +kernel
theorem dM_count_98 : decode cM_count 98 = .ok (.iadd, 1) := by decide +kernel
theorem dM_count_99 : decode cM_count 99 = .ok (.istore_n 2, 1) := by decide +kernel
theorem dM_count_100 : decode cM_count 100 = .ok (.iinc 3 1, 3) := by decide +kernel
theorem dM_count_103 : decode cM_count 103 = .ok (.goto (-30), 3) := by decide +kernel
theorem dM_count_106 : decode cM_count 106 = .ok (.iload_n 2, 1) := by decide +kernel
theorem dM_count_107 : decode cM_count 107 = .ok (.ireturn, 1) := by decide +kernel
theorem dM_count_108 : decode cM_count 108 = .ok (.aload_n 0, 1) := by decide +kernel
theorem dM_count_109 : decode cM_count 109 = .ok (.getfield 93, 3) := by decide +kernel
theorem dM_count_112 : decode cM_count 112 = .ok (.ireturn, 1) := by decide +kernel
theorem dM_count_113 : decode cM_count 113 = .ok (.aload_n 0, 1) := by decide +kernel
theorem dM_count_114 : decode cM_count 114 = .ok (.getfield 121, 3) := by decide +kernel
theorem dM_count_117 : decode cM_count 117 = .ok (.ireturn, 1) := by decide +kernel
theorem dM_count_118 : decode cM_count 118 = .ok (.iconst 0, 1) := by decide +kernel
theorem dM_count_119 : decode cM_count 119 = .ok (.istore_n 3, 1) := by decide +kernel
theorem dM_count_120 : decode cM_count 120 = .ok (.iload_n 3, 1) := by decide +kernel
theorem dM_count_121 : decode cM_count 121 = .ok (.bipush 32, 2) := by decide +kernel
theorem dM_count_123 : decode cM_count 123 = .ok (.if_icmp .ge 26, 3) := by decide +kernel
theorem dM_count_126 : decode cM_count 126 = .ok (.iload_n 2, 1) := by decide +kernel
theorem dM_count_127 : decode cM_count 127 = .ok (.aload_n 0, 1) := by decide +kernel
theorem dM_count_128 : decode cM_count 128 = .ok (.getfield 47, 3) := by decide +kernel
theorem dM_count_131 : decode cM_count 131 = .ok (.iload_n 3, 1) := by decide +kernel
theorem dM_count_132 : decode cM_count 132 = .ok (.baload, 1) := by decide +kernel
theorem dM_count_133 : decode cM_count 133 = .ok (.ifCond .eq 7, 3) := by decide +kernel
theorem dM_count_136 : decode cM_count 136 = .ok (.iconst 1, 1) := by decide +kernel
theorem dM_count_137 : decode cM_count 137 = .ok (.goto 4, 3) := by decide +kernel
theorem dM_count_140 : decode cM_count 140 = .ok (.iconst 0, 1) := by decide +kernel
theorem dM_count_141 : decode cM_count 141 = .ok (.iadd, 1) := by decide +kernel
theorem dM_count_142 : decode cM_count 142 = .ok (.istore_n 2, 1) := by decide +kernel
theorem dM_count_143 : decode cM_count 143 = .ok (.iinc 3 1, 3) := by decide +kernel
theorem dM_count_146 : decode cM_count 146 = .ok (.goto (-26), 3) := by decide +kernel
theorem dM_count_149 : decode cM_count 149 = .ok (.iload_n 2, 1) := by decide +kernel
theorem dM_count_150 : decode cM_count 150 = .ok (.ireturn, 1) := by decide +kernel
theorem dM_count_151 : decode cM_count 151 = .ok (.aload_n 0, 1) := by decide +kernel
theorem dM_count_152 : decode cM_count 152 = .ok (.getfield 114, 3) := by decide +kernel
theorem dM_count_155 : decode cM_count 155 = .ok (.ireturn, 1) := by decide +kernel
theorem dM_count_156 : decode cM_count 156 = .ok (.iconst (-1), 1) := by decide +kernel
theorem dM_count_157 : decode cM_count 157 = .ok (.ireturn, 1) := by decide +kernel
theorem dL_law_0 : decode cL_law 0 = .ok (.new 8, 3) := by decide +kernel
theorem dL_law_3 : decode cL_law 3 = .ok (.dup, 1) := by decide +kernel
theorem dL_law_4 : decode cL_law 4 = .ok (.invokespecial 40, 3) := by decide +kernel
theorem dL_law_7 : decode cL_law 7 = .ok (.astore_n 1, 1) := by decide +kernel
theorem dL_law_8 : decode cL_law 8 = .ok (.new 41, 3) := by decide +kernel
theorem dL_law_11 : decode cL_law 11 = .ok (.dup, 1) := by decide +kernel
theorem dL_law_12 : decode cL_law 12 = .ok (.invokespecial 43, 3) := by decide +kernel
theorem dL_law_15 : decode cL_law 15 = .ok (.astore_n 2, 1) := by decide +kernel
theorem dL_law_16 : decode cL_law 16 = .ok (.iconst 1, 1) := by decide +kernel
theorem dL_law_17 : decode cL_law 17 = .ok (.newarray .long, 2) := by decide +kernel
theorem dL_law_19 : decode cL_law 19 = .ok (.astore_n 3, 1) := by decide +kernel
theorem dL_law_20 : decode cL_law 20 = .ok (.iconst 0, 1) := by decide +kernel
theorem dL_law_21 : decode cL_law 21 = .ok (.istore 4, 2) := by decide +kernel
theorem dL_law_23 : decode cL_law 23 = .ok (.iload 4, 2) := by decide +kernel
theorem dL_law_25 : decode cL_law 25 = .ok (.aload_n 0, 1) := by decide +kernel
theorem dL_law_26 : decode cL_law 26 = .ok (.arraylength, 1) := by decide +kernel
theorem dL_law_27 : decode cL_law 27 = .ok (.iconst 3, 1) := by decide +kernel
theorem dL_law_28 : decode cL_law 28 = .ok (.isub, 1) := by decide +kernel
theorem dL_law_29 : decode cL_law 29 = .ok (.if_icmp .gt 490, 3) := by decide +kernel
theorem dL_law_32 : decode cL_law 32 = .ok (.aload_n 0, 1) := by decide +kernel
theorem dL_law_33 : decode cL_law 33 = .ok (.iload 4, 2) := by decide +kernel
theorem dL_law_35 : decode cL_law 35 = .ok (.iaload, 1) := by decide +kernel
theorem dL_law_36 : decode cL_law 36 = .ok (.bipush 15, 2) := by decide +kernel
theorem dL_law_38 : decode cL_law 38 = .ok (.iand, 1) := by decide +kernel
theorem dL_law_39 : decode cL_law 39 = .ok (.tableswitch 474 0 8 #[49, 117, 161, 174, 230, 286, 349, 393, 449], 49) := by decide +kernel
theorem dL_law_88 : decode cL_law 88 = .ok (.aload_n 1, 1) := by decide +kernel
theorem dL_law_89 : decode cL_law 89 = .ok (.aload_n 0, 1) := by decide +kernel
theorem dL_law_90 : decode cL_law 90 = .ok (.iload 4, 2) := by decide +kernel
theorem dL_law_92 : decode cL_law 92 = .ok (.iconst 1, 1) := by decide +kernel
theorem dL_law_93 : decode cL_law 93 = .ok (.iadd, 1) := by decide +kernel
theorem dL_law_94 : decode cL_law 94 = .ok (.iaload, 1) := by decide +kernel
theorem dL_law_95 : decode cL_law 95 = .ok (.aload_n 0, 1) := by decide +kernel
theorem dL_law_96 : decode cL_law 96 = .ok (.iload 4, 2) := by decide +kernel
theorem dL_law_98 : decode cL_law 98 = .ok (.iconst 2, 1) := by decide +kernel
theorem dL_law_99 : decode cL_law 99 = .ok (.iadd, 1) := by decide +kernel
theorem dL_law_100 : decode cL_law 100 = .ok (.iaload, 1) := by decide +kernel
theorem dL_law_101 : decode cL_law 101 = .ok (.aload_n 3, 1) := by decide +kernel
theorem dL_law_102 : decode cL_law 102 = .ok (.invokestatic 44, 3) := by decide +kernel
theorem dL_law_105 : decode cL_law 105 = .ok (.istore 5, 2) := by decide +kernel
theorem dL_law_107 : decode cL_law 107 = .ok (.aload_n 2, 1) := by decide +kernel
theorem dL_law_108 : decode cL_law 108 = .ok (.aload_n 0, 1) := by decide +kernel
theorem dL_law_109 : decode cL_law 109 = .ok (.iload 4, 2) := by decide +kernel
theorem dL_law_111 : decode cL_law 111 = .ok (.iconst 1, 1) := by decide +kernel
theorem dL_law_112 : decode cL_law 112 = .ok (.iadd, 1) := by decide +kernel
theorem dL_law_113 : decode cL_law 113 = .ok (.iaload, 1) := by decide +kernel
theorem dL_law_114 : decode cL_law 114 = .ok (.aload_n 0, 1) := by decide +kernel
theorem dL_law_115 : decode cL_law 115 = .ok (.iload 4, 2) := by decide +kernel
theorem dL_law_117 : decode cL_law 117 = .ok (.iconst 2, 1) := by decide +kernel
theorem dL_law_118 : decode cL_law 118 = .ok (.iadd, 1) := by decide +kernel
theorem dL_law_119 : decode cL_law 119 = .ok (.iaload, 1) := by decide +kernel
theorem dL_law_120 : decode cL_law 120 = .ok (.invokevirtual 49, 3) := by decide +kernel
theorem dL_law_123 : decode cL_law 123 = .ok (.istore 6, 2) := by decide +kernel
theorem dL_law_125 : decode cL_law 125 = .ok (.aload_n 2, 1) := by decide +kernel
theorem dL_law_126 : decode cL_law 126 = .ok (.invokevirtual 50, 3) := by decide +kernel
theorem dL_law_129 : decode cL_law 129 = .ok (.iload 5, 2) := by decide +kernel
theorem dL_law_131 : decode cL_law 131 = .ok (.if_icmp .eq 5, 3) := by decide +kernel
theorem dL_law_134 : decode cL_law 134 = .ok (.iconst 0, 1) := by decide +kernel
theorem dL_law_135 : decode cL_law 135 = .ok (.ireturn, 1) := by decide +kernel
theorem dL_law_136 : decode cL_law 136 = .ok (.iload 5, 2) := by decide +kernel
theorem dL_law_138 : decode cL_law 138 = .ok (.ifCond .ne 15, 3) := by decide +kernel
theorem dL_law_141 : decode cL_law 141 = .ok (.aload_n 3, 1) := by decide +kernel
theorem dL_law_142 : decode cL_law 142 = .ok (.iconst 0, 1) := by decide +kernel
theorem dL_law_143 : decode cL_law 143 = .ok (.laload, 1) := by decide +kernel
theorem dL_law_144 : decode cL_law 144 = .ok (.iload 6, 2) := by decide +kernel
theorem dL_law_146 : decode cL_law 146 = .ok (.i2l, 1) := by decide +kernel
theorem dL_law_147 : decode cL_law 147 = .ok (.lcmp, 1) := by decide +kernel
theorem dL_law_148 : decode cL_law 148 = .ok (.ifCond .eq 5, 3) := by decide +kernel
theorem dL_law_151 : decode cL_law 151 = .ok (.iconst 0, 1) := by decide +kernel
theorem dL_law_152 : decode cL_law 152 = .ok (.ireturn, 1) := by decide +kernel
theorem dL_law_153 : decode cL_law 153 = .ok (.goto 360, 3) := by decide +kernel
theorem dL_law_156 : decode cL_law 156 = .ok (.aload_n 1, 1) := by decide +kernel
theorem dL_law_157 : decode cL_law 157 = .ok (.aload_n 3, 1) := by decide +kernel
theorem dL_law_158 : decode cL_law 158 = .ok (.invokestatic 53, 3) := by decide +kernel
theorem dL_law_161 : decode cL_law 161 = .ok (.istore 5, 2) := by decide +kernel
theorem dL_law_163 : decode cL_law 163 = .ok (.aload_n 2, 1) := by decide +kernel
theorem dL_law_164 : decode cL_law 164 = .ok (.invokevirtual 56, 3) := by decide +kernel
theorem dL_law_167 : decode cL_law 167 = .ok (.istore 6, 2) := by decide +kernel
theorem dL_law_169 : decode cL_law 169 = .ok (.aload_n 2, 1) := by decide +kernel
theorem dL_law_170 : decode cL_law 170 = .ok (.invokevirtual 50, 3) := by decide +kernel
theorem dL_law_173 : decode cL_law 173 = .ok (.iload 5, 2) := by decide +kernel
theorem dL_law_175 : decode cL_law 175 = .ok (.if_icmp .eq 5, 3) := by decide +kernel
theorem dL_law_178 : decode cL_law 178 = .ok (.iconst 0, 1) := by decide +kernel
theorem dL_law_179 : decode cL_law 179 = .ok (.ireturn, 1) := by decide +kernel
theorem dL_law_180 : decode cL_law 180 = .ok (.iload 5, 2) := by decide +kernel
theorem dL_law_182 : decode cL_law 182 = .ok (.ifCond .ne 15, 3) := by decide +kernel
theorem dL_law_185 : decode cL_law 185 = .ok (.aload_n 3, 1) := by decide +kernel
theorem dL_law_186 : decode cL_law 186 = .ok (.iconst 0, 1) := by decide +kernel
theorem dL_law_187 : decode cL_law 187 = .ok (.laload, 1) := by decide +kernel
theorem dL_law_188 : decode cL_law 188 = .ok (.iload 6, 2) := by decide +kernel
theorem dL_law_190 : decode cL_law 190 = .ok (.i2l, 1) := by decide +kernel
theorem dL_law_191 : decode cL_law 191 = .ok (.lcmp, 1) := by decide +kernel
theorem dL_law_192 : decode cL_law 192 = .ok (.ifCond .eq 5, 3) := by decide +kernel
theorem dL_law_195 : decode cL_law 195 = .ok (.iconst 0, 1) := by decide +kernel
theorem dL_law_196 : decode cL_law 196 = .ok (.ireturn, 1) := by decide +kernel
theorem dL_law_197 : decode cL_law 197 = .ok (.goto 316, 3) := by decide +kernel
theorem dL_law_200 : decode cL_law 200 = .ok (.aload_n 1, 1) := by decide +kernel
theorem dL_law_201 : decode cL_law 201 = .ok (.invokevirtual 57, 3) := by decide +kernel
theorem dL_law_204 : decode cL_law 204 = .ok (.aload_n 2, 1) := by decide +kernel
theorem dL_law_205 : decode cL_law 205 = .ok (.invokevirtual 60, 3) := by decide +kernel
theorem dL_law_208 : decode cL_law 208 = .ok (.if_icmp .eq 305, 3) := by decide +kernel
theorem dL_law_211 : decode cL_law 211 = .ok (.iconst 0, 1) := by decide +kernel
theorem dL_law_212 : decode cL_law 212 = .ok (.ireturn, 1) := by decide +kernel
theorem dL_law_213 : decode cL_law 213 = .ok (.aload_n 1, 1) := by decide +kernel
theorem dL_law_214 : decode cL_law 214 = .ok (.aload_n 0, 1) := by decide +kernel
theorem dL_law_215 : decode cL_law 215 = .ok (.iload 4, 2) := by decide +kernel
theorem dL_law_217 : decode cL_law 217 = .ok (.iconst 1, 1) := by decide +kernel
theorem dL_law_218 : decode cL_law 218 = .ok (.iadd, 1) := by decide +kernel
theorem dL_law_219 : decode cL_law 219 = .ok (.iaload, 1) := by decide +kernel
theorem dL_law_220 : decode cL_law 220 = .ok (.aload_n 3, 1) := by decide +kernel
theorem dL_law_221 : decode cL_law 221 = .ok (.invokestatic 61, 3) := by decide +kernel
theorem dL_law_224 : decode cL_law 224 = .ok (.istore 5, 2) := by decide +kernel
theorem dL_law_226 : decode cL_law 226 = .ok (.aload_n 2, 1) := by decide +kernel
theorem dL_law_227 : decode cL_law 227 = .ok (.aload_n 0, 1) := by decide +kernel
theorem dL_law_228 : decode cL_law 228 = .ok (.iload 4, 2) := by decide +kernel
theorem dL_law_230 : decode cL_law 230 = .ok (.iconst 1, 1) := by decide +kernel
theorem dL_law_231 : decode cL_law 231 = .ok (.iadd, 1) := by decide +kernel
theorem dL_law_232 : decode cL_law 232 = .ok (.iaload, 1) := by decide +kernel
theorem dL_law_233 : decode cL_law 233 = .ok (.invokevirtual 64, 3) := by decide +kernel
theorem dL_law_236 : decode cL_law 236 = .ok (.istore 6, 2) := by decide +kernel
theorem dL_law_238 : decode cL_law 238 = .ok (.aload_n 2, 1) := by decide +kernel
theorem dL_law_239 : decode cL_law 239 = .ok (.invokevirtual 50, 3) := by decide +kernel
theorem dL_law_242 : decode cL_law 242 = .ok (.iload 5, 2) := by decide +kernel
theorem dL_law_244 : decode cL_law 244 = .ok (.if_icmp .eq 5, 3) := by decide +kernel
theorem dL_law_247 : decode cL_law 247 = .ok (.iconst 0, 1) := by decide +kernel
theorem dL_law_248 : decode cL_law 248 = .ok (.ireturn, 1) := by decide +kernel
theorem dL_law_249 : decode cL_law 249 = .ok (.iload 5, 2) := by decide +kernel
theorem dL_law_251 : decode cL_law 251 = .ok (.ifCond .ne 15, 3) := by decide +kernel
theorem dL_law_254 : decode cL_law 254 = .ok (.aload_n 3, 1) := by decide +kernel
theorem dL_law_255 : decode cL_law 255 = .ok (.iconst 0, 1) := by decide +kernel
theorem dL_law_256 : decode cL_law 256 = .ok (.laload, 1) := by decide +kernel
theorem dL_law_257 : decode cL_law 257 = .ok (.iload 6, 2) := by decide +kernel
theorem dL_law_259 : decode cL_law 259 = .ok (.i2l, 1) := by decide +kernel
theorem dL_law_260 : decode cL_law 260 = .ok (.lcmp, 1) := by decide +kernel
theorem dL_law_261 : decode cL_law 261 = .ok (.ifCond .eq 5, 3) := by decide +kernel
theorem dL_law_264 : decode cL_law 264 = .ok (.iconst 0, 1) := by decide +kernel
theorem dL_law_265 : decode cL_law 265 = .ok (.ireturn, 1) := by decide +kernel
theorem dL_law_266 : decode cL_law 266 = .ok (.goto 247, 3) := by decide +kernel
theorem dL_law_269 : decode cL_law 269 = .ok (.aload_n 1, 1) := by decide +kernel
theorem dL_law_270 : decode cL_law 270 = .ok (.aload_n 0, 1) := by decide +kernel
theorem dL_law_271 : decode cL_law 271 = .ok (.iload 4, 2) := by decide +kernel
theorem dL_law_273 : decode cL_law 273 = .ok (.iconst 1, 1) := by decide +kernel
theorem dL_law_274 : decode cL_law 274 = .ok (.iadd, 1) := by decide +kernel
theorem dL_law_275 : decode cL_law 275 = .ok (.iaload, 1) := by decide +kernel
theorem dL_law_276 : decode cL_law 276 = .ok (.aload_n 3, 1) := by decide +kernel
theorem dL_law_277 : decode cL_law 277 = .ok (.invokestatic 65, 3) := by decide +kernel
theorem dL_law_280 : decode cL_law 280 = .ok (.istore 5, 2) := by decide +kernel
theorem dL_law_282 : decode cL_law 282 = .ok (.aload_n 2, 1) := by decide +kernel
theorem dL_law_283 : decode cL_law 283 = .ok (.aload_n 0, 1) := by decide +kernel
theorem dL_law_284 : decode cL_law 284 = .ok (.iload 4, 2) := by decide +kernel
theorem dL_law_286 : decode cL_law 286 = .ok (.iconst 1, 1) := by decide +kernel
theorem dL_law_287 : decode cL_law 287 = .ok (.iadd, 1) := by decide +kernel
theorem dL_law_288 : decode cL_law 288 = .ok (.iaload, 1) := by decide +kernel
theorem dL_law_289 : decode cL_law 289 = .ok (.invokevirtual 67, 3) := by decide +kernel
theorem dL_law_292 : decode cL_law 292 = .ok (.istore 6, 2) := by decide +kernel
theorem dL_law_294 : decode cL_law 294 = .ok (.aload_n 2, 1) := by decide +kernel
theorem dL_law_295 : decode cL_law 295 = .ok (.invokevirtual 50, 3) := by decide +kernel
theorem dL_law_298 : decode cL_law 298 = .ok (.iload 5, 2) := by decide +kernel
theorem dL_law_300 : decode cL_law 300 = .ok (.if_icmp .eq 5, 3) := by decide +kernel
theorem dL_law_303 : decode cL_law 303 = .ok (.iconst 0, 1) := by decide +kernel
theorem dL_law_304 : decode cL_law 304 = .ok (.ireturn, 1) := by decide +kernel
theorem dL_law_305 : decode cL_law 305 = .ok (.iload 5, 2) := by decide +kernel
theorem dL_law_307 : decode cL_law 307 = .ok (.ifCond .ne 15, 3) := by decide +kernel
theorem dL_law_310 : decode cL_law 310 = .ok (.aload_n 3, 1) := by decide +kernel
theorem dL_law_311 : decode cL_law 311 = .ok (.iconst 0, 1) := by decide +kernel
theorem dL_law_312 : decode cL_law 312 = .ok (.laload, 1) := by decide +kernel
theorem dL_law_313 : decode cL_law 313 = .ok (.iload 6, 2) := by decide +kernel
theorem dL_law_315 : decode cL_law 315 = .ok (.i2l, 1) := by decide +kernel
theorem dL_law_316 : decode cL_law 316 = .ok (.lcmp, 1) := by decide +kernel
theorem dL_law_317 : decode cL_law 317 = .ok (.ifCond .eq 5, 3) := by decide +kernel
theorem dL_law_320 : decode cL_law 320 = .ok (.iconst 0, 1) := by decide +kernel
theorem dL_law_321 : decode cL_law 321 = .ok (.ireturn, 1) := by decide +kernel
theorem dL_law_322 : decode cL_law 322 = .ok (.goto 191, 3) := by decide +kernel
theorem dL_law_325 : decode cL_law 325 = .ok (.aload_n 1, 1) := by decide +kernel
theorem dL_law_326 : decode cL_law 326 = .ok (.aload_n 0, 1) := by decide +kernel
theorem dL_law_327 : decode cL_law 327 = .ok (.iload 4, 2) := by decide +kernel
theorem dL_law_329 : decode cL_law 329 = .ok (.iconst 1, 1) := by decide +kernel
theorem dL_law_330 : decode cL_law 330 = .ok (.iadd, 1) := by decide +kernel
theorem dL_law_331 : decode cL_law 331 = .ok (.iaload, 1) := by decide +kernel
theorem dL_law_332 : decode cL_law 332 = .ok (.aload_n 3, 1) := by decide +kernel
theorem dL_law_333 : decode cL_law 333 = .ok (.invokestatic 68, 3) := by decide +kernel
theorem dL_law_336 : decode cL_law 336 = .ok (.istore 5, 2) := by decide +kernel
theorem dL_law_338 : decode cL_law 338 = .ok (.aload_n 2, 1) := by decide +kernel
theorem dL_law_339 : decode cL_law 339 = .ok (.aload_n 0, 1) := by decide +kernel
theorem dL_law_340 : decode cL_law 340 = .ok (.iload 4, 2) := by decide +kernel
theorem dL_law_342 : decode cL_law 342 = .ok (.iconst 1, 1) := by decide +kernel
theorem dL_law_343 : decode cL_law 343 = .ok (.iadd, 1) := by decide +kernel
theorem dL_law_344 : decode cL_law 344 = .ok (.iaload, 1) := by decide +kernel
theorem dL_law_345 : decode cL_law 345 = .ok (.invokevirtual 70, 3) := by decide +kernel
theorem dL_law_348 : decode cL_law 348 = .ok (.istore 6, 2) := by decide +kernel
theorem dL_law_350 : decode cL_law 350 = .ok (.aload_n 2, 1) := by decide +kernel
theorem dL_law_351 : decode cL_law 351 = .ok (.invokevirtual 50, 3) := by decide +kernel
theorem dL_law_354 : decode cL_law 354 = .ok (.iload 5, 2) := by decide +kernel
theorem dL_law_356 : decode cL_law 356 = .ok (.if_icmp .eq 5, 3) := by decide +kernel
theorem dL_law_359 : decode cL_law 359 = .ok (.iconst 0, 1) := by decide +kernel
theorem dL_law_360 : decode cL_law 360 = .ok (.ireturn, 1) := by decide +kernel
theorem dL_law_361 : decode cL_law 361 = .ok (.iload 5, 2) := by decide +kernel
theorem dL_law_363 : decode cL_law 363 = .ok (.ifCond .ne 22, 3) := by decide +kernel
theorem dL_law_366 : decode cL_law 366 = .ok (.aload_n 3, 1) := by decide +kernel
theorem dL_law_367 : decode cL_law 367 = .ok (.iconst 0, 1) := by decide +kernel
theorem dL_law_368 : decode cL_law 368 = .ok (.laload, 1) := by decide +kernel
theorem dL_law_369 : decode cL_law 369 = .ok (.iload 6, 2) := by decide +kernel
theorem dL_law_371 : decode cL_law 371 = .ok (.ifCond .eq 7, 3) := by decide +kernel
theorem dL_law_374 : decode cL_law 374 = .ok (.lconst 1, 1) := by decide +kernel
theorem dL_law_375 : decode cL_law 375 = .ok (.goto 4, 3) := by decide +kernel
theorem dL_law_378 : decode cL_law 378 = .ok (.lconst 0, 1) := by decide +kernel
theorem dL_law_379 : decode cL_law 379 = .ok (.lcmp, 1) := by decide +kernel
theorem dL_law_380 : decode cL_law 380 = .ok (.ifCond .eq 5, 3) := by decide +kernel
theorem dL_law_383 : decode cL_law 383 = .ok (.iconst 0, 1) := by decide +kernel
theorem dL_law_384 : decode cL_law 384 = .ok (.ireturn, 1) := by decide +kernel
theorem dL_law_385 : decode cL_law 385 = .ok (.goto 128, 3) := by decide +kernel
theorem dL_law_388 : decode cL_law 388 = .ok (.aload_n 1, 1) := by decide +kernel
theorem dL_law_389 : decode cL_law 389 = .ok (.aload_n 3, 1) := by decide +kernel
theorem dL_law_390 : decode cL_law 390 = .ok (.invokestatic 71, 3) := by decide +kernel
theorem dL_law_393 : decode cL_law 393 = .ok (.istore 5, 2) := by decide +kernel
theorem dL_law_395 : decode cL_law 395 = .ok (.aload_n 2, 1) := by decide +kernel
theorem dL_law_396 : decode cL_law 396 = .ok (.invokevirtual 73, 3) := by decide +kernel
theorem dL_law_399 : decode cL_law 399 = .ok (.istore 6, 2) := by decide +kernel
theorem dL_law_401 : decode cL_law 401 = .ok (.aload_n 2, 1) := by decide +kernel
theorem dL_law_402 : decode cL_law 402 = .ok (.invokevirtual 50, 3) := by decide +kernel
theorem dL_law_405 : decode cL_law 405 = .ok (.iload 5, 2) := by decide +kernel
theorem dL_law_407 : decode cL_law 407 = .ok (.if_icmp .eq 5, 3) := by decide +kernel
theorem dL_law_410 : decode cL_law 410 = .ok (.iconst 0, 1) := by decide +kernel
theorem dL_law_411 : decode cL_law 411 = .ok (.ireturn, 1) := by decide +kernel
theorem dL_law_412 : decode cL_law 412 = .ok (.iload 5, 2) := by decide +kernel
theorem dL_law_414 : decode cL_law 414 = .ok (.ifCond .ne 15, 3) := by decide +kernel
theorem dL_law_417 : decode cL_law 417 = .ok (.aload_n 3, 1) := by decide +kernel
theorem dL_law_418 : decode cL_law 418 = .ok (.iconst 0, 1) := by decide +kernel
theorem dL_law_419 : decode cL_law 419 = .ok (.laload, 1) := by decide +kernel
theorem dL_law_420 : decode cL_law 420 = .ok (.iload 6, 2) := by decide +kernel
theorem dL_law_422 : decode cL_law 422 = .ok (.i2l, 1) := by decide +kernel
theorem dL_law_423 : decode cL_law 423 = .ok (.lcmp, 1) := by decide +kernel
theorem dL_law_424 : decode cL_law 424 = .ok (.ifCond .eq 5, 3) := by decide +kernel
theorem dL_law_427 : decode cL_law 427 = .ok (.iconst 0, 1) := by decide +kernel
theorem dL_law_428 : decode cL_law 428 = .ok (.ireturn, 1) := by decide +kernel
theorem dL_law_429 : decode cL_law 429 = .ok (.goto 84, 3) := by decide +kernel
theorem dL_law_432 : decode cL_law 432 = .ok (.aload_n 1, 1) := by decide +kernel
theorem dL_law_433 : decode cL_law 433 = .ok (.aload_n 0, 1) := by decide +kernel
theorem dL_law_434 : decode cL_law 434 = .ok (.iload 4, 2) := by decide +kernel
theorem dL_law_436 : decode cL_law 436 = .ok (.iconst 1, 1) := by decide +kernel
theorem dL_law_437 : decode cL_law 437 = .ok (.iadd, 1) := by decide +kernel
theorem dL_law_438 : decode cL_law 438 = .ok (.iaload, 1) := by decide +kernel
theorem dL_law_439 : decode cL_law 439 = .ok (.aload_n 3, 1) := by decide +kernel
theorem dL_law_440 : decode cL_law 440 = .ok (.invokestatic 74, 3) := by decide +kernel
theorem dL_law_443 : decode cL_law 443 = .ok (.istore 5, 2) := by decide +kernel
theorem dL_law_445 : decode cL_law 445 = .ok (.aload_n 2, 1) := by decide +kernel
theorem dL_law_446 : decode cL_law 446 = .ok (.aload_n 0, 1) := by decide +kernel
theorem dL_law_447 : decode cL_law 447 = .ok (.iload 4, 2) := by decide +kernel
theorem dL_law_449 : decode cL_law 449 = .ok (.iconst 1, 1) := by decide +kernel
theorem dL_law_450 : decode cL_law 450 = .ok (.iadd, 1) := by decide +kernel
theorem dL_law_451 : decode cL_law 451 = .ok (.iaload, 1) := by decide +kernel
theorem dL_law_452 : decode cL_law 452 = .ok (.invokevirtual 76, 3) := by decide +kernel
theorem dL_law_455 : decode cL_law 455 = .ok (.istore 6, 2) := by decide +kernel
theorem dL_law_457 : decode cL_law 457 = .ok (.aload_n 2, 1) := by decide +kernel
theorem dL_law_458 : decode cL_law 458 = .ok (.invokevirtual 50, 3) := by decide +kernel
theorem dL_law_461 : decode cL_law 461 = .ok (.iload 5, 2) := by decide +kernel
theorem dL_law_463 : decode cL_law 463 = .ok (.if_icmp .eq 5, 3) := by decide +kernel
theorem dL_law_466 : decode cL_law 466 = .ok (.iconst 0, 1) := by decide +kernel
theorem dL_law_467 : decode cL_law 467 = .ok (.ireturn, 1) := by decide +kernel
theorem dL_law_468 : decode cL_law 468 = .ok (.iload 5, 2) := by decide +kernel
theorem dL_law_470 : decode cL_law 470 = .ok (.ifCond .ne 15, 3) := by decide +kernel
theorem dL_law_473 : decode cL_law 473 = .ok (.aload_n 3, 1) := by decide +kernel
theorem dL_law_474 : decode cL_law 474 = .ok (.iconst 0, 1) := by decide +kernel
theorem dL_law_475 : decode cL_law 475 = .ok (.laload, 1) := by decide +kernel
theorem dL_law_476 : decode cL_law 476 = .ok (.iload 6, 2) := by decide +kernel
theorem dL_law_478 : decode cL_law 478 = .ok (.i2l, 1) := by decide +kernel
theorem dL_law_479 : decode cL_law 479 = .ok (.lcmp, 1) := by decide +kernel
theorem dL_law_480 : decode cL_law 480 = .ok (.ifCond .eq 5, 3) := by decide +kernel
theorem dL_law_483 : decode cL_law 483 = .ok (.iconst 0, 1) := by decide +kernel
theorem dL_law_484 : decode cL_law 484 = .ok (.ireturn, 1) := by decide +kernel
theorem dL_law_485 : decode cL_law 485 = .ok (.goto 28, 3) := by decide +kernel
theorem dL_law_488 : decode cL_law 488 = .ok (.aload_n 1, 1) := by decide +kernel
theorem dL_law_489 : decode cL_law 489 = .ok (.aload_n 0, 1) := by decide +kernel
theorem dL_law_490 : decode cL_law 490 = .ok (.iload 4, 2) := by decide +kernel
theorem dL_law_492 : decode cL_law 492 = .ok (.iconst 1, 1) := by decide +kernel
theorem dL_law_493 : decode cL_law 493 = .ok (.iadd, 1) := by decide +kernel
theorem dL_law_494 : decode cL_law 494 = .ok (.iaload, 1) := by decide +kernel
theorem dL_law_495 : decode cL_law 495 = .ok (.invokevirtual 77, 3) := by decide +kernel
theorem dL_law_498 : decode cL_law 498 = .ok (.aload_n 2, 1) := by decide +kernel
theorem dL_law_499 : decode cL_law 499 = .ok (.aload_n 0, 1) := by decide +kernel
theorem dL_law_500 : decode cL_law 500 = .ok (.iload 4, 2) := by decide +kernel
theorem dL_law_502 : decode cL_law 502 = .ok (.iconst 1, 1) := by decide +kernel
theorem dL_law_503 : decode cL_law 503 = .ok (.iadd, 1) := by decide +kernel
theorem dL_law_504 : decode cL_law 504 = .ok (.iaload, 1) := by decide +kernel
theorem dL_law_505 : decode cL_law 505 = .ok (.invokevirtual 80, 3) := by decide +kernel
theorem dL_law_508 : decode cL_law 508 = .ok (.if_icmp .eq 5, 3) := by decide +kernel
theorem dL_law_511 : decode cL_law 511 = .ok (.iconst 0, 1) := by decide +kernel
theorem dL_law_512 : decode cL_law 512 = .ok (.ireturn, 1) := by decide +kernel
theorem dL_law_513 : decode cL_law 513 = .ok (.iinc 4 3, 3) := by decide +kernel
theorem dL_law_516 : decode cL_law 516 = .ok (.goto (-493), 3) := by decide +kernel
theorem dL_law_519 : decode cL_law 519 = .ok (.iconst 1, 1) := by decide +kernel
theorem dL_law_520 : decode cL_law 520 = .ok (.ireturn, 1) := by decide +kernel
end
section
/-! ABSTRACT ROWS (aw_): the world is ONE list of cells, hp, at the addresses ad 0, ad 1, ..; locals are a list of options; a row an instruction -/
def aw_ws (ad : Nat → Nat) (hp : List va_E) : va_W := hp.mapIdx (fun i e => (ad i, e))
theorem aw_ws_at {ad : Nat → Nat} {hp : List va_E} {k : Nat} {e : va_E} (h : hp[k]? = some e) : (aw_ws ad hp)[k]? = some (ad k, e) := by
  simp [aw_ws, List.getElem?_mapIdx, h]
theorem aw_ws_set (ad : Nat → Nat) (hp : List va_E) (k : Nat) (e : va_E) : (aw_ws ad hp).set k (ad k, e) = aw_ws ad (hp.set k e) := by
  apply List.ext_getElem?
  intro i
  simp only [aw_ws, List.getElem?_mapIdx, List.getElem?_set, List.length_mapIdx]
  by_cases h : k = i
  · subst h
    by_cases h2 : k < hp.length <;> simp [h2]
  · simp [h]
def aw_L (ls : Array Slot) (nL : Nat) (L : List (Option Value)) : Prop := ls.size = nL ∧ lv_wf ls ∧ ∀ (i : Nat) (v : Value), L[i]? = some (some v) → ls[i]? = some (.val v)
def aw_pr (L : List (Option Value)) : List (Nat × Value) := (List.range L.length).filterMap (fun i => (L[i]?.bind id).map (fun v => (i, v)))
theorem aw_L.has {ls : Array Slot} {nL : Nat} {L : List (Option Value)} (h : aw_L ls nL L) : lv_has ls nL (aw_pr L) := by
  refine ⟨h.1, h.2.1, fun q hq => ?_⟩
  obtain ⟨i, -, hi⟩ := List.mem_filterMap.mp hq
  cases hv : L[i]? with
  | none => rw [hv] at hi; cases hi
  | some o =>
    cases o with
    | none => rw [hv] at hi; cases hi
    | some v =>
      rw [hv] at hi
      cases hi
      exact h.2.2 i v hv
theorem aw_pr_mem {L : List (Option Value)} {i : Nat} {v : Value} (h : L[i]? = some (some v)) : (i, v) ∈ aw_pr L := by
  refine List.mem_filterMap.mpr ⟨i, List.mem_range.mpr (List.getElem?_eq_some_iff.mp h).1, ?_⟩
  rw [h]
  rfl
def aw_c2 (v : Option (Option Value)) : Bool := match v with
  | some (some w) => w.category == 2
  | _ => false
def aw_clr (L : List (Option Value)) (i : Nat) : List (Option Value) := match i with
  | 0 => L
  | j + 1 => if aw_c2 L[j]? = true then L.set j none else L
theorem aw_clr_spec {L : List (Option Value)} {i j : Nat} {w : Value} (h : (aw_clr L i)[j]? = some (some w)) : L[j]? = some (some w) ∧ ¬ (j + 1 = i ∧ w.category = 2) := by
  cases i with
  | zero => exact ⟨h, fun q => absurd q.1 (Nat.succ_ne_zero j)⟩
  | succ k =>
    have h' : (if aw_c2 L[k]? = true then L.set k none else L)[j]? = some (some w) := h
    by_cases hc : aw_c2 L[k]? = true
    · rw [if_pos hc] at h'
      by_cases e : k = j
      · subst e
        rw [List.getElem?_set] at h'
        simp at h'
      · rw [List.getElem?_set_ne e] at h'
        exact ⟨h', fun q => e (by omega)⟩
    · rw [if_neg hc] at h'
      refine ⟨h', fun q => hc ?_⟩
      have e : j = k := by omega
      subst e
      rw [h']
      show (w.category == 2) = true
      rw [q.2]
      rfl
def aw_st1 (L : List (Option Value)) (i : Nat) (v : Value) : List (Option Value) := (aw_clr L i).set i (some v)
def aw_st2 (L : List (Option Value)) (i : Nat) (v : Value) : List (Option Value) := ((aw_clr L i).set i (some v)).set (i + 1) none
theorem aw_L.st1 {ls' : Array Slot} {nL : Nat} {L : List (Option Value)} {i : Nat} {v : Value} (h' : lv_has ls' nL ((i, v) :: (aw_pr L).filter (fun q => !(q.1 == i) && !(q.1 + 1 == i && q.2.category == 2)))) : aw_L ls' nL (aw_st1 L i v) := by
  refine ⟨h'.1, h'.2.1, fun j w hj => ?_⟩
  by_cases e : j = i
  · subst e
    have hj2 : ((aw_clr L j).set j (some v))[j]? = some (some w) := hj
    rw [List.getElem?_set] at hj2
    by_cases q : j < (aw_clr L j).length
    · simp [q] at hj2
      subst hj2
      exact h'.2.2 (j, v) List.mem_cons_self
    · simp [q] at hj2
  · have hj2 : ((aw_clr L i).set i (some v))[j]? = some (some w) := hj
    rw [List.getElem?_set_ne (fun q => e q.symm)] at hj2
    obtain ⟨h1, h2⟩ := aw_clr_spec hj2
    refine h'.2.2 (j, w) (List.mem_cons_of_mem _ (List.mem_filter.mpr ⟨aw_pr_mem h1, ?_⟩))
    simp only [Bool.and_eq_true, Bool.not_eq_true', beq_eq_false_iff_ne, ne_eq, Bool.and_eq_false_iff]
    refine ⟨e, ?_⟩
    by_cases a : j + 1 = i
    · exact Or.inr (fun b => h2 ⟨a, b⟩)
    · exact Or.inl a
theorem aw_L.st2 {ls' : Array Slot} {nL : Nat} {L : List (Option Value)} {i : Nat} {v : Value} (h' : lv_has ls' nL ((i, v) :: (aw_pr L).filter (fun q => !(q.1 == i) && (!(q.1 == i + 1) && !(q.1 + 1 == i && q.2.category == 2))))) : aw_L ls' nL (aw_st2 L i v) := by
  refine ⟨h'.1, h'.2.1, fun j w hj => ?_⟩
  have hj1 : (((aw_clr L i).set i (some v)).set (i + 1) none)[j]? = some (some w) := hj
  by_cases f : j = i + 1
  · subst f
    rw [List.getElem?_set] at hj1
    simp at hj1
  · rw [List.getElem?_set_ne (fun q => f q.symm)] at hj1
    by_cases e : j = i
    · subst e
      rw [List.getElem?_set] at hj1
      by_cases q : j < (aw_clr L j).length
      · simp [q] at hj1
        subst hj1
        exact h'.2.2 (j, v) List.mem_cons_self
      · simp [q] at hj1
    · rw [List.getElem?_set_ne (fun q => e q.symm)] at hj1
      obtain ⟨h1, h2⟩ := aw_clr_spec hj1
      refine h'.2.2 (j, w) (List.mem_cons_of_mem _ (List.mem_filter.mpr ⟨aw_pr_mem h1, ?_⟩))
      simp only [Bool.and_eq_true, Bool.not_eq_true', beq_eq_false_iff_ne, ne_eq, Bool.and_eq_false_iff]
      refine ⟨e, f, ?_⟩
      by_cases a : j + 1 = i
      · exact Or.inr (fun b => h2 ⟨a, b⟩)
      · exact Or.inl a
def aw_sl (av : List Value) : List (Option Value) := av.flatMap (fun v => if v.category = 2 then [some v, none] else [some v])
def aw_ent (av : List Value) (n : Nat) : List (Option Value) := aw_sl av ++ List.replicate (n - (lg_sl av).length) none
theorem aw_sl_mem (av : List Value) : ∀ (k i : Nat) (v : Value), (aw_sl av)[i]? = some (some v) → (k + i, v) ∈ lv_args k av := by
  induction av with
  | nil => intro k i v h; simp [aw_sl] at h
  | cons a t ih =>
    intro k i v h
    have e : aw_sl (a :: t) = (if a.category = 2 then [some a, none] else [some a]) ++ aw_sl t := by simp [aw_sl]
    rw [e] at h
    show (k + i, v) ∈ (k, a) :: lv_args (if a.category = 2 then k + 2 else k + 1) t
    by_cases c : a.category = 2
    · rw [if_pos c] at h ⊢
      match i, h with
      | 0, h => simp at h; subst h; exact List.mem_cons_self
      | 1, h => simp at h
      | i + 2, h =>
        have h2 : (aw_sl t)[i]? = some (some v) := by simpa using h
        have := ih (k + 2) i v h2
        rw [show k + (i + 2) = k + 2 + i by omega]
        exact List.mem_cons_of_mem _ this
    · rw [if_neg c] at h ⊢
      match i, h with
      | 0, h => simp at h; subst h; exact List.mem_cons_self
      | i + 1, h =>
        have h2 : (aw_sl t)[i]? = some (some v) := by simpa using h
        have := ih (k + 1) i v h2
        rw [show k + (i + 1) = k + 1 + i by omega]
        exact List.mem_cons_of_mem _ this
theorem aw_entry (av : List Value) {n : Nat} (h : (lg_sl av).length ≤ n) : aw_L ((lg_sl av ++ List.replicate (n - (lg_sl av).length) Slot.unset).toArray) n (aw_ent av n) := by
  obtain ⟨h1, h2, h3⟩ := lv_entry av h
  refine ⟨h1, h2, fun i v hi => ?_⟩
  have hi2 : (aw_sl av)[i]? = some (some v) := by
    by_cases q : i < (aw_sl av).length
    · rw [aw_ent, List.getElem?_append_left q] at hi
      exact hi
    · rw [aw_ent, List.getElem?_append_right (Nat.not_lt.mp q), List.getElem?_replicate] at hi
      split at hi <;> simp at hi
  have h4 := aw_sl_mem av 0 i v hi2
  rw [Nat.zero_add] at h4
  exact h3 (i, v) h4

abbrev aw_F (p : Program) (s : State) (m : MethodId) (c : Code) (args : Array Value) (cc : ByteArray) (nL : Nat) (Ts : List Cond) (own : String) (D : va_G) (cl : List vw_C) (tys : List (ClassId × FieldType)) : Prop := CallFix p m c cc nL s args Ts own ∧ va_K D cl tys s
def aW (p : Program) (l : Launch) (e : Env) (R : Room) (s : State) (m : MethodId) (args : Array Value) (below : List Frame) (meth : Method) (c : Code) (cells slots : Nat) (Q : State → Prop) (D : va_G) (cl : List vw_C) (A : Nat → Prop) (ad : Nat → Nat) (nL : Nat) (hp : List va_E) (L : List (Option Value)) (pc : Nat) (st : List Value) : Prop :=
  ∀ (H : Heap) (locs : List Loc) (ls : Array Slot), va_P D cl (aw_ws ad hp) H → va_D A (aw_ws ad hp) → va_S A s.heap H locs → aw_L ls nL L → W p l e R s m args below meth c H locs cells slots Q (F0 m pc ls st)
section AWR
variable {p : Program} {l : Launch} {e : Env} {R : Room} {s : State} {m : MethodId} {args : Array Value} {below : List Frame} {meth : Method} {c : Code} {cells slots : Nat} {Q : State → Prop} {D : va_G} {cl : List vw_C} {A : Nat → Prop} {ad : Nat → Nat} {nL : Nat} {hp hp' : List va_E} {L L' : List (Option Value)} {pc : Nat} {st : List Value} {cc : ByteArray} {Ts : List Cond} {own : String} {tys : List (ClassId × FieldType)}
theorem aw_iconst {n : Int} {v : Int32} (F : aw_F p s m c args cc nL Ts own D cl tys) (hd : decode cc pc = .ok (.iconst n, 1)) (hv : Int32.ofInt n = v) (k : aW p l e R s m args below meth c cells slots Q D cl A ad nL hp L (pc + 1) (.int v :: st)) : aW p l e R s m args below meth c cells slots Q D cl A ad nL hp L (pc) (st) :=
  fun H locs ls h1 h2 h3 h4 => lv_iconst F.1.1 F.1.2.1 hd hv (k H locs ls h1 h2 h3 h4)
theorem aw_bipush {n : Int} {v : Int32} (F : aw_F p s m c args cc nL Ts own D cl tys) (hd : decode cc pc = .ok (.bipush n, 2)) (hv : (Int8.ofInt n).toInt32 = v) (k : aW p l e R s m args below meth c cells slots Q D cl A ad nL hp L (pc + 2) (.int v :: st)) : aW p l e R s m args below meth c cells slots Q D cl A ad nL hp L (pc) (st) :=
  fun H locs ls h1 h2 h3 h4 => lv_bipush F.1.1 F.1.2.1 hd hv (k H locs ls h1 h2 h3 h4)
theorem aw_sipush {n : Int} {v : Int32} (F : aw_F p s m c args cc nL Ts own D cl tys) (hd : decode cc pc = .ok (.sipush n, 3)) (hv : (Int16.ofInt n).toInt32 = v) (k : aW p l e R s m args below meth c cells slots Q D cl A ad nL hp L (pc + 3) (.int v :: st)) : aW p l e R s m args below meth c cells slots Q D cl A ad nL hp L (pc) (st) :=
  fun H locs ls h1 h2 h3 h4 => lv_sipush F.1.1 F.1.2.1 hd hv (k H locs ls h1 h2 h3 h4)
theorem aw_lconst {n : Fin 2} {v : Int64} (F : aw_F p s m c args cc nL Ts own D cl tys) (hd : decode cc pc = .ok (.lconst n, 1)) (hv : Int64.ofNat (n : Nat) = v) (k : aW p l e R s m args below meth c cells slots Q D cl A ad nL hp L (pc + 1) (.long v :: st)) : aW p l e R s m args below meth c cells slots Q D cl A ad nL hp L (pc) (st) :=
  fun H locs ls h1 h2 h3 h4 => lv_lconst F.1.1 F.1.2.1 hd hv (k H locs ls h1 h2 h3 h4)
theorem aw_iload_n {kf : Fin 4} {i : Nat} {x : Int32} (F : aw_F p s m c args cc nL Ts own D cl tys) (hd : decode cc pc = .ok (.iload_n kf, 1)) (hi : (kf : Nat) = i) (hL : L[i]? = some (some (.int x))) (k : aW p l e R s m args below meth c cells slots Q D cl A ad nL hp L (pc + 1) (.int x :: st)) : aW p l e R s m args below meth c cells slots Q D cl A ad nL hp L (pc) (st) :=
  fun H locs ls h1 h2 h3 h4 => lv_iload_n F.1.1 F.1.2.1 hd hi (h4.2.2 i _ hL) (k H locs ls h1 h2 h3 h4)
theorem aw_iload {i : Nat} {x : Int32} (F : aw_F p s m c args cc nL Ts own D cl tys) (hd : decode cc pc = .ok (.iload i, 2)) (hL : L[i]? = some (some (.int x))) (k : aW p l e R s m args below meth c cells slots Q D cl A ad nL hp L (pc + 2) (.int x :: st)) : aW p l e R s m args below meth c cells slots Q D cl A ad nL hp L (pc) (st) :=
  fun H locs ls h1 h2 h3 h4 => lv_iload F.1.1 F.1.2.1 hd (h4.2.2 i _ hL) (k H locs ls h1 h2 h3 h4)
theorem aw_istore_n {kf : Fin 4} {i : Nat} {x : Int32} (F : aw_F p s m c args cc nL Ts own D cl tys) (hd : decode cc pc = .ok (.istore_n kf, 1)) (hi : (kf : Nat) = i) (hn : i < nL) (hL : aw_st1 L i (.int x) = L') (k : aW p l e R s m args below meth c cells slots Q D cl A ad nL hp L' (pc + 1) (st)) : aW p l e R s m args below meth c cells slots Q D cl A ad nL hp L (pc) (.int x :: st) :=
  fun H locs ls h1 h2 h3 h4 => lv_istore_n F.1.1 F.1.2.1 hd hi h4.has hn rfl (fun ls' h' => k H locs ls' h1 h2 h3 (hL ▸ aw_L.st1 h'))
theorem aw_istore {i : Nat} {x : Int32} (F : aw_F p s m c args cc nL Ts own D cl tys) (hd : decode cc pc = .ok (.istore i, 2))  (hn : i < nL) (hL : aw_st1 L i (.int x) = L') (k : aW p l e R s m args below meth c cells slots Q D cl A ad nL hp L' (pc + 2) (st)) : aW p l e R s m args below meth c cells slots Q D cl A ad nL hp L (pc) (.int x :: st) :=
  fun H locs ls h1 h2 h3 h4 => lv_istore F.1.1 F.1.2.1 hd h4.has hn rfl (fun ls' h' => k H locs ls' h1 h2 h3 (hL ▸ aw_L.st1 h'))
theorem aw_lload_n {kf : Fin 4} {i : Nat} {x : Int64} (F : aw_F p s m c args cc nL Ts own D cl tys) (hd : decode cc pc = .ok (.lload_n kf, 1)) (hi : (kf : Nat) = i) (hL : L[i]? = some (some (.long x))) (k : aW p l e R s m args below meth c cells slots Q D cl A ad nL hp L (pc + 1) (.long x :: st)) : aW p l e R s m args below meth c cells slots Q D cl A ad nL hp L (pc) (st) :=
  fun H locs ls h1 h2 h3 h4 => lv_lload_n F.1.1 F.1.2.1 hd hi (h4.2.2 i _ hL) (k H locs ls h1 h2 h3 h4)
theorem aw_lload {i : Nat} {x : Int64} (F : aw_F p s m c args cc nL Ts own D cl tys) (hd : decode cc pc = .ok (.lload i, 2)) (hL : L[i]? = some (some (.long x))) (k : aW p l e R s m args below meth c cells slots Q D cl A ad nL hp L (pc + 2) (.long x :: st)) : aW p l e R s m args below meth c cells slots Q D cl A ad nL hp L (pc) (st) :=
  fun H locs ls h1 h2 h3 h4 => lv_lload F.1.1 F.1.2.1 hd (h4.2.2 i _ hL) (k H locs ls h1 h2 h3 h4)
theorem aw_lstore_n {kf : Fin 4} {i : Nat} {x : Int64} (F : aw_F p s m c args cc nL Ts own D cl tys) (hd : decode cc pc = .ok (.lstore_n kf, 1)) (hi : (kf : Nat) = i) (hn : i + 1 < nL) (hL : aw_st2 L i (.long x) = L') (k : aW p l e R s m args below meth c cells slots Q D cl A ad nL hp L' (pc + 1) (st)) : aW p l e R s m args below meth c cells slots Q D cl A ad nL hp L (pc) (.long x :: st) :=
  fun H locs ls h1 h2 h3 h4 => lv_lstore_n F.1.1 F.1.2.1 hd hi h4.has hn rfl (fun ls' h' => k H locs ls' h1 h2 h3 (hL ▸ aw_L.st2 h'))
theorem aw_lstore {i : Nat} {x : Int64} (F : aw_F p s m c args cc nL Ts own D cl tys) (hd : decode cc pc = .ok (.lstore i, 2))  (hn : i + 1 < nL) (hL : aw_st2 L i (.long x) = L') (k : aW p l e R s m args below meth c cells slots Q D cl A ad nL hp L' (pc + 2) (st)) : aW p l e R s m args below meth c cells slots Q D cl A ad nL hp L (pc) (.long x :: st) :=
  fun H locs ls h1 h2 h3 h4 => lv_lstore F.1.1 F.1.2.1 hd h4.has hn rfl (fun ls' h' => k H locs ls' h1 h2 h3 (hL ▸ aw_L.st2 h'))
theorem aw_aload_n {kf : Fin 4} {i : Nat} {x : Nat} (F : aw_F p s m c args cc nL Ts own D cl tys) (hd : decode cc pc = .ok (.aload_n kf, 1)) (hi : (kf : Nat) = i) (hL : L[i]? = some (some (.ref x))) (k : aW p l e R s m args below meth c cells slots Q D cl A ad nL hp L (pc + 1) (.ref x :: st)) : aW p l e R s m args below meth c cells slots Q D cl A ad nL hp L (pc) (st) :=
  fun H locs ls h1 h2 h3 h4 => lv_aload_n F.1.1 F.1.2.1 hd hi (h4.2.2 i _ hL) (k H locs ls h1 h2 h3 h4)
theorem aw_aload {i : Nat} {x : Nat} (F : aw_F p s m c args cc nL Ts own D cl tys) (hd : decode cc pc = .ok (.aload i, 2)) (hL : L[i]? = some (some (.ref x))) (k : aW p l e R s m args below meth c cells slots Q D cl A ad nL hp L (pc + 2) (.ref x :: st)) : aW p l e R s m args below meth c cells slots Q D cl A ad nL hp L (pc) (st) :=
  fun H locs ls h1 h2 h3 h4 => lv_aload F.1.1 F.1.2.1 hd (h4.2.2 i _ hL) (k H locs ls h1 h2 h3 h4)
theorem aw_astore_n {kf : Fin 4} {i : Nat} {x : Nat} (F : aw_F p s m c args cc nL Ts own D cl tys) (hd : decode cc pc = .ok (.astore_n kf, 1)) (hi : (kf : Nat) = i) (hn : i < nL) (hL : aw_st1 L i (.ref x) = L') (k : aW p l e R s m args below meth c cells slots Q D cl A ad nL hp L' (pc + 1) (st)) : aW p l e R s m args below meth c cells slots Q D cl A ad nL hp L (pc) (.ref x :: st) :=
  fun H locs ls h1 h2 h3 h4 => lv_astore_n F.1.1 F.1.2.1 hd hi h4.has hn rfl (fun ls' h' => k H locs ls' h1 h2 h3 (hL ▸ aw_L.st1 h'))
theorem aw_astore {i : Nat} {x : Nat} (F : aw_F p s m c args cc nL Ts own D cl tys) (hd : decode cc pc = .ok (.astore i, 2))  (hn : i < nL) (hL : aw_st1 L i (.ref x) = L') (k : aW p l e R s m args below meth c cells slots Q D cl A ad nL hp L' (pc + 2) (st)) : aW p l e R s m args below meth c cells slots Q D cl A ad nL hp L (pc) (.ref x :: st) :=
  fun H locs ls h1 h2 h3 h4 => lv_astore F.1.1 F.1.2.1 hd h4.has hn rfl (fun ls' h' => k H locs ls' h1 h2 h3 (hL ▸ aw_L.st1 h'))
theorem aw_iinc {i : Nat} {n : Int} {x v : Int32} (F : aw_F p s m c args cc nL Ts own D cl tys) (hd : decode cc pc = .ok (.iinc i n, 3)) (hx : L[i]? = some (some (.int x))) (hv : x + Int32.ofInt n = v) (hn : i < nL) (hL : aw_st1 L i (.int v) = L') (k : aW p l e R s m args below meth c cells slots Q D cl A ad nL hp L' (pc + 3) (st)) : aW p l e R s m args below meth c cells slots Q D cl A ad nL hp L (pc) (st) := by
  intro H locs ls h1 h2 h3 h4
  obtain ⟨j, hj⟩ := List.getElem?_of_mem (aw_pr_mem hx)
  exact lv_iinc F.1.1 F.1.2.1 hd h4.has hj hv hn rfl (fun ls' h' => k H locs ls' h1 h2 h3 (hL ▸ aw_L.st1 h'))
theorem aw_iadd {x y : Int32} (F : aw_F p s m c args cc nL Ts own D cl tys) (hd : decode cc pc = .ok (.iadd, 1))  (k : aW p l e R s m args below meth c cells slots Q D cl A ad nL hp L (pc + 1) (.int (x + y) :: st)) : aW p l e R s m args below meth c cells slots Q D cl A ad nL hp L (pc) (.int y :: .int x :: st) :=
  fun H locs ls h1 h2 h3 h4 => lv_iadd F.1.1 F.1.2.1 hd  (k H locs ls h1 h2 h3 h4)
theorem aw_isub {x y : Int32} (F : aw_F p s m c args cc nL Ts own D cl tys) (hd : decode cc pc = .ok (.isub, 1))  (k : aW p l e R s m args below meth c cells slots Q D cl A ad nL hp L (pc + 1) (.int (x - y) :: st)) : aW p l e R s m args below meth c cells slots Q D cl A ad nL hp L (pc) (.int y :: .int x :: st) :=
  fun H locs ls h1 h2 h3 h4 => lv_isub F.1.1 F.1.2.1 hd  (k H locs ls h1 h2 h3 h4)
theorem aw_imul {x y : Int32} (F : aw_F p s m c args cc nL Ts own D cl tys) (hd : decode cc pc = .ok (.imul, 1))  (k : aW p l e R s m args below meth c cells slots Q D cl A ad nL hp L (pc + 1) (.int (x * y) :: st)) : aW p l e R s m args below meth c cells slots Q D cl A ad nL hp L (pc) (.int y :: .int x :: st) :=
  fun H locs ls h1 h2 h3 h4 => lv_imul F.1.1 F.1.2.1 hd  (k H locs ls h1 h2 h3 h4)
theorem aw_iand {x y : Int32} (F : aw_F p s m c args cc nL Ts own D cl tys) (hd : decode cc pc = .ok (.iand, 1))  (k : aW p l e R s m args below meth c cells slots Q D cl A ad nL hp L (pc + 1) (.int (x &&& y) :: st)) : aW p l e R s m args below meth c cells slots Q D cl A ad nL hp L (pc) (.int y :: .int x :: st) :=
  fun H locs ls h1 h2 h3 h4 => lv_iand F.1.1 F.1.2.1 hd  (k H locs ls h1 h2 h3 h4)
theorem aw_ior {x y : Int32} (F : aw_F p s m c args cc nL Ts own D cl tys) (hd : decode cc pc = .ok (.ior, 1))  (k : aW p l e R s m args below meth c cells slots Q D cl A ad nL hp L (pc + 1) (.int (x ||| y) :: st)) : aW p l e R s m args below meth c cells slots Q D cl A ad nL hp L (pc) (.int y :: .int x :: st) :=
  fun H locs ls h1 h2 h3 h4 => lv_ior F.1.1 F.1.2.1 hd  (k H locs ls h1 h2 h3 h4)
theorem aw_ixor {x y : Int32} (F : aw_F p s m c args cc nL Ts own D cl tys) (hd : decode cc pc = .ok (.ixor, 1))  (k : aW p l e R s m args below meth c cells slots Q D cl A ad nL hp L (pc + 1) (.int (x ^^^ y) :: st)) : aW p l e R s m args below meth c cells slots Q D cl A ad nL hp L (pc) (.int y :: .int x :: st) :=
  fun H locs ls h1 h2 h3 h4 => lv_ixor F.1.1 F.1.2.1 hd  (k H locs ls h1 h2 h3 h4)
theorem aw_ishl {x y : Int32} (F : aw_F p s m c args cc nL Ts own D cl tys) (hd : decode cc pc = .ok (.ishl, 1))  (k : aW p l e R s m args below meth c cells slots Q D cl A ad nL hp L (pc + 1) (.int (x <<< (y &&& 31)) :: st)) : aW p l e R s m args below meth c cells slots Q D cl A ad nL hp L (pc) (.int y :: .int x :: st) :=
  fun H locs ls h1 h2 h3 h4 => lv_ishl F.1.1 F.1.2.1 hd  (k H locs ls h1 h2 h3 h4)
theorem aw_ishr {x y : Int32} (F : aw_F p s m c args cc nL Ts own D cl tys) (hd : decode cc pc = .ok (.ishr, 1))  (k : aW p l e R s m args below meth c cells slots Q D cl A ad nL hp L (pc + 1) (.int (x >>> (y &&& 31)) :: st)) : aW p l e R s m args below meth c cells slots Q D cl A ad nL hp L (pc) (.int y :: .int x :: st) :=
  fun H locs ls h1 h2 h3 h4 => lv_ishr F.1.1 F.1.2.1 hd  (k H locs ls h1 h2 h3 h4)
theorem aw_ladd {x y : Int64} (F : aw_F p s m c args cc nL Ts own D cl tys) (hd : decode cc pc = .ok (.ladd, 1))  (k : aW p l e R s m args below meth c cells slots Q D cl A ad nL hp L (pc + 1) (.long (x + y) :: st)) : aW p l e R s m args below meth c cells slots Q D cl A ad nL hp L (pc) (.long y :: .long x :: st) :=
  fun H locs ls h1 h2 h3 h4 => lv_ladd F.1.1 F.1.2.1 hd  (k H locs ls h1 h2 h3 h4)
theorem aw_lsub {x y : Int64} (F : aw_F p s m c args cc nL Ts own D cl tys) (hd : decode cc pc = .ok (.lsub, 1))  (k : aW p l e R s m args below meth c cells slots Q D cl A ad nL hp L (pc + 1) (.long (x - y) :: st)) : aW p l e R s m args below meth c cells slots Q D cl A ad nL hp L (pc) (.long y :: .long x :: st) :=
  fun H locs ls h1 h2 h3 h4 => lv_lsub F.1.1 F.1.2.1 hd  (k H locs ls h1 h2 h3 h4)
theorem aw_lmul {x y : Int64} (F : aw_F p s m c args cc nL Ts own D cl tys) (hd : decode cc pc = .ok (.lmul, 1))  (k : aW p l e R s m args below meth c cells slots Q D cl A ad nL hp L (pc + 1) (.long (x * y) :: st)) : aW p l e R s m args below meth c cells slots Q D cl A ad nL hp L (pc) (.long y :: .long x :: st) :=
  fun H locs ls h1 h2 h3 h4 => lv_lmul F.1.1 F.1.2.1 hd  (k H locs ls h1 h2 h3 h4)
theorem aw_land {x y : Int64} (F : aw_F p s m c args cc nL Ts own D cl tys) (hd : decode cc pc = .ok (.land, 1))  (k : aW p l e R s m args below meth c cells slots Q D cl A ad nL hp L (pc + 1) (.long (x &&& y) :: st)) : aW p l e R s m args below meth c cells slots Q D cl A ad nL hp L (pc) (.long y :: .long x :: st) :=
  fun H locs ls h1 h2 h3 h4 => lv_land F.1.1 F.1.2.1 hd  (k H locs ls h1 h2 h3 h4)
theorem aw_lor {x y : Int64} (F : aw_F p s m c args cc nL Ts own D cl tys) (hd : decode cc pc = .ok (.lor, 1))  (k : aW p l e R s m args below meth c cells slots Q D cl A ad nL hp L (pc + 1) (.long (x ||| y) :: st)) : aW p l e R s m args below meth c cells slots Q D cl A ad nL hp L (pc) (.long y :: .long x :: st) :=
  fun H locs ls h1 h2 h3 h4 => lv_lor F.1.1 F.1.2.1 hd  (k H locs ls h1 h2 h3 h4)
theorem aw_lxor {x y : Int64} (F : aw_F p s m c args cc nL Ts own D cl tys) (hd : decode cc pc = .ok (.lxor, 1))  (k : aW p l e R s m args below meth c cells slots Q D cl A ad nL hp L (pc + 1) (.long (x ^^^ y) :: st)) : aW p l e R s m args below meth c cells slots Q D cl A ad nL hp L (pc) (.long y :: .long x :: st) :=
  fun H locs ls h1 h2 h3 h4 => lv_lxor F.1.1 F.1.2.1 hd  (k H locs ls h1 h2 h3 h4)
theorem aw_ineg {x : Int32} (F : aw_F p s m c args cc nL Ts own D cl tys) (hd : decode cc pc = .ok (.ineg, 1))  (k : aW p l e R s m args below meth c cells slots Q D cl A ad nL hp L (pc + 1) (.int (-x) :: st)) : aW p l e R s m args below meth c cells slots Q D cl A ad nL hp L (pc) (.int x :: st) :=
  fun H locs ls h1 h2 h3 h4 => lv_ineg F.1.1 F.1.2.1 hd  (k H locs ls h1 h2 h3 h4)
theorem aw_iushr {x y v : Int32} (F : aw_F p s m c args cc nL Ts own D cl tys) (hd : decode cc pc = .ok (.iushr, 1)) (hv : (x.toUInt32 >>> (y.toUInt32 &&& Int32.toUInt32 31)).toInt32 = v) (k : aW p l e R s m args below meth c cells slots Q D cl A ad nL hp L (pc + 1) (.int v :: st)) : aW p l e R s m args below meth c cells slots Q D cl A ad nL hp L (pc) (.int y :: .int x :: st) :=
  fun H locs ls h1 h2 h3 h4 => lv_iushr F.1.1 F.1.2.1 hd hv (k H locs ls h1 h2 h3 h4)
theorem aw_lushr {x v : Int64} {y : Int32} (F : aw_F p s m c args cc nL Ts own D cl tys) (hd : decode cc pc = .ok (.lushr, 1)) (hv : (x.toUInt64 >>> (y.toInt64.toUInt64 &&& Int64.toUInt64 63)).toInt64 = v) (k : aW p l e R s m args below meth c cells slots Q D cl A ad nL hp L (pc + 1) (.long v :: st)) : aW p l e R s m args below meth c cells slots Q D cl A ad nL hp L (pc) (.int y :: .long x :: st) :=
  fun H locs ls h1 h2 h3 h4 => lv_lushr F.1.1 F.1.2.1 hd hv (k H locs ls h1 h2 h3 h4)
theorem aw_lshl {x v : Int64} {y : Int32} (F : aw_F p s m c args cc nL Ts own D cl tys) (hd : decode cc pc = .ok (.lshl, 1)) (hv : x <<< (y.toInt64 &&& 63) = v) (k : aW p l e R s m args below meth c cells slots Q D cl A ad nL hp L (pc + 1) (.long v :: st)) : aW p l e R s m args below meth c cells slots Q D cl A ad nL hp L (pc) (.int y :: .long x :: st) :=
  fun H locs ls h1 h2 h3 h4 => lv_lshl F.1.1 F.1.2.1 hd hv (k H locs ls h1 h2 h3 h4)
theorem aw_lshr {x v : Int64} {y : Int32} (F : aw_F p s m c args cc nL Ts own D cl tys) (hd : decode cc pc = .ok (.lshr, 1)) (hv : x >>> (y.toInt64 &&& 63) = v) (k : aW p l e R s m args below meth c cells slots Q D cl A ad nL hp L (pc + 1) (.long v :: st)) : aW p l e R s m args below meth c cells slots Q D cl A ad nL hp L (pc) (.int y :: .long x :: st) :=
  fun H locs ls h1 h2 h3 h4 => lv_lshr F.1.1 F.1.2.1 hd hv (k H locs ls h1 h2 h3 h4)
theorem aw_i2l {x : Int32} {v : Int64} (F : aw_F p s m c args cc nL Ts own D cl tys) (hd : decode cc pc = .ok (.i2l, 1)) (hv : x.toInt64 = v) (k : aW p l e R s m args below meth c cells slots Q D cl A ad nL hp L (pc + 1) (.long v :: st)) : aW p l e R s m args below meth c cells slots Q D cl A ad nL hp L (pc) (.int x :: st) :=
  fun H locs ls h1 h2 h3 h4 => lv_i2l F.1.1 F.1.2.1 hd hv (k H locs ls h1 h2 h3 h4)
theorem aw_l2i {x : Int64} {v : Int32} (F : aw_F p s m c args cc nL Ts own D cl tys) (hd : decode cc pc = .ok (.l2i, 1)) (hv : x.toInt32 = v) (k : aW p l e R s m args below meth c cells slots Q D cl A ad nL hp L (pc + 1) (.int v :: st)) : aW p l e R s m args below meth c cells slots Q D cl A ad nL hp L (pc) (.long x :: st) :=
  fun H locs ls h1 h2 h3 h4 => lv_l2i F.1.1 F.1.2.1 hd hv (k H locs ls h1 h2 h3 h4)
theorem aw_lcmp {x y : Int64} (F : aw_F p s m c args cc nL Ts own D cl tys) (hd : decode cc pc = .ok (.lcmp, 1))  (k : aW p l e R s m args below meth c cells slots Q D cl A ad nL hp L (pc + 1) (.int (lg_cmp x y) :: st)) : aW p l e R s m args below meth c cells slots Q D cl A ad nL hp L (pc) (.long y :: .long x :: st) :=
  fun H locs ls h1 h2 h3 h4 => W.lcmp F.1.1 F.1.2.1 hd  (k H locs ls h1 h2 h3 h4)
theorem aw_dup {va : Value} (F : aw_F p s m c args cc nL Ts own D cl tys) (hd : decode cc pc = .ok (.dup, 1)) (hva : va.category = 1) (k : aW p l e R s m args below meth c cells slots Q D cl A ad nL hp L (pc + 1) (va :: va :: st)) : aW p l e R s m args below meth c cells slots Q D cl A ad nL hp L (pc) (va :: st) :=
  fun H locs ls h1 h2 h3 h4 => lv_dup F.1.1 F.1.2.1 hd hva (k H locs ls h1 h2 h3 h4)
theorem aw_pop {va : Value} (F : aw_F p s m c args cc nL Ts own D cl tys) (hd : decode cc pc = .ok (.pop, 1)) (hva : va.category = 1) (k : aW p l e R s m args below meth c cells slots Q D cl A ad nL hp L (pc + 1) (st)) : aW p l e R s m args below meth c cells slots Q D cl A ad nL hp L (pc) (va :: st) :=
  fun H locs ls h1 h2 h3 h4 => lv_pop F.1.1 F.1.2.1 hd hva (k H locs ls h1 h2 h3 h4)
theorem aw_dup_x1 {va vb : Value} (F : aw_F p s m c args cc nL Ts own D cl tys) (hd : decode cc pc = .ok (.dup_x1, 1)) (hva : va.category = 1) (hvb : vb.category = 1) (k : aW p l e R s m args below meth c cells slots Q D cl A ad nL hp L (pc + 1) (va :: vb :: va :: st)) : aW p l e R s m args below meth c cells slots Q D cl A ad nL hp L (pc) (va :: vb :: st) :=
  fun H locs ls h1 h2 h3 h4 => lv_dup_x1 F.1.1 F.1.2.1 hd hva hvb (k H locs ls h1 h2 h3 h4)
theorem aw_dup_x2 {va vb vd : Value} (F : aw_F p s m c args cc nL Ts own D cl tys) (hd : decode cc pc = .ok (.dup_x2, 1)) (hva : va.category = 1) (hvb : vb.category = 1) (hvd : vd.category = 1) (k : aW p l e R s m args below meth c cells slots Q D cl A ad nL hp L (pc + 1) (va :: vb :: vd :: va :: st)) : aW p l e R s m args below meth c cells slots Q D cl A ad nL hp L (pc) (va :: vb :: vd :: st) :=
  fun H locs ls h1 h2 h3 h4 => lv_dup_x2 F.1.1 F.1.2.1 hd hva hvb hvd (k H locs ls h1 h2 h3 h4)
theorem aw_dup2 {va vb : Value} (F : aw_F p s m c args cc nL Ts own D cl tys) (hd : decode cc pc = .ok (.dup2, 1)) (hva : va.category = 1) (hvb : vb.category = 1) (k : aW p l e R s m args below meth c cells slots Q D cl A ad nL hp L (pc + 1) (va :: vb :: va :: vb :: st)) : aW p l e R s m args below meth c cells slots Q D cl A ad nL hp L (pc) (va :: vb :: st) :=
  fun H locs ls h1 h2 h3 h4 => lv_dup2_11 F.1.1 F.1.2.1 hd hva hvb (k H locs ls h1 h2 h3 h4)
theorem aw_ldc {index : Nat} {v : Int32} (F : aw_F p s m c args cc nL Ts own D cl tys) (hd : decode cc pc = .ok (.ldc index, 2)) (hc : Jvm.Cond.constant own index v ∈ Ts) (k : aW p l e R s m args below meth c cells slots Q D cl A ad nL hp L (pc + 2) (.int v :: st)) : aW p l e R s m args below meth c cells slots Q D cl A ad nL hp L (pc) (st) :=
  fun H locs ls h1 h2 h3 h4 => lv_ldc F.1.1 F.1.2.1 F.1.2.2.2.1 (F.1.2.2.2.2 _ hc) hd (k H locs ls h1 h2 h3 h4)
theorem aw_ldc2 {index : Nat} {v : Int64} (F : aw_F p s m c args cc nL Ts own D cl tys) (hd : decode cc pc = .ok (.ldc2_w index, 3)) (hc : Jvm.Cond.constantLong own index v ∈ Ts) (k : aW p l e R s m args below meth c cells slots Q D cl A ad nL hp L (pc + 3) (.long v :: st)) : aW p l e R s m args below meth c cells slots Q D cl A ad nL hp L (pc) (st) :=
  fun H locs ls h1 h2 h3 h4 => lv_ldc2 F.1.1 F.1.2.1 F.1.2.2.2.1 (F.1.2.2.2.2 _ hc) hd (k H locs ls h1 h2 h3 h4)
theorem aw_if_eq {x : Int32} {off : Int} (F : aw_F p s m c args cc nL Ts own D cl tys) (tgt : Nat) (hd : decode cc pc = .ok (.ifCond .eq off, 3)) (ht : (pc : Int) + off = (tgt : Int)) (kt : x = 0 → aW p l e R s m args below meth c cells slots Q D cl A ad nL hp L (tgt) (st)) (kf : ¬ x = 0 → aW p l e R s m args below meth c cells slots Q D cl A ad nL hp L (pc + 3) (st)) : aW p l e R s m args below meth c cells slots Q D cl A ad nL hp L (pc) (.int x :: st) :=
  fun H locs ls h1 h2 h3 h4 => lv_if_eq F.1.1 F.1.2.1 hd ht (fun q => kt q H locs ls h1 h2 h3 h4) (fun q => kf q H locs ls h1 h2 h3 h4)
theorem aw_icmp_eq {x y : Int32} {off : Int} (F : aw_F p s m c args cc nL Ts own D cl tys) (tgt : Nat) (hd : decode cc pc = .ok (.if_icmp .eq off, 3)) (ht : (pc : Int) + off = (tgt : Int)) (kt : x = y → aW p l e R s m args below meth c cells slots Q D cl A ad nL hp L (tgt) (st)) (kf : ¬ x = y → aW p l e R s m args below meth c cells slots Q D cl A ad nL hp L (pc + 3) (st)) : aW p l e R s m args below meth c cells slots Q D cl A ad nL hp L (pc) (.int y :: .int x :: st) :=
  fun H locs ls h1 h2 h3 h4 => lv_icmp_eq F.1.1 F.1.2.1 hd ht (fun q => kt q H locs ls h1 h2 h3 h4) (fun q => kf q H locs ls h1 h2 h3 h4)
theorem aw_if_ne {x : Int32} {off : Int} (F : aw_F p s m c args cc nL Ts own D cl tys) (tgt : Nat) (hd : decode cc pc = .ok (.ifCond .ne off, 3)) (ht : (pc : Int) + off = (tgt : Int)) (kt : ¬ x = 0 → aW p l e R s m args below meth c cells slots Q D cl A ad nL hp L (tgt) (st)) (kf : x = 0 → aW p l e R s m args below meth c cells slots Q D cl A ad nL hp L (pc + 3) (st)) : aW p l e R s m args below meth c cells slots Q D cl A ad nL hp L (pc) (.int x :: st) :=
  fun H locs ls h1 h2 h3 h4 => lv_if_ne F.1.1 F.1.2.1 hd ht (fun q => kt q H locs ls h1 h2 h3 h4) (fun q => kf q H locs ls h1 h2 h3 h4)
theorem aw_icmp_ne {x y : Int32} {off : Int} (F : aw_F p s m c args cc nL Ts own D cl tys) (tgt : Nat) (hd : decode cc pc = .ok (.if_icmp .ne off, 3)) (ht : (pc : Int) + off = (tgt : Int)) (kt : ¬ x = y → aW p l e R s m args below meth c cells slots Q D cl A ad nL hp L (tgt) (st)) (kf : x = y → aW p l e R s m args below meth c cells slots Q D cl A ad nL hp L (pc + 3) (st)) : aW p l e R s m args below meth c cells slots Q D cl A ad nL hp L (pc) (.int y :: .int x :: st) :=
  fun H locs ls h1 h2 h3 h4 => lv_icmp_ne F.1.1 F.1.2.1 hd ht (fun q => kt q H locs ls h1 h2 h3 h4) (fun q => kf q H locs ls h1 h2 h3 h4)
theorem aw_if_lt {x : Int32} {off : Int} (F : aw_F p s m c args cc nL Ts own D cl tys) (tgt : Nat) (hd : decode cc pc = .ok (.ifCond .lt off, 3)) (ht : (pc : Int) + off = (tgt : Int)) (kt : x < 0 → aW p l e R s m args below meth c cells slots Q D cl A ad nL hp L (tgt) (st)) (kf : ¬ x < 0 → aW p l e R s m args below meth c cells slots Q D cl A ad nL hp L (pc + 3) (st)) : aW p l e R s m args below meth c cells slots Q D cl A ad nL hp L (pc) (.int x :: st) :=
  fun H locs ls h1 h2 h3 h4 => lv_if_lt F.1.1 F.1.2.1 hd ht (fun q => kt q H locs ls h1 h2 h3 h4) (fun q => kf q H locs ls h1 h2 h3 h4)
theorem aw_icmp_lt {x y : Int32} {off : Int} (F : aw_F p s m c args cc nL Ts own D cl tys) (tgt : Nat) (hd : decode cc pc = .ok (.if_icmp .lt off, 3)) (ht : (pc : Int) + off = (tgt : Int)) (kt : x < y → aW p l e R s m args below meth c cells slots Q D cl A ad nL hp L (tgt) (st)) (kf : ¬ x < y → aW p l e R s m args below meth c cells slots Q D cl A ad nL hp L (pc + 3) (st)) : aW p l e R s m args below meth c cells slots Q D cl A ad nL hp L (pc) (.int y :: .int x :: st) :=
  fun H locs ls h1 h2 h3 h4 => lv_icmp_lt F.1.1 F.1.2.1 hd ht (fun q => kt q H locs ls h1 h2 h3 h4) (fun q => kf q H locs ls h1 h2 h3 h4)
theorem aw_if_ge {x : Int32} {off : Int} (F : aw_F p s m c args cc nL Ts own D cl tys) (tgt : Nat) (hd : decode cc pc = .ok (.ifCond .ge off, 3)) (ht : (pc : Int) + off = (tgt : Int)) (kt : 0 ≤ x → aW p l e R s m args below meth c cells slots Q D cl A ad nL hp L (tgt) (st)) (kf : ¬ 0 ≤ x → aW p l e R s m args below meth c cells slots Q D cl A ad nL hp L (pc + 3) (st)) : aW p l e R s m args below meth c cells slots Q D cl A ad nL hp L (pc) (.int x :: st) :=
  fun H locs ls h1 h2 h3 h4 => lv_if_ge F.1.1 F.1.2.1 hd ht (fun q => kt q H locs ls h1 h2 h3 h4) (fun q => kf q H locs ls h1 h2 h3 h4)
theorem aw_icmp_ge {x y : Int32} {off : Int} (F : aw_F p s m c args cc nL Ts own D cl tys) (tgt : Nat) (hd : decode cc pc = .ok (.if_icmp .ge off, 3)) (ht : (pc : Int) + off = (tgt : Int)) (kt : y ≤ x → aW p l e R s m args below meth c cells slots Q D cl A ad nL hp L (tgt) (st)) (kf : ¬ y ≤ x → aW p l e R s m args below meth c cells slots Q D cl A ad nL hp L (pc + 3) (st)) : aW p l e R s m args below meth c cells slots Q D cl A ad nL hp L (pc) (.int y :: .int x :: st) :=
  fun H locs ls h1 h2 h3 h4 => lv_icmp_ge F.1.1 F.1.2.1 hd ht (fun q => kt q H locs ls h1 h2 h3 h4) (fun q => kf q H locs ls h1 h2 h3 h4)
theorem aw_if_gt {x : Int32} {off : Int} (F : aw_F p s m c args cc nL Ts own D cl tys) (tgt : Nat) (hd : decode cc pc = .ok (.ifCond .gt off, 3)) (ht : (pc : Int) + off = (tgt : Int)) (kt : 0 < x → aW p l e R s m args below meth c cells slots Q D cl A ad nL hp L (tgt) (st)) (kf : ¬ 0 < x → aW p l e R s m args below meth c cells slots Q D cl A ad nL hp L (pc + 3) (st)) : aW p l e R s m args below meth c cells slots Q D cl A ad nL hp L (pc) (.int x :: st) :=
  fun H locs ls h1 h2 h3 h4 => lv_if_gt F.1.1 F.1.2.1 hd ht (fun q => kt q H locs ls h1 h2 h3 h4) (fun q => kf q H locs ls h1 h2 h3 h4)
theorem aw_icmp_gt {x y : Int32} {off : Int} (F : aw_F p s m c args cc nL Ts own D cl tys) (tgt : Nat) (hd : decode cc pc = .ok (.if_icmp .gt off, 3)) (ht : (pc : Int) + off = (tgt : Int)) (kt : y < x → aW p l e R s m args below meth c cells slots Q D cl A ad nL hp L (tgt) (st)) (kf : ¬ y < x → aW p l e R s m args below meth c cells slots Q D cl A ad nL hp L (pc + 3) (st)) : aW p l e R s m args below meth c cells slots Q D cl A ad nL hp L (pc) (.int y :: .int x :: st) :=
  fun H locs ls h1 h2 h3 h4 => lv_icmp_gt F.1.1 F.1.2.1 hd ht (fun q => kt q H locs ls h1 h2 h3 h4) (fun q => kf q H locs ls h1 h2 h3 h4)
theorem aw_if_le {x : Int32} {off : Int} (F : aw_F p s m c args cc nL Ts own D cl tys) (tgt : Nat) (hd : decode cc pc = .ok (.ifCond .le off, 3)) (ht : (pc : Int) + off = (tgt : Int)) (kt : x ≤ 0 → aW p l e R s m args below meth c cells slots Q D cl A ad nL hp L (tgt) (st)) (kf : ¬ x ≤ 0 → aW p l e R s m args below meth c cells slots Q D cl A ad nL hp L (pc + 3) (st)) : aW p l e R s m args below meth c cells slots Q D cl A ad nL hp L (pc) (.int x :: st) :=
  fun H locs ls h1 h2 h3 h4 => lv_if_le F.1.1 F.1.2.1 hd ht (fun q => kt q H locs ls h1 h2 h3 h4) (fun q => kf q H locs ls h1 h2 h3 h4)
theorem aw_icmp_le {x y : Int32} {off : Int} (F : aw_F p s m c args cc nL Ts own D cl tys) (tgt : Nat) (hd : decode cc pc = .ok (.if_icmp .le off, 3)) (ht : (pc : Int) + off = (tgt : Int)) (kt : x ≤ y → aW p l e R s m args below meth c cells slots Q D cl A ad nL hp L (tgt) (st)) (kf : ¬ x ≤ y → aW p l e R s m args below meth c cells slots Q D cl A ad nL hp L (pc + 3) (st)) : aW p l e R s m args below meth c cells slots Q D cl A ad nL hp L (pc) (.int y :: .int x :: st) :=
  fun H locs ls h1 h2 h3 h4 => lv_icmp_le F.1.1 F.1.2.1 hd ht (fun q => kt q H locs ls h1 h2 h3 h4) (fun q => kf q H locs ls h1 h2 h3 h4)
theorem aw_goto {off : Int} (F : aw_F p s m c args cc nL Ts own D cl tys) (tgt : Nat) (hd : decode cc pc = .ok (.goto off, 3)) (ht : (pc : Int) + off = (tgt : Int)) (k : aW p l e R s m args below meth c cells slots Q D cl A ad nL hp L (tgt) (st)) : aW p l e R s m args below meth c cells slots Q D cl A ad nL hp L (pc) (st) :=
  fun H locs ls h1 h2 h3 h4 => lv_goto F.1.1 F.1.2.1 hd ht (k H locs ls h1 h2 h3 h4)
theorem aw_tableIn {dflt lo hi : Int} {offs : Array Int} {len : Nat} {x : Int32} {off : Int} (F : aw_F p s m c args cc nL Ts own D cl tys) (tgt : Nat) (hd : decode cc pc = .ok (.tableswitch dflt lo hi offs, len)) (q1 : ¬ x.toInt < lo) (q2 : ¬ hi < x.toInt) (ho : offs[(x.toInt - lo).toNat]? = some off) (ht : (pc : Int) + off = (tgt : Int)) (k : aW p l e R s m args below meth c cells slots Q D cl A ad nL hp L (tgt) (st)) : aW p l e R s m args below meth c cells slots Q D cl A ad nL hp L (pc) (.int x :: st) :=
  fun H locs ls h1 h2 h3 h4 => lv_tableIn F.1.1 F.1.2.1 hd q1 q2 ho ht (k H locs ls h1 h2 h3 h4)
theorem aw_tableOut {dflt lo hi : Int} {offs : Array Int} {len : Nat} {x : Int32} (F : aw_F p s m c args cc nL Ts own D cl tys) (tgt : Nat) (hd : decode cc pc = .ok (.tableswitch dflt lo hi offs, len)) (q1 : x.toInt < lo ∨ hi < x.toInt) (ht : (pc : Int) + dflt = (tgt : Int)) (k : aW p l e R s m args below meth c cells slots Q D cl A ad nL hp L (tgt) (st)) : aW p l e R s m args below meth c cells slots Q D cl A ad nL hp L (pc) (.int x :: st) :=
  fun H locs ls h1 h2 h3 h4 => lv_tableOut F.1.1 F.1.2.1 hd q1 ht (k H locs ls h1 h2 h3 h4)
theorem aw_lookup {dflt : Int} {ps : Array (Int × Int)} {len : Nat} {x : Int32} {off : Int} (F : aw_F p s m c args cc nL Ts own D cl tys) (tgt : Nat) (hd : decode cc pc = .ok (.lookupswitch dflt ps, len)) (hps : (ps.toList.zip (ps.toList.drop 1)).all (fun (a, next) => a.1 < next.1) = true) (ho : Op.lookupswitch.offset ps.toList dflt x.toInt = off) (ht : (pc : Int) + off = (tgt : Int)) (k : aW p l e R s m args below meth c cells slots Q D cl A ad nL hp L (tgt) (st)) : aW p l e R s m args below meth c cells slots Q D cl A ad nL hp L (pc) (.int x :: st) :=
  fun H locs ls h1 h2 h3 h4 => lv_lookup F.1.1 F.1.2.1 hd hps ho ht (k H locs ls h1 h2 h3 h4)
theorem aw_get {ci : Nat} {fs : List Value} {C : String} {T : u_T} {N : Nat} {v : Value} {index : Nat} (F : aw_F p s m c args cc nL Ts own D cl tys) (k0 : Nat) (he : hp[k0]? = some (.inr (ci, fs))) (hc : cl[ci]? = some (C, T, N)) (j : Nat) (hj : j < N) (hin : ∀ w ∈ u_ws C T N, w ∈ Ts) (hlk : Cond.fieldLink own index (T j).1 (T j).2.1 (T j).2.2.1 ∈ Ts) (hv : fs[j]? = some v) (hd : decode cc pc = .ok (.getfield index, 3)) (k : aW p l e R s m args below meth c cells slots Q D cl A ad nL hp L (pc + 3) (v :: st)) : aW p l e R s m args below meth c cells slots Q D cl A ad nL hp L (pc) (.ref (ad k0) :: st) :=
  fun H locs ls h1 h2 h3 h4 => va_get F.1.1 F.1.2.1 F.1.2.2.2.2 hin F.1.2.2.2.1 F.2 h1 k0 (aw_ws_at he) hc j hj (F.1.2.2.2.2 _ hlk) (fun _ h9 => h9) hv hd (k H locs ls h1 h2 h3 h4)
theorem aw_getN {host : String} {ci : Nat} {fs : List Value} {C : String} {T : u_T} {N : Nat} {v : Value} {index : Nat} (F : aw_F p s m c args cc nL Ts own D cl tys) (k0 : Nat) (he : hp[k0]? = some (.inr (ci, fs))) (hc : cl[ci]? = some (C, T, N)) (j : Nat) (hj : j < N) (hin : ∀ w ∈ u_ws C T N, w ∈ Ts) (hlk : va_Nw (Cond.fieldLinkNest own index (T j).1 (T j).2.1 (T j).2.2.1 host) s) (hv : fs[j]? = some v) (hd : decode cc pc = .ok (.getfield index, 3)) (k : aW p l e R s m args below meth c cells slots Q D cl A ad nL hp L (pc + 3) (v :: st)) : aW p l e R s m args below meth c cells slots Q D cl A ad nL hp L (pc) (.ref (ad k0) :: st) :=
  fun H locs ls h1 h2 h3 h4 => va_getN F.1.1 F.1.2.1 F.1.2.2.2.2 hin F.1.2.2.2.1 F.2 h1 k0 (aw_ws_at he) hc j hj (va_Nw.use rfl hlk) (fun _ h9 => h9) hv hd (k H locs ls h1 h2 h3 h4)
theorem aw_put {ci : Nat} {fs : List Value} {C : String} {T : u_T} {N : Nat} {v : Value} {index : Nat} (F : aw_F p s m c args cc nL Ts own D cl tys) (k0 : Nat) (he : hp[k0]? = some (.inr (ci, fs))) (hc : cl[ci]? = some (C, T, N)) (j : Nat) (hj : j < N) (hin : ∀ w ∈ u_ws C T N, w ∈ Ts) (ty0 : Nat → FieldType) (hty : ∀ k, k < N → parseFieldDescriptor (T k).2.2.1 = some (ty0 k)) (hnm : ∀ a, a < N → ∀ b, b < N → a ≠ b → (T a).2.1 ≠ (T b).2.1) (hlk : Cond.fieldLink own index (T j).1 (T j).2.1 (T j).2.2.1 ∈ Ts) {ty : FieldType} (hf : (T j).2.2.2 = false) (hd0 : parseFieldDescriptor (T j).2.2.1 = some ty) (hnr : narrow ty v = v) (hft : fits ty v = true) (hln : j < fs.length) (hh : hp.set k0 (.inr (ci, fs.set j v)) = hp') (hd : decode cc pc = .ok (.putfield index, 3)) (k : aW p l e R s m args below meth c cells slots Q D cl A ad nL hp' L (pc + 3) (st)) : aW p l e R s m args below meth c cells slots Q D cl A ad nL hp L (pc) (v :: .ref (ad k0) :: st) :=
  fun H locs ls h1 h2 h3 h4 => va_put F.1.1 F.1.2.1 F.1.2.2.2.2 hin ty0 hty hnm F.1.2.2.2.1 F.2 h1 h2 h3 k0 (aw_ws_at he) hc j hj (F.1.2.2.2.2 _ hlk) (fun _ h9 => h9) hf hd0 hnr hft hln hd (fun H' locs' g1 g2 g3 => k H' locs' ls (by rw [← hh, ← aw_ws_set]; exact g1) (by rw [← hh, ← aw_ws_set]; exact g2) g3 h4)
theorem aw_putN {host : String} {ci : Nat} {fs : List Value} {C : String} {T : u_T} {N : Nat} {v : Value} {index : Nat} (F : aw_F p s m c args cc nL Ts own D cl tys) (k0 : Nat) (he : hp[k0]? = some (.inr (ci, fs))) (hc : cl[ci]? = some (C, T, N)) (j : Nat) (hj : j < N) (hin : ∀ w ∈ u_ws C T N, w ∈ Ts) (ty0 : Nat → FieldType) (hty : ∀ k, k < N → parseFieldDescriptor (T k).2.2.1 = some (ty0 k)) (hnm : ∀ a, a < N → ∀ b, b < N → a ≠ b → (T a).2.1 ≠ (T b).2.1) (hlk : va_Nw (Cond.fieldLinkNest own index (T j).1 (T j).2.1 (T j).2.2.1 host) s) {ty : FieldType} (hf : (T j).2.2.2 = false) (hd0 : parseFieldDescriptor (T j).2.2.1 = some ty) (hnr : narrow ty v = v) (hft : fits ty v = true) (hln : j < fs.length) (hh : hp.set k0 (.inr (ci, fs.set j v)) = hp') (hd : decode cc pc = .ok (.putfield index, 3)) (k : aW p l e R s m args below meth c cells slots Q D cl A ad nL hp' L (pc + 3) (st)) : aW p l e R s m args below meth c cells slots Q D cl A ad nL hp L (pc) (v :: .ref (ad k0) :: st) :=
  fun H locs ls h1 h2 h3 h4 => va_putN F.1.1 F.1.2.1 F.1.2.2.2.2 hin ty0 hty hnm F.1.2.2.2.1 F.2 h1 h2 h3 k0 (aw_ws_at he) hc j hj (va_Nw.use rfl hlk) (fun _ h9 => h9) hf hd0 hnr hft hln hd (fun H' locs' g1 g2 g3 => k H' locs' ls (by rw [← hh, ← aw_ws_set]; exact g1) (by rw [← hh, ← aw_ws_set]; exact g2) g3 h4)
theorem aw_iald {cA : ClassId} {n : Nat} {f : Nat → Int32} {i : Int32} (F : aw_F p s m c args cc nL Ts own D cl tys) (k0 t0 : Nat) (he : hp[k0]? = some (.inl (cA, n, .inl f))) (ht : tys[t0]? = some (cA, .int)) (hin : vp_in i n) (hd : decode cc pc = .ok (.iaload, 1)) (k : aW p l e R s m args below meth c cells slots Q D cl A ad nL hp L (pc + 1) (.int (f i.toNatClampNeg) :: st)) : aW p l e R s m args below meth c cells slots Q D cl A ad nL hp L (pc) (.int i :: .ref (ad k0) :: st) :=
  fun H locs ls h1 h2 h3 h4 => va_iald F.1.1 F.1.2.1 F.2 h1 k0 t0 (aw_ws_at he) ht hin hd (k H locs ls h1 h2 h3 h4)
theorem aw_lald {cA : ClassId} {n : Nat} {f : Nat → Int64} {i : Int32} (F : aw_F p s m c args cc nL Ts own D cl tys) (k0 t0 : Nat) (he : hp[k0]? = some (.inl (cA, n, .inr (.inl f)))) (ht : tys[t0]? = some (cA, .long)) (hin : vp_in i n) (hd : decode cc pc = .ok (.laload, 1)) (k : aW p l e R s m args below meth c cells slots Q D cl A ad nL hp L (pc + 1) (.long (f i.toNatClampNeg) :: st)) : aW p l e R s m args below meth c cells slots Q D cl A ad nL hp L (pc) (.int i :: .ref (ad k0) :: st) :=
  fun H locs ls h1 h2 h3 h4 => va_lald F.1.1 F.1.2.1 F.2 h1 k0 t0 (aw_ws_at he) ht hin hd (k H locs ls h1 h2 h3 h4)
theorem aw_zald {cA : ClassId} {n : Nat} {f : Nat → Int32} {i : Int32} (F : aw_F p s m c args cc nL Ts own D cl tys) (k0 t0 : Nat) (he : hp[k0]? = some (.inl (cA, n, .inl f))) (ht : tys[t0]? = some (cA, .boolean)) (hin : vp_in i n) (hd : decode cc pc = .ok (.baload, 1)) (k : aW p l e R s m args below meth c cells slots Q D cl A ad nL hp L (pc + 1) (.int (f i.toNatClampNeg) :: st)) : aW p l e R s m args below meth c cells slots Q D cl A ad nL hp L (pc) (.int i :: .ref (ad k0) :: st) :=
  fun H locs ls h1 h2 h3 h4 => va_zald F.1.1 F.1.2.1 F.2 h1 k0 t0 (aw_ws_at he) ht hin hd (k H locs ls h1 h2 h3 h4)
theorem aw_bald {cA : ClassId} {n : Nat} {f : Nat → Int32} {i : Int32} (F : aw_F p s m c args cc nL Ts own D cl tys) (k0 t0 : Nat) (he : hp[k0]? = some (.inl (cA, n, .inl f))) (ht : tys[t0]? = some (cA, .byte)) (hin : vp_in i n) (hd : decode cc pc = .ok (.baload, 1)) (k : aW p l e R s m args below meth c cells slots Q D cl A ad nL hp L (pc + 1) (.int (f i.toNatClampNeg) :: st)) : aW p l e R s m args below meth c cells slots Q D cl A ad nL hp L (pc) (.int i :: .ref (ad k0) :: st) :=
  fun H locs ls h1 h2 h3 h4 => va_bald F.1.1 F.1.2.1 F.2 h1 k0 t0 (aw_ws_at he) ht hin hd (k H locs ls h1 h2 h3 h4)
theorem aw_iast {cA : ClassId} {n : Nat} {f : Nat → Int32} {i : Int32} {x : Int32} (F : aw_F p s m c args cc nL Ts own D cl tys) (k0 t0 : Nat) (he : hp[k0]? = some (.inl (cA, n, .inl (f)))) (ht : tys[t0]? = some (cA, .int)) (hin : vp_in i n) (hh : hp.set k0 (.inl (cA, n, .inl (upd f i.toNatClampNeg x))) = hp') (hd : decode cc pc = .ok (.iastore, 1)) (k : aW p l e R s m args below meth c cells slots Q D cl A ad nL hp' L (pc + 1) (st)) : aW p l e R s m args below meth c cells slots Q D cl A ad nL hp L (pc) (.int x :: .int i :: .ref (ad k0) :: st) :=
  fun H locs ls h1 h2 h3 h4 => va_iast F.1.1 F.1.2.1 F.2 h1 h2 h3 k0 t0 (aw_ws_at he) ht hin hd (fun H' locs' g1 g2 g3 => k H' locs' ls (by rw [← hh, ← aw_ws_set]; exact g1) (by rw [← hh, ← aw_ws_set]; exact g2) g3 h4)
theorem aw_last {cA : ClassId} {n : Nat} {f : Nat → Int64} {i : Int32} {x : Int64} (F : aw_F p s m c args cc nL Ts own D cl tys) (k0 t0 : Nat) (he : hp[k0]? = some (.inl (cA, n, .inr (.inl (f))))) (ht : tys[t0]? = some (cA, .long)) (hin : vp_in i n) (hh : hp.set k0 (.inl (cA, n, .inr (.inl (vp_updL f i.toNatClampNeg x)))) = hp') (hd : decode cc pc = .ok (.lastore, 1)) (k : aW p l e R s m args below meth c cells slots Q D cl A ad nL hp' L (pc + 1) (st)) : aW p l e R s m args below meth c cells slots Q D cl A ad nL hp L (pc) (.long x :: .int i :: .ref (ad k0) :: st) :=
  fun H locs ls h1 h2 h3 h4 => va_last F.1.1 F.1.2.1 F.2 h1 h2 h3 k0 t0 (aw_ws_at he) ht hin hd (fun H' locs' g1 g2 g3 => k H' locs' ls (by rw [← hh, ← aw_ws_set]; exact g1) (by rw [← hh, ← aw_ws_set]; exact g2) g3 h4)
theorem aw_zast {cA : ClassId} {n : Nat} {f : Nat → Int32} {i : Int32} {x : Int32} (F : aw_F p s m c args cc nL Ts own D cl tys) (k0 t0 : Nat) (he : hp[k0]? = some (.inl (cA, n, .inl (f)))) (ht : tys[t0]? = some (cA, .boolean)) (hin : vp_in i n) (hh : hp.set k0 (.inl (cA, n, .inl (upd f i.toNatClampNeg (vp_nar .boolean x)))) = hp') (hd : decode cc pc = .ok (.bastore, 1)) (k : aW p l e R s m args below meth c cells slots Q D cl A ad nL hp' L (pc + 1) (st)) : aW p l e R s m args below meth c cells slots Q D cl A ad nL hp L (pc) (.int x :: .int i :: .ref (ad k0) :: st) :=
  fun H locs ls h1 h2 h3 h4 => va_zast F.1.1 F.1.2.1 F.2 h1 h2 h3 k0 t0 (aw_ws_at he) ht hin hd (fun H' locs' g1 g2 g3 => k H' locs' ls (by rw [← hh, ← aw_ws_set]; exact g1) (by rw [← hh, ← aw_ws_set]; exact g2) g3 h4)
theorem aw_bast {cA : ClassId} {n : Nat} {f : Nat → Int32} {i : Int32} {x : Int32} (F : aw_F p s m c args cc nL Ts own D cl tys) (k0 t0 : Nat) (he : hp[k0]? = some (.inl (cA, n, .inl (f)))) (ht : tys[t0]? = some (cA, .byte)) (hin : vp_in i n) (hh : hp.set k0 (.inl (cA, n, .inl (upd f i.toNatClampNeg (vp_nar .byte x)))) = hp') (hd : decode cc pc = .ok (.bastore, 1)) (k : aW p l e R s m args below meth c cells slots Q D cl A ad nL hp' L (pc + 1) (st)) : aW p l e R s m args below meth c cells slots Q D cl A ad nL hp L (pc) (.int x :: .int i :: .ref (ad k0) :: st) :=
  fun H locs ls h1 h2 h3 h4 => va_bast F.1.1 F.1.2.1 F.2 h1 h2 h3 k0 t0 (aw_ws_at he) ht hin hd (fun H' locs' g1 g2 g3 => k H' locs' ls (by rw [← hh, ← aw_ws_set]; exact g1) (by rw [← hh, ← aw_ws_set]; exact g2) g3 h4)
theorem aw_alen {cA : ClassId} {a : vp_A} {ty : FieldType} {v : Int32} (F : aw_F p s m c args cc nL Ts own D cl tys) (k0 t0 : Nat) (he : hp[k0]? = some (.inl (cA, a))) (ht : tys[t0]? = some (cA, ty)) (hv : Int32.ofNat a.1 = v) (hd : decode cc pc = .ok (.arraylength, 1)) (k : aW p l e R s m args below meth c cells slots Q D cl A ad nL hp L (pc + 1) (.int v :: st)) : aW p l e R s m args below meth c cells slots Q D cl A ad nL hp L (pc) (.ref (ad k0) :: st) :=
  fun H locs ls h1 h2 h3 h4 => va_alen F.1.1 F.1.2.1 F.2 h1 k0 t0 (aw_ws_at he) ht hv hd (k H locs ls h1 h2 h3 h4)
theorem aw_less (h : ∀ (i : Nat) (v : Value), L'[i]? = some (some v) → L[i]? = some (some v)) (k : aW p l e R s m args below meth c cells slots Q D cl A ad nL hp L' (pc) (st)) : aW p l e R s m args below meth c cells slots Q D cl A ad nL hp L (pc) (st) :=
  fun H locs ls h1 h2 h3 h4 => k H locs ls h1 h2 h3 ⟨h4.1, h4.2.1, fun i v q => h4.2.2 i v (h i v q)⟩
theorem aw_gets {C n d : String} {v : Value} {index : Nat} (F : aw_F p s m c args cc nL Ts own D cl tys) (hZ : va_Z C n d v A s s.heap) (hlk : Cond.fieldLink own index C n d ∈ Ts) (hd : decode cc pc = .ok (.getstatic index, 3)) (k : aW p l e R s m args below meth c cells slots Q D cl A ad nL hp L (pc + 3) (v :: st)) : aW p l e R s m args below meth c cells slots Q D cl A ad nL hp L (pc) (st) :=
  fun H locs ls h1 h2 h3 h4 => va_gets F.1.1 F.1.2.1 hZ h3 F.1.2.2.2.1 (F.1.2.2.2.2 _ hlk) (fun _ h9 => h9) hd (k H locs ls h1 h2 h3 h4)
theorem aw_getsN {C n d host : String} {v : Value} {index : Nat} (F : aw_F p s m c args cc nL Ts own D cl tys) (hZ : va_Z C n d v A s s.heap) (hlk : va_Nw (Cond.fieldLinkNest own index C n d host) s) (hd : decode cc pc = .ok (.getstatic index, 3)) (k : aW p l e R s m args below meth c cells slots Q D cl A ad nL hp L (pc + 3) (v :: st)) : aW p l e R s m args below meth c cells slots Q D cl A ad nL hp L (pc) (st) :=
  fun H locs ls h1 h2 h3 h4 => va_getsN F.1.1 F.1.2.1 hZ h3 F.1.2.2.2.1 (va_Nw.use rfl hlk) (fun _ h9 => h9) hd (k H locs ls h1 h2 h3 h4)
theorem aw_ti {t n : Nat} {f : Nat → Value} {i : Int32} {v : Value} (F : aw_F p s m c args cc nL Ts own D cl tys) (hT : va_T .int t n f A s s.heap) (hin : vp_in i n) (hv : f i.toNatClampNeg = v) (hd : decode cc pc = .ok (.iaload, 1)) (k : aW p l e R s m args below meth c cells slots Q D cl A ad nL hp L (pc + 1) (v :: st)) : aW p l e R s m args below meth c cells slots Q D cl A ad nL hp L (pc) (.int i :: .ref t :: st) :=
  fun H locs ls h1 h2 h3 h4 => va_ti F.1.1 F.1.2.1 hT h3 hin hv hd (k H locs ls h1 h2 h3 h4)
theorem aw_tlen {t n : Nat} {f : Nat → Value} {v : Int32} (F : aw_F p s m c args cc nL Ts own D cl tys) (hT : va_T .int t n f A s s.heap) (hv : Int32.ofNat n = v) (hd : decode cc pc = .ok (.arraylength, 1)) (k : aW p l e R s m args below meth c cells slots Q D cl A ad nL hp L (pc + 1) (.int v :: st)) : aW p l e R s m args below meth c cells slots Q D cl A ad nL hp L (pc) (.ref t :: st) :=
  fun H locs ls h1 h2 h3 h4 => va_tlen F.1.1 F.1.2.1 hT h3 hv hd (k H locs ls h1 h2 h3 h4)
theorem aw_mmax {index : Nat} {x y : Int32} (F : aw_F p s m c args cc nL Ts own D cl tys) (hlk : Cond.methodLink own index Lib.Math.max.name ∈ Ts) (hst : Cond.static Lib.Math.max.name ∈ Ts) (hin : Cond.initialized "java/lang/Math" ∈ Ts) (hco : Cond.code Lib.Math.max.name Lib.Math.max.code 2 (some .int) ∈ Ts) (hfr : 1 ≤ R.frames) (hlo : (st.map fun v => v.category).sum + 13 ≤ R.locals) (hcs : cells ≤ R.cells ∧ slots ≤ R.slots) (hd : decode cc pc = .ok (.invokestatic index, 3)) (k : aW p l e R s m args below meth c cells slots Q D cl A ad nL hp L (pc + 3) (.int (if x < y then y else x) :: st)) : aW p l e R s m args below meth c cells slots Q D cl A ad nL hp L (pc) (.int y :: .int x :: st) :=
  fun H locs ls h1 h2 h3 h4 => va_mmax F.1.1 F.1.2.1 (by rw [F.1.2.2.1]; exact h4.1.symm) F.1.2.2.2.1 (F.1.2.2.2.2 _ hlk) (F.1.2.2.2.2 _ hst) (F.1.2.2.2.2 _ hin) (F.1.2.2.2.2 _ hco) hfr hlo hcs.1 hcs.2 hd (k H locs ls h1 h2 h3 h4)
def aw_Q (D : va_G) (cl : List vw_C) (A : Nat → Prop) (ad : Nat → Nat) (r : Option Value) (hp' : List va_E) : Array Value → State → Outcome → State → Prop := fun _ st oc t => (oc = .returned r ∧ va_P D cl (aw_ws ad hp') t.heap ∧ va_D A (aw_ws ad hp')) ∧ va_F A st t
theorem aw_iret {v w : Int32} (F : aw_F p s m c args cc nL Ts own D cl tys) (hr : meth.sig.returnType = some .int) (hlk : meth.locks = false) (hd : decode cc pc = .ok (.ireturn, 1)) (e1 : v = w) (e2 : hp = hp') : aW p l e R s m args below meth c cells slots (MQ below (aw_Q D cl A ad (some (.int w)) hp') args s cells slots A) D cl A ad nL hp L pc [.int v] := by
  intro H locs ls h1 h2 h3 h4
  subst e1; subst e2
  exact W.iret F.1.1 F.1.2.1 hr  (fun t ht hW => ⟨⟨rfl, by rw [ht]; exact h1, h2⟩, h3.F ht⟩) h3.2.2 hd hlk
theorem aw_zret {v w : Int32} (F : aw_F p s m c args cc nL Ts own D cl tys) (hr : meth.sig.returnType = some .boolean) (hlk : meth.locks = false) (hd : decode cc pc = .ok (.ireturn, 1)) (hz : narrow .boolean (.int v) = .int v) (e1 : v = w) (e2 : hp = hp') : aW p l e R s m args below meth c cells slots (MQ below (aw_Q D cl A ad (some (.int w)) hp') args s cells slots A) D cl A ad nL hp L pc [.int v] := by
  intro H locs ls h1 h2 h3 h4
  subst e1; subst e2
  exact W.zret F.1.1 F.1.2.1 hr hz (fun t ht hW => ⟨⟨rfl, by rw [ht]; exact h1, h2⟩, h3.F ht⟩) h3.2.2 hd hlk
theorem aw_lret {v w : Int64} (F : aw_F p s m c args cc nL Ts own D cl tys) (hr : meth.sig.returnType = some .long) (hlk : meth.locks = false) (hd : decode cc pc = .ok (.lreturn, 1)) (e1 : v = w) (e2 : hp = hp') : aW p l e R s m args below meth c cells slots (MQ below (aw_Q D cl A ad (some (.long w)) hp') args s cells slots A) D cl A ad nL hp L pc [.long v] := by
  intro H locs ls h1 h2 h3 h4
  subst e1; subst e2
  exact W.lret F.1.1 F.1.2.1 hr  (fun t ht hW => ⟨⟨rfl, by rw [ht]; exact h1, h2⟩, h3.F ht⟩) h3.2.2 hd hlk
theorem aw_vret  (F : aw_F p s m c args cc nL Ts own D cl tys) (hr : meth.sig.returnType = none) (hlk : meth.locks = false) (hd : decode cc pc = .ok (.return_, 1))  (e2 : hp = hp') : aW p l e R s m args below meth c cells slots (MQ below (aw_Q D cl A ad none hp') args s cells slots A) D cl A ad nL hp L pc [] := by
  intro H locs ls h1 h2 h3 h4
  subst e2
  exact W.vret F.1.1 F.1.2.1 hr  (fun t ht hW => ⟨⟨rfl, by rw [ht]; exact h1, h2⟩, h3.F ht⟩) h3.2.2 hd hlk
def aw_Zok (A : Nat → Prop) (Z : State → Prop) : Prop := ∀ s U : State, s.WarmedH U.vm → s.heap.size ≤ U.heap.size → (∀ q : Nat, q < s.heap.size → ¬ A q → U.heap[q]? = s.heap[q]?) → Z s → Z U
def aw_B (D : va_G) (cl : List vw_C) (tys : List (ClassId × FieldType)) (A : Nat → Prop) (ad : Nat → Nat) (Z : State → Prop) (hp : List va_E) (U : State) : Prop := va_P D cl (aw_ws ad hp) U.heap ∧ va_D A (aw_ws ad hp) ∧ va_K D cl tys U ∧ Z U
abbrev aw_rm (d : Nat) : Room := { frames := d, cells := 0, slots := 0, locals := 64 * d }
def aw_M (l : Launch) (y : MethodName) (ws : List Cond) (d : Nat) (D : va_G) (cl : List vw_C) (tys : List (ClassId × FieldType)) (A : Nat → Prop) (ad : Nat → Nat) (Z : State → Prop) (av : List Value) (hp : List va_E) (r : Option Value) (hp' : List va_E) : Prop :=
  Met l y ws (aw_rm d) (va_Pc av (aw_B D cl tys A ad Z hp)) (aw_Q D cl A ad r hp') 0 0 A
theorem aw_blind {Z : State → Prop} {av : List Value} (hZ : aw_Zok A Z) : FrameBlind (va_Pc av (aw_B D cl tys A ad Z hp)) := by
  intro a U g mk h
  obtain ⟨e, h1, h2, h3, h4⟩ := h
  exact ⟨e, h1, h2, va_K.moved (u := U) (U := U.calling g mk a) (Vm.Alike.refl U.vm) h3, hZ U (U.calling g mk a) (State.WarmedH.refl U) (Nat.le_refl _) (fun _ _ _ => rfl) h4⟩
theorem aw_pre {Z : State → Prop} {av : List Value} {H : Heap} {locs : List Loc} (F : aw_F p s m c args cc nL Ts own D cl tys) (hZ : aw_Zok A Z) (Zs : Z s) (h1 : va_P D cl (aw_ws ad hp) H) (h2 : va_D A (aw_ws ad hp)) (h3 : va_S A s.heap H locs) : ∀ U : State, U.heap = H → s.WarmedH U.vm → va_Pc av (aw_B D cl tys A ad Z hp) av.toArray U :=
  fun U hU hW => ⟨rfl, by rw [hU]; exact h1, h2, va_K.moved hW.alike F.2, hZ s U hW (by rw [hU]; exact h3.1) (fun q q1 q2 => by rw [hU]; exact h3.2.1 q q1 q2) Zs⟩
theorem aw_ran {H : Heap} {locs : List Loc} {ls : Array Slot} {st0 rest : List Value} {r : Option Value} {a : Array Value} (hr : va_Run p l e R s m args below meth c H locs cells slots 0 0 (F0 m pc ls st0) rest (aw_Q D cl A ad r hp' a) A) (h3 : va_S A s.heap H locs) (h4 : aw_L ls nL L)
    (k : aW p l e R s m args below meth c cells slots Q D cl A ad nL hp' L (pc + 3) (r.toList ++ rest)) : W p l e R s m args below meth c H locs cells slots Q (F0 m pc ls st0) := by
  intro T hT X
  obtain ⟨v, st₀, t, T', L9, h0, X', hL, e1, e2, ⟨⟨hv, hP1, hD1⟩, hz, hk⟩, go⟩ := hr T hT X
  cases hv
  rw [h0] at hz hk
  obtain ⟨t2, a1, b1⟩ := k T'.heap (locs ++ L9) ls (by rw [e1]; exact hP1) hD1 ⟨Nat.le_trans h3.1 (by rw [e1]; exact hz), fun q q1 q2 => by rw [e1, hk q (Nat.lt_of_lt_of_le q1 h3.1) q2]; exact h3.2.1 q q1 q2, fun q hq => (List.mem_append.mp hq).elim (h3.2.2 q) (hL q)⟩ h4 T' rfl X'
  exact ⟨t2, go _ a1, b1⟩
theorem aw_goV {Z : State → Prop} {y : MethodName} {bytes : ByteArray} {maxL n index d : Nat} {ret : Option FieldType} {ws : List Cond} {As rest st0 : List Value} {r : Option Value} {ci : Nat} {fs : List Value} {C : String} {T : u_T} {N : Nat} (F : aw_F p s m c args cc nL Ts own D cl tys) (hZ : aw_Zok A Z) (Zs : Z s) (k0 : Nat) (he : hp[k0]? = some (.inr (ci, fs))) (hc : cl[ci]? = some (C, T, N)) (hM : aw_M l y ws d D cl tys A ad Z (.ref (ad k0) :: As) hp r hp') (cw : CallW R s args own C index y bytes maxL ret ws (aw_rm d) 0 0 n) (hn : As.length = n) (hw : (rest.map fun v => v.category).sum ≤ 8) (hcs : cells ≤ R.cells ∧ slots ≤ R.slots) (hs0 : st0 = As.reverse ++ .ref (ad k0) :: rest) (hd : decode cc pc = .ok (.invokevirtual index, 3)) (k : aW p l e R s m args below meth c cells slots Q D cl A ad nL hp' L (pc + 3) (r.toList ++ rest)) : aW p l e R s m args below meth c cells slots Q D cl A ad nL hp L pc st0 := by
  intro H locs ls h1 h2 h3 h4
  exact aw_ran (va_runV (As := As) (rest := rest) F.1 hM cw ⟨aw_blind hZ, va_recv F.2 h1 hc (aw_ws_at he), aw_pre F hZ Zs h1 h2 h3⟩ rfl hn h4.1 hs0 (lv_room hw) hd hcs) h3 h4 k
theorem aw_goVN {host : String} {Z : State → Prop} {y : MethodName} {bytes : ByteArray} {maxL n index d : Nat} {ret : Option FieldType} {ws : List Cond} {As rest st0 : List Value} {r : Option Value} {ci : Nat} {fs : List Value} {C : String} {T : u_T} {N : Nat} (F : aw_F p s m c args cc nL Ts own D cl tys) (hZ : aw_Zok A Z) (Zs : Z s) (k0 : Nat) (he : hp[k0]? = some (.inr (ci, fs))) (hc : cl[ci]? = some (C, T, N)) (hM : aw_M l y ws d D cl tys A ad Z (.ref (ad k0) :: As) hp r hp') (cw : va_CN R s args own index y host bytes maxL ret ws (aw_rm d) 0 0 n ∧ (Cond.instanceMethod y).before args s = true ∧ (Cond.selects C y y).before args s = true) (hn : As.length = n) (hw : (rest.map fun v => v.category).sum ≤ 8) (hcs : cells ≤ R.cells ∧ slots ≤ R.slots) (hs0 : st0 = As.reverse ++ .ref (ad k0) :: rest) (hd : decode cc pc = .ok (.invokevirtual index, 3)) (k : aW p l e R s m args below meth c cells slots Q D cl A ad nL hp' L (pc + 3) (r.toList ++ rest)) : aW p l e R s m args below meth c cells slots Q D cl A ad nL hp L pc st0 := by
  intro H locs ls h1 h2 h3 h4
  exact aw_ran (va_runVN (As := As) (rest := rest) F.1 hM cw ⟨aw_blind hZ, va_recv F.2 h1 hc (aw_ws_at he), aw_pre F hZ Zs h1 h2 h3⟩ rfl hn h4.1 hs0 (lv_room hw) hd hcs) h3 h4 k
theorem aw_goS {Z : State → Prop} {y : MethodName} {bytes : ByteArray} {maxL n index d : Nat} {ret : Option FieldType} {ws : List Cond} {As rest st0 : List Value} {r : Option Value} (F : aw_F p s m c args cc nL Ts own D cl tys) (hZ : aw_Zok A Z) (Zs : Z s) (hM : aw_M l y ws d D cl tys A ad Z As hp r hp') (cw : CallB R s args own index y bytes maxL ret ws (aw_rm d) 0 0 n ∧ (Cond.static y).before args s = true) (hn : As.length = n) (hw : (rest.map fun v => v.category).sum ≤ 8) (hcs : cells ≤ R.cells ∧ slots ≤ R.slots) (hs0 : st0 = As.reverse ++ rest) (hd : decode cc pc = .ok (.invokestatic index, 3)) (k : aW p l e R s m args below meth c cells slots Q D cl A ad nL hp' L (pc + 3) (r.toList ++ rest)) : aW p l e R s m args below meth c cells slots Q D cl A ad nL hp L pc st0 := by
  intro H locs ls h1 h2 h3 h4
  exact aw_ran (va_runS (As := As) (rest := rest) F.1 hM cw ⟨aw_blind hZ, aw_pre F hZ Zs h1 h2 h3⟩ rfl hn h4.1 hs0 (lv_room hw) hd hcs) h3 h4 k
theorem aw_goSN {host : String} {Z : State → Prop} {y : MethodName} {bytes : ByteArray} {maxL n index d : Nat} {ret : Option FieldType} {ws : List Cond} {As rest st0 : List Value} {r : Option Value} (F : aw_F p s m c args cc nL Ts own D cl tys) (hZ : aw_Zok A Z) (Zs : Z s) (hM : aw_M l y ws d D cl tys A ad Z As hp r hp') (cw : va_CN R s args own index y host bytes maxL ret ws (aw_rm d) 0 0 n ∧ (Cond.static y).before args s = true ∧ True) (hn : As.length = n) (hw : (rest.map fun v => v.category).sum ≤ 8) (hcs : cells ≤ R.cells ∧ slots ≤ R.slots) (hs0 : st0 = As.reverse ++ rest) (hd : decode cc pc = .ok (.invokestatic index, 3)) (k : aW p l e R s m args below meth c cells slots Q D cl A ad nL hp' L (pc + 3) (r.toList ++ rest)) : aW p l e R s m args below meth c cells slots Q D cl A ad nL hp L pc st0 := by
  intro H locs ls h1 h2 h3 h4
  exact aw_ran (va_runSN (As := As) (rest := rest) F.1 hM cw ⟨aw_blind hZ, aw_pre F hZ Zs h1 h2 h3⟩ rfl hn h4.1 hs0 (lv_room hw) hd hcs) h3 h4 k
end AWR
theorem aw_ne {x k : Int32} {a : Int} (h : ¬ x = k) (hk : k.toInt = a) : x.toInt ≠ a := fun q => h (Int32.toInt_inj.mp (by rw [hk]; exact q))
/-- a method's contract out of the walk of its body -/
theorem aw_met {l : Launch} {y : MethodName} {ws ws' : List Cond} {d : Nat} {D : va_G} {cl : List vw_C} {tys : List (ClassId × FieldType)} {A : Nat → Prop} {ad : Nat → Nat} {Z : State → Prop} {av : List Value} {hp hp' : List va_E} {r : Option Value} (cc : ByteArray) (maxL : Nat) (ret : Option FieldType) (L0 : List (Option Value)) (hy : plainName y.cls = true) (hw : ws = Cond.code y cc maxL ret :: ws') (hl : (lg_sl av).length ≤ maxL) (hL : aw_ent av maxL = L0)
    (body : ∀ (p : Program) (e : Env) (s : State) (m : MethodId) (args : Array Value) (below : List Frame) (meth : Method) (c : Code), aw_F p s m c args cc maxL ws y.cls D cl tys → Z s → meth.sig.returnType = ret → meth.locks = false →
      aW p l e (aw_rm d) s m args below meth c 0 0 (MQ below (aw_Q D cl A ad r hp') args s 0 0 A) D cl A ad maxL hp L0 0 []) : aw_M l y ws d D cl tys A ad Z av hp r hp' := by
  refine Met.ofW (cc := cc) (maxL := maxL) (ret := ret) hy hw ?_
  intro p e s m args below meth c s₁ B hml hv
  obtain ⟨rfl, h1, h2, h3, h4⟩ := hv
  have hts := atoms_spec (ws := ws) B.pre
  have hown : s.vm.findClass y.cls = some m.cls := findClass_of_methodNamed B.named
  rw [lg_entry_eq]
  exact body p e s m av.toArray below meth c ⟨⟨B.exec, B.bytes, hml, hown, hts⟩, h3⟩ h4 B.returns B.notSynchronized s.heap [] _ h1 h2 va_S.rf (hL ▸ aw_entry av hl)
end
section
/-! THE CLASS'S STATE: S the desk's numbers, P the program (numbers, arrays), X the reaction (numbers, statuses of locals, the outcome) -/
abbrev kT : Type := Nat → Int32
abbrev pT : Type := (Nat → Int32) × (Nat → Nat → Int32)
abbrev xT : Type := (Nat → Int32) × (Nat → Int32) × Int64
def kw (S : kT) (k : Nat) (v : Int32) : kT := va_up S k v
def pw (P : pT) (k : Nat) (v : Int32) : pT := (va_up P.1 k v, P.2)
def pa (P : pT) (a i : Nat) (v : Int32) : pT := (P.1, va_up P.2 a (upd (P.2 a) i v))
def xw (X : xT) (k : Nat) (v : Int32) : xT := (va_up X.1 k v, X.2)
def xa (X : xT) (i : Nat) (v : Int32) : xT := (X.1, upd X.2.1 i v, X.2.2)
def xl (X : xT) (v : Int64) : xT := (X.1, X.2.1, v)
def hC (ad : Nat → Nat) (cI : ClassId) (S : kT) (P : pT) (X : xT) : List va_E :=
  [.inr (0, [.ref (ad 1), .ref (ad 11), .int (S 0), .int (S 1), .int (S 2), .int (S 3)]),
   .inr (1, [.ref (ad 2), .ref (ad 3), .ref (ad 4), .ref (ad 5), .ref (ad 6), .ref (ad 7), .ref (ad 8), .ref (ad 9), .ref (ad 10), .int (P.1 0), .int (P.1 1), .int (P.1 2), .int (P.1 3), .int (P.1 4), .int (P.1 5)]),
   .inl (cI, 120, .inl (P.2 0)),
   .inl (cI, 120, .inl (P.2 1)),
   .inl (cI, 120, .inl (P.2 2)),
   .inl (cI, 120, .inl (P.2 3)),
   .inl (cI, 120, .inl (P.2 4)),
   .inl (cI, 120, .inl (P.2 5)),
   .inl (cI, 120, .inl (P.2 6)),
   .inl (cI, 24, .inl (P.2 7)),
   .inl (cI, 24, .inl (P.2 8)),
   .inr (2, [.ref (ad 1), .ref (ad 12), .int (X.1 0), .int (X.1 1), .int (X.1 2), .int (X.1 3), .int (X.1 4), .int (X.1 5), .long (X.2.2)]),
   .inl (cI, 360, .inl (X.2.1))]
def zNc : List (String × String) := [("java/lang/IllegalStateException", "java/lang/IllegalArgumentException"), ("java/lang/IllegalStateException", "java/lang/IndexOutOfBoundsException"), ("java/lang/IllegalArgumentException", "java/lang/IllegalStateException"), ("java/lang/IllegalArgumentException", "java/lang/IndexOutOfBoundsException"), ("java/lang/IndexOutOfBoundsException", "java/lang/IllegalStateException"), ("java/lang/IndexOutOfBoundsException", "java/lang/IllegalArgumentException")]

def fPARTS (j : Nat) : Int32 := [0, 0, 0, 0, 2, 1, 2, 2, 1, 1, 1].getD j 0
/-- what every state of the run knows beside its cells: links in the nest, texts, the table PARTS, what throwing wants -/
def zC (A : Nat → Prop) (tP : Nat) (U : State) : Prop :=
  (∀ a i x h, Cond.methodLinkNest a i x h ∈ lw_tbl → va_Nw (.methodLinkNest a i x h) U) ∧
  (∀ a i b n d h, Cond.fieldLinkNest a i b n d h ∈ lw_tbl → va_Nw (.fieldLinkNest a i b n d h) U) ∧
  (∀ x, Cond.declares x ∈ lw_tbl → va_Nw (.declares x) U) ∧
  (∀ a b, Cond.castable a b ∈ lw_tbl → va_Nw (.castable a b) U) ∧
  (∀ a i t, Cond.stringRef a i t ∈ lw_tbl → ∃ sa, vk_R a i t sa U) ∧
  (∀ a b, (a, b) ∈ zNc → va_Nc a b U) ∧
  va_Z "ReactionDesk" "PARTS" "[I" (.ref tP) A U U.heap ∧ va_T .int tP 11 (fun j => .int (fPARTS j)) A U U.heap ∧
  vx_Zq Bundle.tN "UNASSIGNED_STACK" Bundle.steD A U U.heap ∧ vx_Zq Bundle.tN "SUPPRESSED_SENTINEL" Bundle.listD A U U.heap ∧ (∀ q : Nat, U.heap.size ≤ q → A q)
theorem zC_ok {A : Nat → Prop} {tP : Nat} : aw_Zok A (zC A tP) := by
  intro s U hW hz hk h
  obtain ⟨h1, h2, h3, h4, h5, h6, h7, h8, h9, h10, h11⟩ := h
  refine ⟨fun a i x w q => (h1 a i x w q).warmM hW, fun a i b n d w q => (h2 a i b n d w q).warmF hW, fun x q => (h3 x q).warmD hW, fun a b q => (h4 a b q).warmC hW, fun a i t q => ?_, fun a b q => (h6 a b q).moved hW.alike, (h7.moved hW.alike).kept hk, (h8.moved hW.alike).kept hk, (h9.moved hW.alike).kept hk, (h10.moved hW.alike).kept hk, fun q hq => h11 q (Nat.le_trans hz hq)⟩
  obtain ⟨sa, hs⟩ := h5 a i t q
  exact ⟨sa, hs.warm hW⟩
theorem nw_m {A : Nat → Prop} {tP : Nat} {U : State} {a : String} {i : Nat} {x : MethodName} {h : String} (Z : zC A tP U) (q : Cond.methodLinkNest a i x h ∈ lw_tbl) : va_Nw (.methodLinkNest a i x h) U := Z.1 a i x h q
theorem nw_f {A : Nat → Prop} {tP : Nat} {U : State} {a : String} {i : Nat} {b n d h : String} (Z : zC A tP U) (q : Cond.fieldLinkNest a i b n d h ∈ lw_tbl) : va_Nw (.fieldLinkNest a i b n d h) U := Z.2.1 a i b n d h q
theorem wd_mmax : Cond.code Lib.Math.max.name Lib.Math.max.code 2 (some .int) ∈ aw_big := big_of 421 (by decide +kernel) (by decide +kernel)
theorem inr_c {x y : Int32} {n : Nat} (hy : y.toInt ≤ n) (h0 : 0 ≤ x) (h1 : x < y) : vp_in x n := by
  rw [vp_in_iff]
  rw [Int32.le_iff_toInt_le, Int32.toInt_zero] at h0
  rw [Int32.lt_iff_toInt_lt] at h1
  omega
end
section
def fc_ofExit  (x : Int32) : Int32 :=
  ((4 : Int32) <<< (x &&& 31))
set_option maxRecDepth 100000 in
set_option maxHeartbeats 4000000 in
theorem tC_ofExit {l : Launch} {D : va_G} {A : Nat → Prop} {ad : Nat → Nat} {tP : Nat} {cI : ClassId} {tl : List va_E} {tyr : List (ClassId × FieldType)} (S : kT) (P : pT) (X : xT) (x : Int32)  : aw_M l yC_ofExit (Cond.code yC_ofExit cC_ofExit 1 (some .int) :: aw_big) 0 D vwCl ((cI, .int) :: tyr) A ad (zC A tP) [.int x] (hC ad cI S P X ++ tl) (some (.int (fc_ofExit x))) (hC ad cI S P X ++ tl) := by
  refine aw_met cC_ofExit 1 (some .int) [some (.int x)] (by decide) rfl (Nat.le_of_ble_eq_true rfl) rfl ?_
  intro p e s m args below meth c F Zs hr hlk
  refine aw_iconst (pc := 0) (v := 4) F dC_ofExit_0 (by decide) ?_
  refine aw_iload_n (pc := 1) (i := 0) (x := x) F dC_ofExit_1 rfl rfl ?_
  refine aw_ishl (pc := 2) F dC_ofExit_2 ?_
  exact aw_iret (pc := 3) F hr hlk dC_ofExit_3 (by first | rfl | (unfold fc_ofExit; rfl)) rfl
def fc_haveZero  (x : Int32) : Int32 :=
  if (x &&& (1 : Int32)) = 0 then (0 : Int32) else (1 : Int32)
set_option maxRecDepth 100000 in
set_option maxHeartbeats 4000000 in
theorem tC_haveZero {l : Launch} {D : va_G} {A : Nat → Prop} {ad : Nat → Nat} {tP : Nat} {cI : ClassId} {tl : List va_E} {tyr : List (ClassId × FieldType)} (S : kT) (P : pT) (X : xT) (x : Int32)  : aw_M l yC_haveZero (Cond.code yC_haveZero cC_haveZero 1 (some .boolean) :: aw_big) 0 D vwCl ((cI, .int) :: tyr) A ad (zC A tP) [.int x] (hC ad cI S P X ++ tl) (some (.int (fc_haveZero x))) (hC ad cI S P X ++ tl) := by
  refine aw_met cC_haveZero 1 (some .boolean) [some (.int x)] (by decide) rfl (Nat.le_of_ble_eq_true rfl) rfl ?_
  intro p e s m args below meth c F Zs hr hlk
  refine aw_iload_n (pc := 0) (i := 0) (x := x) F dC_haveZero_0 rfl rfl ?_
  refine aw_iconst (pc := 1) (v := 1) F dC_haveZero_1 (by decide) ?_
  refine aw_iand (pc := 2) F dC_haveZero_2 ?_
  refine aw_if_eq (pc := 3) F 10 dC_haveZero_3 (by decide) (fun c_3 => ?_) (fun c_3 => ?_)
  · skip
    refine aw_iconst (pc := 10) (v := 0) F dC_haveZero_10 (by decide) ?_
    exact aw_zret (pc := 11) F hr hlk dC_haveZero_11 rfl (by rw [fc_haveZero, if_pos c_3]) rfl
  · skip
    refine aw_iconst (pc := 6) (v := 1) F dC_haveZero_6 (by decide) ?_
    refine aw_goto (pc := 7) F 11 dC_haveZero_7 (by decide) ?_
    exact aw_zret (pc := 11) F hr hlk dC_haveZero_11 rfl (by rw [fc_haveZero, if_neg c_3]) rfl
def fc_withoutZero  (x : Int32) : Int32 :=
  (x &&& (-2 : Int32))
set_option maxRecDepth 100000 in
set_option maxHeartbeats 4000000 in
theorem tC_withoutZero {l : Launch} {D : va_G} {A : Nat → Prop} {ad : Nat → Nat} {tP : Nat} {cI : ClassId} {tl : List va_E} {tyr : List (ClassId × FieldType)} (S : kT) (P : pT) (X : xT) (x : Int32)  : aw_M l yC_withoutZero (Cond.code yC_withoutZero cC_withoutZero 1 (some .int) :: aw_big) 0 D vwCl ((cI, .int) :: tyr) A ad (zC A tP) [.int x] (hC ad cI S P X ++ tl) (some (.int (fc_withoutZero x))) (hC ad cI S P X ++ tl) := by
  refine aw_met cC_withoutZero 1 (some .int) [some (.int x)] (by decide) rfl (Nat.le_of_ble_eq_true rfl) rfl ?_
  intro p e s m args below meth c F Zs hr hlk
  refine aw_iload_n (pc := 0) (i := 0) (x := x) F dC_withoutZero_0 rfl rfl ?_
  refine aw_bipush (pc := 1) (v := -2) F dC_withoutZero_1 (by decide) ?_
  refine aw_iand (pc := 3) F dC_withoutZero_3 ?_
  exact aw_iret (pc := 4) F hr hlk dC_withoutZero_4 (by first | rfl | (unfold fc_withoutZero; rfl)) rfl
def fc_inSequence  (x : Int32) (y : Int32) : Int32 :=
  if (fc_haveZero x) = 0 then x else ((fc_withoutZero x) ||| y)
set_option maxRecDepth 100000 in
set_option maxHeartbeats 4000000 in
theorem tC_inSequence {l : Launch} {D : va_G} {A : Nat → Prop} {ad : Nat → Nat} {tP : Nat} {cI : ClassId} {tl : List va_E} {tyr : List (ClassId × FieldType)} (S : kT) (P : pT) (X : xT) (x : Int32) (y : Int32)  : aw_M l yC_inSequence (Cond.code yC_inSequence cC_inSequence 2 (some .int) :: aw_big) 1 D vwCl ((cI, .int) :: tyr) A ad (zC A tP) [.int x, .int y] (hC ad cI S P X ++ tl) (some (.int (fc_inSequence x y))) (hC ad cI S P X ++ tl) := by
  refine aw_met cC_inSequence 2 (some .int) [some (.int x), some (.int y)] (by decide) rfl (Nat.le_of_ble_eq_true rfl) rfl ?_
  intro p e s m args below meth c F Zs hr hlk
  refine aw_iload_n (pc := 0) (i := 0) (x := x) F dC_inSequence_0 rfl rfl ?_
  refine aw_goS (pc := 1) (As := [.int x]) (rest := []) F zC_ok Zs (tC_haveZero  S P X x) (va_cwS 1 F.1.2.2.2.2 (gi_S wd_412 wd_413 wd_73 wd_414) rfl rfl rfl (by decide +kernel) ⟨Nat.le_of_ble_eq_true rfl, Nat.le_of_ble_eq_true rfl⟩) rfl (Nat.le_of_ble_eq_true rfl) ⟨Nat.zero_le _, Nat.zero_le _⟩ rfl dC_inSequence_1 ?_
  show aW _ _ _ _ _ _ _ _ _ _ _ _ _ _ _ _ _ _ _ _ _ [.int (fc_haveZero x)]
  refine aw_if_eq (pc := 4) F 16 dC_inSequence_4 (by decide) (fun c_4 => ?_) (fun c_4 => ?_)
  · skip
    refine aw_iload_n (pc := 16) (i := 0) (x := x) F dC_inSequence_16 rfl rfl ?_
    exact aw_iret (pc := 17) F hr hlk dC_inSequence_17 (by rw [fc_inSequence, if_pos c_4]) rfl
  · skip
    refine aw_iload_n (pc := 7) (i := 0) (x := x) F dC_inSequence_7 rfl rfl ?_
    refine aw_goS (pc := 8) (As := [.int x]) (rest := []) F zC_ok Zs (tC_withoutZero  S P X x) (va_cwS 1 F.1.2.2.2.2 (gi_S wd_415 wd_407 wd_73 wd_408) rfl rfl rfl (by decide +kernel) ⟨Nat.le_of_ble_eq_true rfl, Nat.le_of_ble_eq_true rfl⟩) rfl (Nat.le_of_ble_eq_true rfl) ⟨Nat.zero_le _, Nat.zero_le _⟩ rfl dC_inSequence_8 ?_
    show aW _ _ _ _ _ _ _ _ _ _ _ _ _ _ _ _ _ _ _ _ _ [.int (fc_withoutZero x)]
    refine aw_iload_n (pc := 11) (i := 1) (x := y) F dC_inSequence_11 rfl rfl ?_
    refine aw_ior (pc := 12) F dC_inSequence_12 ?_
    refine aw_goto (pc := 13) F 17 dC_inSequence_13 (by decide) ?_
    exact aw_iret (pc := 17) F hr hlk dC_inSequence_17 (by rw [fc_inSequence, if_neg c_4]) rfl
def fc_greaterOfPairs  (x : Int32) (y : Int32) : Int32 :=
  if x = 0 then
    (0 : Int32)
  else
    if y = 0 then
      (0 : Int32)
    else
      ((x ||| y) &&& (-(if (x &&& (-x)) < (y &&& (-y)) then (y &&& (-y)) else (x &&& (-x)))))
set_option maxRecDepth 100000 in
set_option maxHeartbeats 4000000 in
theorem tC_greaterOfPairs {l : Launch} {D : va_G} {A : Nat → Prop} {ad : Nat → Nat} {tP : Nat} {cI : ClassId} {tl : List va_E} {tyr : List (ClassId × FieldType)} (S : kT) (P : pT) (X : xT) (x : Int32) (y : Int32)  : aw_M l yC_greaterOfPairs (Cond.code yC_greaterOfPairs cC_greaterOfPairs 3 (some .int) :: aw_big) 1 D vwCl ((cI, .int) :: tyr) A ad (zC A tP) [.int x, .int y] (hC ad cI S P X ++ tl) (some (.int (fc_greaterOfPairs x y))) (hC ad cI S P X ++ tl) := by
  refine aw_met cC_greaterOfPairs 3 (some .int) [some (.int x), some (.int y), none] (by decide) rfl (Nat.le_of_ble_eq_true rfl) rfl ?_
  intro p e s m args below meth c F Zs hr hlk
  refine aw_iload_n (pc := 0) (i := 0) (x := x) F dC_greaterOfPairs_0 rfl rfl ?_
  refine aw_if_eq (pc := 1) F 8 dC_greaterOfPairs_1 (by decide) (fun c_1 => ?_) (fun c_1 => ?_)
  · skip
    refine aw_iconst (pc := 8) (v := 0) F dC_greaterOfPairs_8 (by decide) ?_
    exact aw_iret (pc := 9) F hr hlk dC_greaterOfPairs_9 (by rw [fc_greaterOfPairs, if_pos c_1]) rfl
  · skip
    refine aw_iload_n (pc := 4) (i := 1) (x := y) F dC_greaterOfPairs_4 rfl rfl ?_
    refine aw_if_ne (pc := 5) F 10 dC_greaterOfPairs_5 (by decide) (fun c_5 => ?_) (fun c_5 => ?_)
    · skip
      refine aw_iload_n (pc := 10) (i := 0) (x := x) F dC_greaterOfPairs_10 rfl rfl ?_
      refine aw_iload_n (pc := 11) (i := 0) (x := x) F dC_greaterOfPairs_11 rfl rfl ?_
      refine aw_ineg (pc := 12) F dC_greaterOfPairs_12 ?_
      refine aw_iand (pc := 13) F dC_greaterOfPairs_13 ?_
      refine aw_iload_n (pc := 14) (i := 1) (x := y) F dC_greaterOfPairs_14 rfl rfl ?_
      refine aw_iload_n (pc := 15) (i := 1) (x := y) F dC_greaterOfPairs_15 rfl rfl ?_
      refine aw_ineg (pc := 16) F dC_greaterOfPairs_16 ?_
      refine aw_iand (pc := 17) F dC_greaterOfPairs_17 ?_
      refine aw_mmax (pc := 18) F (mw wd_419) (mw wd_420) (mw wd_74) (mw wd_mmax) (by decide) (by decide) ⟨Nat.zero_le _, Nat.zero_le _⟩ dC_greaterOfPairs_18 ?_
      refine aw_istore_n (pc := 21) (i := 2) (L' := [some (.int x), some (.int y), some (.int (if (x &&& (-x)) < (y &&& (-y)) then (y &&& (-y)) else (x &&& (-x))))]) F dC_greaterOfPairs_21 rfl (by decide) rfl ?_
      refine aw_iload_n (pc := 22) (i := 0) (x := x) F dC_greaterOfPairs_22 rfl rfl ?_
      refine aw_iload_n (pc := 23) (i := 1) (x := y) F dC_greaterOfPairs_23 rfl rfl ?_
      refine aw_ior (pc := 24) F dC_greaterOfPairs_24 ?_
      refine aw_iload_n (pc := 25) (i := 2) (x := if (x &&& (-x)) < (y &&& (-y)) then (y &&& (-y)) else (x &&& (-x))) F dC_greaterOfPairs_25 rfl rfl ?_
      refine aw_ineg (pc := 26) F dC_greaterOfPairs_26 ?_
      refine aw_iand (pc := 27) F dC_greaterOfPairs_27 ?_
      exact aw_iret (pc := 28) F hr hlk dC_greaterOfPairs_28 (by rw [fc_greaterOfPairs, if_neg c_1, if_neg c_5]) rfl
    · skip
      refine aw_iconst (pc := 8) (v := 0) F dC_greaterOfPairs_8 (by decide) ?_
      exact aw_iret (pc := 9) F hr hlk dC_greaterOfPairs_9 (by rw [fc_greaterOfPairs, if_neg c_1, if_pos c_5]) rfl
def fc_outsideTrap  (x : Int32) : Int32 :=
  if (x &&& (4 : Int32)) = 0 then
    (((x &&& (3 : Int32)) ||| (0 : Int32)) ||| ((x >>> ((3 : Int32) &&& 31)) <<< ((2 : Int32) &&& 31)))
  else
    (((x &&& (3 : Int32)) ||| (1 : Int32)) ||| ((x >>> ((3 : Int32) &&& 31)) <<< ((2 : Int32) &&& 31)))
set_option maxRecDepth 100000 in
set_option maxHeartbeats 4000000 in
theorem tC_outsideTrap {l : Launch} {D : va_G} {A : Nat → Prop} {ad : Nat → Nat} {tP : Nat} {cI : ClassId} {tl : List va_E} {tyr : List (ClassId × FieldType)} (S : kT) (P : pT) (X : xT) (x : Int32)  : aw_M l yC_outsideTrap (Cond.code yC_outsideTrap cC_outsideTrap 3 (some .int) :: aw_big) 0 D vwCl ((cI, .int) :: tyr) A ad (zC A tP) [.int x] (hC ad cI S P X ++ tl) (some (.int (fc_outsideTrap x))) (hC ad cI S P X ++ tl) := by
  refine aw_met cC_outsideTrap 3 (some .int) [some (.int x), none, none] (by decide) rfl (Nat.le_of_ble_eq_true rfl) rfl ?_
  intro p e s m args below meth c F Zs hr hlk
  refine aw_iload_n (pc := 0) (i := 0) (x := x) F dC_outsideTrap_0 rfl rfl ?_
  refine aw_iconst (pc := 1) (v := 4) F dC_outsideTrap_1 (by decide) ?_
  refine aw_iand (pc := 2) F dC_outsideTrap_2 ?_
  refine aw_if_eq (pc := 3) F 10 dC_outsideTrap_3 (by decide) (fun c_3 => ?_) (fun c_3 => ?_)
  · skip
    refine aw_iconst (pc := 10) (v := 0) F dC_outsideTrap_10 (by decide) ?_
    refine aw_istore_n (pc := 11) (i := 1) (L' := [some (.int x), some (.int (0 : Int32)), none]) F dC_outsideTrap_11 rfl (by decide) rfl ?_
    refine aw_iload_n (pc := 12) (i := 0) (x := x) F dC_outsideTrap_12 rfl rfl ?_
    refine aw_iconst (pc := 13) (v := 3) F dC_outsideTrap_13 (by decide) ?_
    refine aw_ishr (pc := 14) F dC_outsideTrap_14 ?_
    refine aw_iconst (pc := 15) (v := 2) F dC_outsideTrap_15 (by decide) ?_
    refine aw_ishl (pc := 16) F dC_outsideTrap_16 ?_
    refine aw_istore_n (pc := 17) (i := 2) (L' := [some (.int x), some (.int (0 : Int32)), some (.int ((x >>> ((3 : Int32) &&& 31)) <<< ((2 : Int32) &&& 31)))]) F dC_outsideTrap_17 rfl (by decide) rfl ?_
    refine aw_iload_n (pc := 18) (i := 0) (x := x) F dC_outsideTrap_18 rfl rfl ?_
    refine aw_iconst (pc := 19) (v := 3) F dC_outsideTrap_19 (by decide) ?_
    refine aw_iand (pc := 20) F dC_outsideTrap_20 ?_
    refine aw_iload_n (pc := 21) (i := 1) (x := (0 : Int32)) F dC_outsideTrap_21 rfl rfl ?_
    refine aw_ior (pc := 22) F dC_outsideTrap_22 ?_
    refine aw_iload_n (pc := 23) (i := 2) (x := (x >>> ((3 : Int32) &&& 31)) <<< ((2 : Int32) &&& 31)) F dC_outsideTrap_23 rfl rfl ?_
    refine aw_ior (pc := 24) F dC_outsideTrap_24 ?_
    exact aw_iret (pc := 25) F hr hlk dC_outsideTrap_25 (by rw [fc_outsideTrap, if_pos c_3]) rfl
  · skip
    refine aw_iconst (pc := 6) (v := 1) F dC_outsideTrap_6 (by decide) ?_
    refine aw_goto (pc := 7) F 11 dC_outsideTrap_7 (by decide) ?_
    refine aw_istore_n (pc := 11) (i := 1) (L' := [some (.int x), some (.int (1 : Int32)), none]) F dC_outsideTrap_11 rfl (by decide) rfl ?_
    refine aw_iload_n (pc := 12) (i := 0) (x := x) F dC_outsideTrap_12 rfl rfl ?_
    refine aw_iconst (pc := 13) (v := 3) F dC_outsideTrap_13 (by decide) ?_
    refine aw_ishr (pc := 14) F dC_outsideTrap_14 ?_
    refine aw_iconst (pc := 15) (v := 2) F dC_outsideTrap_15 (by decide) ?_
    refine aw_ishl (pc := 16) F dC_outsideTrap_16 ?_
    refine aw_istore_n (pc := 17) (i := 2) (L' := [some (.int x), some (.int (1 : Int32)), some (.int ((x >>> ((3 : Int32) &&& 31)) <<< ((2 : Int32) &&& 31)))]) F dC_outsideTrap_17 rfl (by decide) rfl ?_
    refine aw_iload_n (pc := 18) (i := 0) (x := x) F dC_outsideTrap_18 rfl rfl ?_
    refine aw_iconst (pc := 19) (v := 3) F dC_outsideTrap_19 (by decide) ?_
    refine aw_iand (pc := 20) F dC_outsideTrap_20 ?_
    refine aw_iload_n (pc := 21) (i := 1) (x := (1 : Int32)) F dC_outsideTrap_21 rfl rfl ?_
    refine aw_ior (pc := 22) F dC_outsideTrap_22 ?_
    refine aw_iload_n (pc := 23) (i := 2) (x := (x >>> ((3 : Int32) &&& 31)) <<< ((2 : Int32) &&& 31)) F dC_outsideTrap_23 rfl rfl ?_
    refine aw_ior (pc := 24) F dC_outsideTrap_24 ?_
    exact aw_iret (pc := 25) F hr hlk dC_outsideTrap_25 (by rw [fc_outsideTrap, if_neg c_3]) rfl
def fo_half  (x : Int32) (y : Int32) : Int32 :=
  (x ||| (y <<< ((16 : Int32) &&& 31)))
set_option maxRecDepth 100000 in
set_option maxHeartbeats 4000000 in
theorem tO_half {l : Launch} {D : va_G} {A : Nat → Prop} {ad : Nat → Nat} {tP : Nat} {cI : ClassId} {tl : List va_E} {tyr : List (ClassId × FieldType)} (S : kT) (P : pT) (X : xT) (x : Int32) (y : Int32)  : aw_M l yO_half (Cond.code yO_half cO_half 2 (some .int) :: aw_big) 0 D vwCl ((cI, .int) :: tyr) A ad (zC A tP) [.int x, .int y] (hC ad cI S P X ++ tl) (some (.int (fo_half x y))) (hC ad cI S P X ++ tl) := by
  refine aw_met cO_half 2 (some .int) [some (.int x), some (.int y)] (by decide) rfl (Nat.le_of_ble_eq_true rfl) rfl ?_
  intro p e s m args below meth c F Zs hr hlk
  refine aw_iload_n (pc := 0) (i := 0) (x := x) F dO_half_0 rfl rfl ?_
  refine aw_iload_n (pc := 1) (i := 1) (x := y) F dO_half_1 rfl rfl ?_
  refine aw_bipush (pc := 2) (v := 16) F dO_half_2 (by decide) ?_
  refine aw_ishl (pc := 4) F dO_half_4 ?_
  refine aw_ior (pc := 5) F dO_half_5 ?_
  exact aw_iret (pc := 6) F hr hlk dO_half_6 (by first | rfl | (unfold fo_half; rfl)) rfl
def fo_whole  (x : Int32) (y : Int32) : Int64 :=
  ((x.toInt64 <<< ((32 : Int32).toInt64 &&& 63)) ||| y.toInt64)
set_option maxRecDepth 100000 in
set_option maxHeartbeats 4000000 in
theorem tO_whole {l : Launch} {D : va_G} {A : Nat → Prop} {ad : Nat → Nat} {tP : Nat} {cI : ClassId} {tl : List va_E} {tyr : List (ClassId × FieldType)} (S : kT) (P : pT) (X : xT) (x : Int32) (y : Int32)  : aw_M l yO_whole (Cond.code yO_whole cO_whole 2 (some .long) :: aw_big) 0 D vwCl ((cI, .int) :: tyr) A ad (zC A tP) [.int x, .int y] (hC ad cI S P X ++ tl) (some (.long (fo_whole x y))) (hC ad cI S P X ++ tl) := by
  refine aw_met cO_whole 2 (some .long) [some (.int x), some (.int y)] (by decide) rfl (Nat.le_of_ble_eq_true rfl) rfl ?_
  intro p e s m args below meth c F Zs hr hlk
  refine aw_iload_n (pc := 0) (i := 0) (x := x) F dO_whole_0 rfl rfl ?_
  refine aw_i2l (pc := 1) (v := x.toInt64) F dO_whole_1 rfl ?_
  refine aw_bipush (pc := 2) (v := 32) F dO_whole_2 (by decide) ?_
  refine aw_lshl (pc := 4) (v := x.toInt64 <<< ((32 : Int32).toInt64 &&& 63)) F dO_whole_4 rfl ?_
  refine aw_iload_n (pc := 5) (i := 1) (x := y) F dO_whole_5 rfl rfl ?_
  refine aw_i2l (pc := 6) (v := y.toInt64) F dO_whole_6 rfl ?_
  refine aw_lor (pc := 7) F dO_whole_7 ?_
  exact aw_lret (pc := 8) F hr hlk dO_whole_8 (by first | rfl | (unfold fo_whole; rfl)) rfl
def fo_can  (w : Int64) : Int32 :=
  w.toInt32
set_option maxRecDepth 100000 in
set_option maxHeartbeats 4000000 in
theorem tO_can {l : Launch} {D : va_G} {A : Nat → Prop} {ad : Nat → Nat} {tP : Nat} {cI : ClassId} {tl : List va_E} {tyr : List (ClassId × FieldType)} (S : kT) (P : pT) (X : xT) (w : Int64)  : aw_M l yO_can (Cond.code yO_can cO_can 2 (some .int) :: aw_big) 0 D vwCl ((cI, .int) :: tyr) A ad (zC A tP) [.long w] (hC ad cI S P X ++ tl) (some (.int (fo_can w))) (hC ad cI S P X ++ tl) := by
  refine aw_met cO_can 2 (some .int) [some (.long w), none] (by decide) rfl (Nat.le_of_ble_eq_true rfl) rfl ?_
  intro p e s m args below meth c F Zs hr hlk
  refine aw_lload_n (pc := 0) (i := 0) (x := w) F dO_can_0 rfl rfl ?_
  refine aw_l2i (pc := 1) (v := w.toInt32) F dO_can_1 rfl ?_
  exact aw_iret (pc := 2) F hr hlk dO_can_2 (by first | rfl | (unfold fo_can; rfl)) rfl
def fo_must  (w : Int64) : Int32 :=
  (((w.toUInt64 >>> ((32 : Int32).toInt64.toUInt64 &&& Int64.toUInt64 63)).toInt64).toInt32)
set_option maxRecDepth 100000 in
set_option maxHeartbeats 4000000 in
theorem tO_must {l : Launch} {D : va_G} {A : Nat → Prop} {ad : Nat → Nat} {tP : Nat} {cI : ClassId} {tl : List va_E} {tyr : List (ClassId × FieldType)} (S : kT) (P : pT) (X : xT) (w : Int64)  : aw_M l yO_must (Cond.code yO_must cO_must 2 (some .int) :: aw_big) 0 D vwCl ((cI, .int) :: tyr) A ad (zC A tP) [.long w] (hC ad cI S P X ++ tl) (some (.int (fo_must w))) (hC ad cI S P X ++ tl) := by
  refine aw_met cO_must 2 (some .int) [some (.long w), none] (by decide) rfl (Nat.le_of_ble_eq_true rfl) rfl ?_
  intro p e s m args below meth c F Zs hr hlk
  refine aw_lload_n (pc := 0) (i := 0) (x := w) F dO_must_0 rfl rfl ?_
  refine aw_bipush (pc := 1) (v := 32) F dO_must_1 (by decide) ?_
  refine aw_lushr (pc := 3) (v := (w.toUInt64 >>> ((32 : Int32).toInt64.toUInt64 &&& Int64.toUInt64 63)).toInt64) F dO_must_3 rfl ?_
  refine aw_l2i (pc := 4) (v := ((w.toUInt64 >>> ((32 : Int32).toInt64.toUInt64 &&& Int64.toUInt64 63)).toInt64).toInt32) F dO_must_4 rfl ?_
  exact aw_iret (pc := 5) F hr hlk dO_must_5 (by first | rfl | (unfold fo_must; rfl)) rfl
def fo_emittedIn  (x : Int32) : Int32 :=
  (x &&& (65535 : Int32))
set_option maxRecDepth 100000 in
set_option maxHeartbeats 4000000 in
theorem tO_emittedIn {l : Launch} {D : va_G} {A : Nat → Prop} {ad : Nat → Nat} {tP : Nat} {cI : ClassId} {tl : List va_E} {tyr : List (ClassId × FieldType)} (S : kT) (P : pT) (X : xT) (x : Int32)  : aw_M l yO_emittedIn (Cond.code yO_emittedIn cO_emittedIn 1 (some .int) :: aw_big) 0 D vwCl ((cI, .int) :: tyr) A ad (zC A tP) [.int x] (hC ad cI S P X ++ tl) (some (.int (fo_emittedIn x))) (hC ad cI S P X ++ tl) := by
  refine aw_met cO_emittedIn 1 (some .int) [some (.int x)] (by decide) rfl (Nat.le_of_ble_eq_true rfl) rfl ?_
  intro p e s m args below meth c F Zs hr hlk
  refine aw_iload_n (pc := 0) (i := 0) (x := x) F dO_emittedIn_0 rfl rfl ?_
  refine aw_ldc (pc := 1) (v := 65535) F dO_emittedIn_1 (mw wd_472) ?_
  refine aw_iand (pc := 3) F dO_emittedIn_3 ?_
  exact aw_iret (pc := 4) F hr hlk dO_emittedIn_4 (by first | rfl | (unfold fo_emittedIn; rfl)) rfl
def fo_codesIn  (x : Int32) : Int32 :=
  (x >>> ((16 : Int32) &&& 31))
set_option maxRecDepth 100000 in
set_option maxHeartbeats 4000000 in
theorem tO_codesIn {l : Launch} {D : va_G} {A : Nat → Prop} {ad : Nat → Nat} {tP : Nat} {cI : ClassId} {tl : List va_E} {tyr : List (ClassId × FieldType)} (S : kT) (P : pT) (X : xT) (x : Int32)  : aw_M l yO_codesIn (Cond.code yO_codesIn cO_codesIn 1 (some .int) :: aw_big) 0 D vwCl ((cI, .int) :: tyr) A ad (zC A tP) [.int x] (hC ad cI S P X ++ tl) (some (.int (fo_codesIn x))) (hC ad cI S P X ++ tl) := by
  refine aw_met cO_codesIn 1 (some .int) [some (.int x)] (by decide) rfl (Nat.le_of_ble_eq_true rfl) rfl ?_
  intro p e s m args below meth c F Zs hr hlk
  refine aw_iload_n (pc := 0) (i := 0) (x := x) F dO_codesIn_0 rfl rfl ?_
  refine aw_bipush (pc := 1) (v := 16) F dO_codesIn_1 (by decide) ?_
  refine aw_ishr (pc := 3) F dO_codesIn_3 ?_
  exact aw_iret (pc := 4) F hr hlk dO_codesIn_4 (by first | rfl | (unfold fo_codesIn; rfl)) rfl
def fo_canEndWithZero  (w : Int64) : Int32 :=
  if (lg_cmp (w &&& (65536 : Int64)) (0 : Int64)) = 0 then (0 : Int32) else (1 : Int32)
set_option maxRecDepth 100000 in
set_option maxHeartbeats 4000000 in
theorem tO_canEndWithZero {l : Launch} {D : va_G} {A : Nat → Prop} {ad : Nat → Nat} {tP : Nat} {cI : ClassId} {tl : List va_E} {tyr : List (ClassId × FieldType)} (S : kT) (P : pT) (X : xT) (w : Int64)  : aw_M l yO_canEndWithZero (Cond.code yO_canEndWithZero cO_canEndWithZero 2 (some .boolean) :: aw_big) 0 D vwCl ((cI, .int) :: tyr) A ad (zC A tP) [.long w] (hC ad cI S P X ++ tl) (some (.int (fo_canEndWithZero w))) (hC ad cI S P X ++ tl) := by
  refine aw_met cO_canEndWithZero 2 (some .boolean) [some (.long w), none] (by decide) rfl (Nat.le_of_ble_eq_true rfl) rfl ?_
  intro p e s m args below meth c F Zs hr hlk
  refine aw_lload_n (pc := 0) (i := 0) (x := w) F dO_canEndWithZero_0 rfl rfl ?_
  refine aw_ldc2 (pc := 1) (v := 65536) F dO_canEndWithZero_1 (mw wd_549) ?_
  refine aw_land (pc := 4) F dO_canEndWithZero_4 ?_
  refine aw_lconst (pc := 5) (v := 0) F dO_canEndWithZero_5 (by decide) ?_
  refine aw_lcmp (pc := 6) F dO_canEndWithZero_6 ?_
  refine aw_if_eq (pc := 7) F 14 dO_canEndWithZero_7 (by decide) (fun c_7 => ?_) (fun c_7 => ?_)
  · skip
    refine aw_iconst (pc := 14) (v := 0) F dO_canEndWithZero_14 (by decide) ?_
    exact aw_zret (pc := 15) F hr hlk dO_canEndWithZero_15 rfl (by rw [fo_canEndWithZero, if_pos c_7]) rfl
  · skip
    refine aw_iconst (pc := 10) (v := 1) F dO_canEndWithZero_10 (by decide) ?_
    refine aw_goto (pc := 11) F 15 dO_canEndWithZero_11 (by decide) ?_
    exact aw_zret (pc := 15) F hr hlk dO_canEndWithZero_15 rfl (by rw [fo_canEndWithZero, if_neg c_7]) rfl
def fo_mustEndWithZero  (w : Int64) : Int32 :=
  if (lg_cmp (w &&& (281474976710656 : Int64)) (0 : Int64)) = 0 then (0 : Int32) else (1 : Int32)
set_option maxRecDepth 100000 in
set_option maxHeartbeats 4000000 in
theorem tO_mustEndWithZero {l : Launch} {D : va_G} {A : Nat → Prop} {ad : Nat → Nat} {tP : Nat} {cI : ClassId} {tl : List va_E} {tyr : List (ClassId × FieldType)} (S : kT) (P : pT) (X : xT) (w : Int64)  : aw_M l yO_mustEndWithZero (Cond.code yO_mustEndWithZero cO_mustEndWithZero 2 (some .boolean) :: aw_big) 0 D vwCl ((cI, .int) :: tyr) A ad (zC A tP) [.long w] (hC ad cI S P X ++ tl) (some (.int (fo_mustEndWithZero w))) (hC ad cI S P X ++ tl) := by
  refine aw_met cO_mustEndWithZero 2 (some .boolean) [some (.long w), none] (by decide) rfl (Nat.le_of_ble_eq_true rfl) rfl ?_
  intro p e s m args below meth c F Zs hr hlk
  refine aw_lload_n (pc := 0) (i := 0) (x := w) F dO_mustEndWithZero_0 rfl rfl ?_
  refine aw_ldc2 (pc := 1) (v := 281474976710656) F dO_mustEndWithZero_1 (mw wd_557) ?_
  refine aw_land (pc := 4) F dO_mustEndWithZero_4 ?_
  refine aw_lconst (pc := 5) (v := 0) F dO_mustEndWithZero_5 (by decide) ?_
  refine aw_lcmp (pc := 6) F dO_mustEndWithZero_6 ?_
  refine aw_if_eq (pc := 7) F 14 dO_mustEndWithZero_7 (by decide) (fun c_7 => ?_) (fun c_7 => ?_)
  · skip
    refine aw_iconst (pc := 14) (v := 0) F dO_mustEndWithZero_14 (by decide) ?_
    exact aw_zret (pc := 15) F hr hlk dO_mustEndWithZero_15 rfl (by rw [fo_mustEndWithZero, if_pos c_7]) rfl
  · skip
    refine aw_iconst (pc := 10) (v := 1) F dO_mustEndWithZero_10 (by decide) ?_
    refine aw_goto (pc := 11) F 15 dO_mustEndWithZero_11 (by decide) ?_
    exact aw_zret (pc := 15) F hr hlk dO_mustEndWithZero_15 rfl (by rw [fo_mustEndWithZero, if_neg c_7]) rfl
def fo_withoutZero  (w : Int64) : Int64 :=
  (w &&& (-281474976776193 : Int64))
set_option maxRecDepth 100000 in
set_option maxHeartbeats 4000000 in
theorem tO_withoutZero {l : Launch} {D : va_G} {A : Nat → Prop} {ad : Nat → Nat} {tP : Nat} {cI : ClassId} {tl : List va_E} {tyr : List (ClassId × FieldType)} (S : kT) (P : pT) (X : xT) (w : Int64)  : aw_M l yO_withoutZero (Cond.code yO_withoutZero cO_withoutZero 2 (some .long) :: aw_big) 0 D vwCl ((cI, .int) :: tyr) A ad (zC A tP) [.long w] (hC ad cI S P X ++ tl) (some (.long (fo_withoutZero w))) (hC ad cI S P X ++ tl) := by
  refine aw_met cO_withoutZero 2 (some .long) [some (.long w), none] (by decide) rfl (Nat.le_of_ble_eq_true rfl) rfl ?_
  intro p e s m args below meth c F Zs hr hlk
  refine aw_lload_n (pc := 0) (i := 0) (x := w) F dO_withoutZero_0 rfl rfl ?_
  refine aw_ldc2 (pc := 1) (v := -281474976776193) F dO_withoutZero_1 (mw wd_553) ?_
  refine aw_land (pc := 4) F dO_withoutZero_4 ?_
  exact aw_lret (pc := 5) F hr hlk dO_withoutZero_5 (by first | rfl | (unfold fo_withoutZero; rfl)) rfl
def fo_withoutSignal  (w : Int64) (x : Int32) : Int64 :=
  (w &&& ((((1 : Int64) <<< (x.toInt64 &&& 63)) ||| (((1 : Int64) <<< (x.toInt64 &&& 63)) <<< ((32 : Int32).toInt64 &&& 63))) ^^^ (-1 : Int64)))
set_option maxRecDepth 100000 in
set_option maxHeartbeats 4000000 in
theorem tO_withoutSignal {l : Launch} {D : va_G} {A : Nat → Prop} {ad : Nat → Nat} {tP : Nat} {cI : ClassId} {tl : List va_E} {tyr : List (ClassId × FieldType)} (S : kT) (P : pT) (X : xT) (w : Int64) (x : Int32)  : aw_M l yO_withoutSignal (Cond.code yO_withoutSignal cO_withoutSignal 5 (some .long) :: aw_big) 0 D vwCl ((cI, .int) :: tyr) A ad (zC A tP) [.long w, .int x] (hC ad cI S P X ++ tl) (some (.long (fo_withoutSignal w x))) (hC ad cI S P X ++ tl) := by
  refine aw_met cO_withoutSignal 5 (some .long) [some (.long w), none, some (.int x), none, none] (by decide) rfl (Nat.le_of_ble_eq_true rfl) rfl ?_
  intro p e s m args below meth c F Zs hr hlk
  refine aw_lconst (pc := 0) (v := 1) F dO_withoutSignal_0 (by decide) ?_
  refine aw_iload_n (pc := 1) (i := 2) (x := x) F dO_withoutSignal_1 rfl rfl ?_
  refine aw_lshl (pc := 2) (v := (1 : Int64) <<< (x.toInt64 &&& 63)) F dO_withoutSignal_2 rfl ?_
  refine aw_lstore_n (pc := 3) (i := 3) (L' := [some (.long w), none, some (.int x), some (.long ((1 : Int64) <<< (x.toInt64 &&& 63))), none]) F dO_withoutSignal_3 rfl (by decide) rfl ?_
  refine aw_lload_n (pc := 4) (i := 0) (x := w) F dO_withoutSignal_4 rfl rfl ?_
  refine aw_lload_n (pc := 5) (i := 3) (x := (1 : Int64) <<< (x.toInt64 &&& 63)) F dO_withoutSignal_5 rfl rfl ?_
  refine aw_lload_n (pc := 6) (i := 3) (x := (1 : Int64) <<< (x.toInt64 &&& 63)) F dO_withoutSignal_6 rfl rfl ?_
  refine aw_bipush (pc := 7) (v := 32) F dO_withoutSignal_7 (by decide) ?_
  refine aw_lshl (pc := 9) (v := ((1 : Int64) <<< (x.toInt64 &&& 63)) <<< ((32 : Int32).toInt64 &&& 63)) F dO_withoutSignal_9 rfl ?_
  refine aw_lor (pc := 10) F dO_withoutSignal_10 ?_
  refine aw_ldc2 (pc := 11) (v := -1) F dO_withoutSignal_11 (mw wd_516) ?_
  refine aw_lxor (pc := 14) F dO_withoutSignal_14 ?_
  refine aw_land (pc := 15) F dO_withoutSignal_15 ?_
  exact aw_lret (pc := 16) F hr hlk dO_withoutSignal_16 (by first | rfl | (unfold fo_withoutSignal; rfl)) rfl
def fo_joined  (x : Int32) (y : Int32) : Int32 :=
  (fo_half (fo_emittedIn (x ||| y)) (fc_greaterOfPairs (fo_codesIn x) (fo_codesIn y)))
set_option maxRecDepth 100000 in
set_option maxHeartbeats 4000000 in
theorem tO_joined {l : Launch} {D : va_G} {A : Nat → Prop} {ad : Nat → Nat} {tP : Nat} {cI : ClassId} {tl : List va_E} {tyr : List (ClassId × FieldType)} (S : kT) (P : pT) (X : xT) (x : Int32) (y : Int32)  : aw_M l yO_joined (Cond.code yO_joined cO_joined 2 (some .int) :: aw_big) 2 D vwCl ((cI, .int) :: tyr) A ad (zC A tP) [.int x, .int y] (hC ad cI S P X ++ tl) (some (.int (fo_joined x y))) (hC ad cI S P X ++ tl) := by
  refine aw_met cO_joined 2 (some .int) [some (.int x), some (.int y)] (by decide) rfl (Nat.le_of_ble_eq_true rfl) rfl ?_
  intro p e s m args below meth c F Zs hr hlk
  refine aw_iload_n (pc := 0) (i := 0) (x := x) F dO_joined_0 rfl rfl ?_
  refine aw_iload_n (pc := 1) (i := 1) (x := y) F dO_joined_1 rfl rfl ?_
  refine aw_ior (pc := 2) F dO_joined_2 ?_
  refine aw_goS (pc := 3) (As := [.int (x ||| y)]) (rest := []) F zC_ok Zs (tO_emittedIn  S P X (x ||| y)) (va_cwS 1 F.1.2.2.2.2 (gi_S wd_469 wd_470 wd_75 wd_471) rfl rfl rfl (by decide +kernel) ⟨Nat.le_of_ble_eq_true rfl, Nat.le_of_ble_eq_true rfl⟩) rfl (Nat.le_of_ble_eq_true rfl) ⟨Nat.zero_le _, Nat.zero_le _⟩ rfl dO_joined_3 ?_
  show aW _ _ _ _ _ _ _ _ _ _ _ _ _ _ _ _ _ _ _ _ _ [.int (fo_emittedIn (x ||| y))]
  refine aw_iload_n (pc := 6) (i := 0) (x := x) F dO_joined_6 rfl rfl ?_
  refine aw_goS (pc := 7) (As := [.int x]) (rest := [.int (fo_emittedIn (x ||| y))]) F zC_ok Zs (tO_codesIn  S P X x) (va_cwS 1 F.1.2.2.2.2 (gi_S wd_473 wd_456 wd_75 wd_457) rfl rfl rfl (by decide +kernel) ⟨Nat.le_of_ble_eq_true rfl, Nat.le_of_ble_eq_true rfl⟩) rfl (Nat.le_of_ble_eq_true rfl) ⟨Nat.zero_le _, Nat.zero_le _⟩ rfl dO_joined_7 ?_
  show aW _ _ _ _ _ _ _ _ _ _ _ _ _ _ _ _ _ _ _ _ _ [.int (fo_codesIn x), .int (fo_emittedIn (x ||| y))]
  refine aw_iload_n (pc := 10) (i := 1) (x := y) F dO_joined_10 rfl rfl ?_
  refine aw_goS (pc := 11) (As := [.int y]) (rest := [.int (fo_codesIn x), .int (fo_emittedIn (x ||| y))]) F zC_ok Zs (tO_codesIn  S P X y) (va_cwS 1 F.1.2.2.2.2 (gi_S wd_473 wd_456 wd_75 wd_457) rfl rfl rfl (by decide +kernel) ⟨Nat.le_of_ble_eq_true rfl, Nat.le_of_ble_eq_true rfl⟩) rfl (Nat.le_of_ble_eq_true rfl) ⟨Nat.zero_le _, Nat.zero_le _⟩ rfl dO_joined_11 ?_
  show aW _ _ _ _ _ _ _ _ _ _ _ _ _ _ _ _ _ _ _ _ _ [.int (fo_codesIn y), .int (fo_codesIn x), .int (fo_emittedIn (x ||| y))]
  refine aw_goSN (pc := 14) (As := [.int (fo_codesIn x), .int (fo_codesIn y)]) (rest := [.int (fo_emittedIn (x ||| y))]) F zC_ok Zs (tC_greaterOfPairs  S P X (fo_codesIn x) (fo_codesIn y)) ⟨va_cnB 2 F.1.2.2.2.2 (gi_0 wd_418) rfl rfl rfl (nw_m Zs nl_568) (F.1.2.2.2.2 _ (mw wd_73)) (by decide +kernel) ⟨Nat.le_of_ble_eq_true rfl, Nat.le_of_ble_eq_true rfl⟩, F.1.2.2.2.2 _ (mw wd_417), trivial⟩ rfl (Nat.le_of_ble_eq_true rfl) ⟨Nat.zero_le _, Nat.zero_le _⟩ rfl dO_joined_14 ?_
  show aW _ _ _ _ _ _ _ _ _ _ _ _ _ _ _ _ _ _ _ _ _ [.int (fc_greaterOfPairs (fo_codesIn x) (fo_codesIn y)), .int (fo_emittedIn (x ||| y))]
  refine aw_goS (pc := 17) (As := [.int (fo_emittedIn (x ||| y)), .int (fc_greaterOfPairs (fo_codesIn x) (fo_codesIn y))]) (rest := []) F zC_ok Zs (tO_half  S P X (fo_emittedIn (x ||| y)) (fc_greaterOfPairs (fo_codesIn x) (fo_codesIn y))) (va_cwS 2 F.1.2.2.2.2 (gi_S wd_475 wd_476 wd_75 wd_477) rfl rfl rfl (by decide +kernel) ⟨Nat.le_of_ble_eq_true rfl, Nat.le_of_ble_eq_true rfl⟩) rfl (Nat.le_of_ble_eq_true rfl) ⟨Nat.zero_le _, Nat.zero_le _⟩ rfl dO_joined_17 ?_
  show aW _ _ _ _ _ _ _ _ _ _ _ _ _ _ _ _ _ _ _ _ _ [.int (fo_half (fo_emittedIn (x ||| y)) (fc_greaterOfPairs (fo_codesIn x) (fo_codesIn y)))]
  exact aw_iret (pc := 20) F hr hlk dO_joined_20 (by first | rfl | (unfold fo_joined; rfl)) rfl
def fo_outsideTrapHalf  (x : Int32) : Int32 :=
  (fo_half (fo_emittedIn x) (fc_outsideTrap (fo_codesIn x)))
set_option maxRecDepth 100000 in
set_option maxHeartbeats 4000000 in
theorem tO_outsideTrapHalf {l : Launch} {D : va_G} {A : Nat → Prop} {ad : Nat → Nat} {tP : Nat} {cI : ClassId} {tl : List va_E} {tyr : List (ClassId × FieldType)} (S : kT) (P : pT) (X : xT) (x : Int32)  : aw_M l yO_outsideTrapHalf (Cond.code yO_outsideTrapHalf cO_outsideTrapHalf 1 (some .int) :: aw_big) 1 D vwCl ((cI, .int) :: tyr) A ad (zC A tP) [.int x] (hC ad cI S P X ++ tl) (some (.int (fo_outsideTrapHalf x))) (hC ad cI S P X ++ tl) := by
  refine aw_met cO_outsideTrapHalf 1 (some .int) [some (.int x)] (by decide) rfl (Nat.le_of_ble_eq_true rfl) rfl ?_
  intro p e s m args below meth c F Zs hr hlk
  refine aw_iload_n (pc := 0) (i := 0) (x := x) F dO_outsideTrapHalf_0 rfl rfl ?_
  refine aw_goS (pc := 1) (As := [.int x]) (rest := []) F zC_ok Zs (tO_emittedIn  S P X x) (va_cwS 1 F.1.2.2.2.2 (gi_S wd_469 wd_470 wd_75 wd_471) rfl rfl rfl (by decide +kernel) ⟨Nat.le_of_ble_eq_true rfl, Nat.le_of_ble_eq_true rfl⟩) rfl (Nat.le_of_ble_eq_true rfl) ⟨Nat.zero_le _, Nat.zero_le _⟩ rfl dO_outsideTrapHalf_1 ?_
  show aW _ _ _ _ _ _ _ _ _ _ _ _ _ _ _ _ _ _ _ _ _ [.int (fo_emittedIn x)]
  refine aw_iload_n (pc := 4) (i := 0) (x := x) F dO_outsideTrapHalf_4 rfl rfl ?_
  refine aw_goS (pc := 5) (As := [.int x]) (rest := [.int (fo_emittedIn x)]) F zC_ok Zs (tO_codesIn  S P X x) (va_cwS 1 F.1.2.2.2.2 (gi_S wd_473 wd_456 wd_75 wd_457) rfl rfl rfl (by decide +kernel) ⟨Nat.le_of_ble_eq_true rfl, Nat.le_of_ble_eq_true rfl⟩) rfl (Nat.le_of_ble_eq_true rfl) ⟨Nat.zero_le _, Nat.zero_le _⟩ rfl dO_outsideTrapHalf_5 ?_
  show aW _ _ _ _ _ _ _ _ _ _ _ _ _ _ _ _ _ _ _ _ _ [.int (fo_codesIn x), .int (fo_emittedIn x)]
  refine aw_goSN (pc := 8) (As := [.int (fo_codesIn x)]) (rest := [.int (fo_emittedIn x)]) F zC_ok Zs (tC_outsideTrap  S P X (fo_codesIn x)) ⟨va_cnB 1 F.1.2.2.2.2 (gi_0 wd_424) rfl rfl rfl (nw_m Zs nl_474) (F.1.2.2.2.2 _ (mw wd_73)) (by decide +kernel) ⟨Nat.le_of_ble_eq_true rfl, Nat.le_of_ble_eq_true rfl⟩, F.1.2.2.2.2 _ (mw wd_423), trivial⟩ rfl (Nat.le_of_ble_eq_true rfl) ⟨Nat.zero_le _, Nat.zero_le _⟩ rfl dO_outsideTrapHalf_8 ?_
  show aW _ _ _ _ _ _ _ _ _ _ _ _ _ _ _ _ _ _ _ _ _ [.int (fc_outsideTrap (fo_codesIn x)), .int (fo_emittedIn x)]
  refine aw_goS (pc := 11) (As := [.int (fo_emittedIn x), .int (fc_outsideTrap (fo_codesIn x))]) (rest := []) F zC_ok Zs (tO_half  S P X (fo_emittedIn x) (fc_outsideTrap (fo_codesIn x))) (va_cwS 2 F.1.2.2.2.2 (gi_S wd_475 wd_476 wd_75 wd_477) rfl rfl rfl (by decide +kernel) ⟨Nat.le_of_ble_eq_true rfl, Nat.le_of_ble_eq_true rfl⟩) rfl (Nat.le_of_ble_eq_true rfl) ⟨Nat.zero_le _, Nat.zero_le _⟩ rfl dO_outsideTrapHalf_11 ?_
  show aW _ _ _ _ _ _ _ _ _ _ _ _ _ _ _ _ _ _ _ _ _ [.int (fo_half (fo_emittedIn x) (fc_outsideTrap (fo_codesIn x)))]
  exact aw_iret (pc := 14) F hr hlk dO_outsideTrapHalf_14 (by first | rfl | (unfold fo_outsideTrapHalf; rfl)) rfl
def fo_inParallel  (w : Int64) (v : Int64) : Int64 :=
  (fo_whole (fo_joined (fo_must w) (fo_must v)) (fo_joined (fo_can w) (fo_can v)))
set_option maxRecDepth 100000 in
set_option maxHeartbeats 4000000 in
theorem tO_inParallel {l : Launch} {D : va_G} {A : Nat → Prop} {ad : Nat → Nat} {tP : Nat} {cI : ClassId} {tl : List va_E} {tyr : List (ClassId × FieldType)} (S : kT) (P : pT) (X : xT) (w : Int64) (v : Int64)  : aw_M l yO_inParallel (Cond.code yO_inParallel cO_inParallel 4 (some .long) :: aw_big) 3 D vwCl ((cI, .int) :: tyr) A ad (zC A tP) [.long w, .long v] (hC ad cI S P X ++ tl) (some (.long (fo_inParallel w v))) (hC ad cI S P X ++ tl) := by
  refine aw_met cO_inParallel 4 (some .long) [some (.long w), none, some (.long v), none] (by decide) rfl (Nat.le_of_ble_eq_true rfl) rfl ?_
  intro p e s m args below meth c F Zs hr hlk
  refine aw_lload_n (pc := 0) (i := 0) (x := w) F dO_inParallel_0 rfl rfl ?_
  refine aw_goS (pc := 1) (As := [.long w]) (rest := []) F zC_ok Zs (tO_must  S P X w) (va_cwS 1 F.1.2.2.2.2 (gi_S wd_465 wd_453 wd_75 wd_454) rfl rfl rfl (by decide +kernel) ⟨Nat.le_of_ble_eq_true rfl, Nat.le_of_ble_eq_true rfl⟩) rfl (Nat.le_of_ble_eq_true rfl) ⟨Nat.zero_le _, Nat.zero_le _⟩ rfl dO_inParallel_1 ?_
  show aW _ _ _ _ _ _ _ _ _ _ _ _ _ _ _ _ _ _ _ _ _ [.int (fo_must w)]
  refine aw_lload_n (pc := 4) (i := 2) (x := v) F dO_inParallel_4 rfl rfl ?_
  refine aw_goS (pc := 5) (As := [.long v]) (rest := [.int (fo_must w)]) F zC_ok Zs (tO_must  S P X v) (va_cwS 1 F.1.2.2.2.2 (gi_S wd_465 wd_453 wd_75 wd_454) rfl rfl rfl (by decide +kernel) ⟨Nat.le_of_ble_eq_true rfl, Nat.le_of_ble_eq_true rfl⟩) rfl (Nat.le_of_ble_eq_true rfl) ⟨Nat.zero_le _, Nat.zero_le _⟩ rfl dO_inParallel_5 ?_
  show aW _ _ _ _ _ _ _ _ _ _ _ _ _ _ _ _ _ _ _ _ _ [.int (fo_must v), .int (fo_must w)]
  refine aw_goS (pc := 8) (As := [.int (fo_must w), .int (fo_must v)]) (rest := []) F zC_ok Zs (tO_joined  S P X (fo_must w) (fo_must v)) (va_cwS 2 F.1.2.2.2.2 (gi_S wd_565 wd_566 wd_75 wd_567) rfl rfl rfl (by decide +kernel) ⟨Nat.le_of_ble_eq_true rfl, Nat.le_of_ble_eq_true rfl⟩) rfl (Nat.le_of_ble_eq_true rfl) ⟨Nat.zero_le _, Nat.zero_le _⟩ rfl dO_inParallel_8 ?_
  show aW _ _ _ _ _ _ _ _ _ _ _ _ _ _ _ _ _ _ _ _ _ [.int (fo_joined (fo_must w) (fo_must v))]
  refine aw_lload_n (pc := 11) (i := 0) (x := w) F dO_inParallel_11 rfl rfl ?_
  refine aw_goS (pc := 12) (As := [.long w]) (rest := [.int (fo_joined (fo_must w) (fo_must v))]) F zC_ok Zs (tO_can  S P X w) (va_cwS 1 F.1.2.2.2.2 (gi_S wd_478 wd_479 wd_75 wd_480) rfl rfl rfl (by decide +kernel) ⟨Nat.le_of_ble_eq_true rfl, Nat.le_of_ble_eq_true rfl⟩) rfl (Nat.le_of_ble_eq_true rfl) ⟨Nat.zero_le _, Nat.zero_le _⟩ rfl dO_inParallel_12 ?_
  show aW _ _ _ _ _ _ _ _ _ _ _ _ _ _ _ _ _ _ _ _ _ [.int (fo_can w), .int (fo_joined (fo_must w) (fo_must v))]
  refine aw_lload_n (pc := 15) (i := 2) (x := v) F dO_inParallel_15 rfl rfl ?_
  refine aw_goS (pc := 16) (As := [.long v]) (rest := [.int (fo_can w), .int (fo_joined (fo_must w) (fo_must v))]) F zC_ok Zs (tO_can  S P X v) (va_cwS 1 F.1.2.2.2.2 (gi_S wd_478 wd_479 wd_75 wd_480) rfl rfl rfl (by decide +kernel) ⟨Nat.le_of_ble_eq_true rfl, Nat.le_of_ble_eq_true rfl⟩) rfl (Nat.le_of_ble_eq_true rfl) ⟨Nat.zero_le _, Nat.zero_le _⟩ rfl dO_inParallel_16 ?_
  show aW _ _ _ _ _ _ _ _ _ _ _ _ _ _ _ _ _ _ _ _ _ [.int (fo_can v), .int (fo_can w), .int (fo_joined (fo_must w) (fo_must v))]
  refine aw_goS (pc := 19) (As := [.int (fo_can w), .int (fo_can v)]) (rest := [.int (fo_joined (fo_must w) (fo_must v))]) F zC_ok Zs (tO_joined  S P X (fo_can w) (fo_can v)) (va_cwS 2 F.1.2.2.2.2 (gi_S wd_565 wd_566 wd_75 wd_567) rfl rfl rfl (by decide +kernel) ⟨Nat.le_of_ble_eq_true rfl, Nat.le_of_ble_eq_true rfl⟩) rfl (Nat.le_of_ble_eq_true rfl) ⟨Nat.zero_le _, Nat.zero_le _⟩ rfl dO_inParallel_19 ?_
  show aW _ _ _ _ _ _ _ _ _ _ _ _ _ _ _ _ _ _ _ _ _ [.int (fo_joined (fo_can w) (fo_can v)), .int (fo_joined (fo_must w) (fo_must v))]
  refine aw_goS (pc := 22) (As := [.int (fo_joined (fo_must w) (fo_must v)), .int (fo_joined (fo_can w) (fo_can v))]) (rest := []) F zC_ok Zs (tO_whole  S P X (fo_joined (fo_must w) (fo_must v)) (fo_joined (fo_can w) (fo_can v))) (va_cwS 2 F.1.2.2.2.2 (gi_S wd_481 wd_482 wd_75 wd_483) rfl rfl rfl (by decide +kernel) ⟨Nat.le_of_ble_eq_true rfl, Nat.le_of_ble_eq_true rfl⟩) rfl (Nat.le_of_ble_eq_true rfl) ⟨Nat.zero_le _, Nat.zero_le _⟩ rfl dO_inParallel_22 ?_
  show aW _ _ _ _ _ _ _ _ _ _ _ _ _ _ _ _ _ _ _ _ _ [.long (fo_whole (fo_joined (fo_must w) (fo_must v)) (fo_joined (fo_can w) (fo_can v)))]
  exact aw_lret (pc := 25) F hr hlk dO_inParallel_25 (by first | rfl | (unfold fo_inParallel; rfl)) rfl
def fo_outsideTrap  (w : Int64) : Int64 :=
  (fo_whole (fo_outsideTrapHalf (fo_must w)) (fo_outsideTrapHalf (fo_can w)))
set_option maxRecDepth 100000 in
set_option maxHeartbeats 4000000 in
theorem tO_outsideTrap {l : Launch} {D : va_G} {A : Nat → Prop} {ad : Nat → Nat} {tP : Nat} {cI : ClassId} {tl : List va_E} {tyr : List (ClassId × FieldType)} (S : kT) (P : pT) (X : xT) (w : Int64)  : aw_M l yO_outsideTrap (Cond.code yO_outsideTrap cO_outsideTrap 2 (some .long) :: aw_big) 2 D vwCl ((cI, .int) :: tyr) A ad (zC A tP) [.long w] (hC ad cI S P X ++ tl) (some (.long (fo_outsideTrap w))) (hC ad cI S P X ++ tl) := by
  refine aw_met cO_outsideTrap 2 (some .long) [some (.long w), none] (by decide) rfl (Nat.le_of_ble_eq_true rfl) rfl ?_
  intro p e s m args below meth c F Zs hr hlk
  refine aw_lload_n (pc := 0) (i := 0) (x := w) F dO_outsideTrap_0 rfl rfl ?_
  refine aw_goS (pc := 1) (As := [.long w]) (rest := []) F zC_ok Zs (tO_must  S P X w) (va_cwS 1 F.1.2.2.2.2 (gi_S wd_465 wd_453 wd_75 wd_454) rfl rfl rfl (by decide +kernel) ⟨Nat.le_of_ble_eq_true rfl, Nat.le_of_ble_eq_true rfl⟩) rfl (Nat.le_of_ble_eq_true rfl) ⟨Nat.zero_le _, Nat.zero_le _⟩ rfl dO_outsideTrap_1 ?_
  show aW _ _ _ _ _ _ _ _ _ _ _ _ _ _ _ _ _ _ _ _ _ [.int (fo_must w)]
  refine aw_goS (pc := 4) (As := [.int (fo_must w)]) (rest := []) F zC_ok Zs (tO_outsideTrapHalf  S P X (fo_must w)) (va_cwS 1 F.1.2.2.2.2 (gi_S wd_466 wd_467 wd_75 wd_468) rfl rfl rfl (by decide +kernel) ⟨Nat.le_of_ble_eq_true rfl, Nat.le_of_ble_eq_true rfl⟩) rfl (Nat.le_of_ble_eq_true rfl) ⟨Nat.zero_le _, Nat.zero_le _⟩ rfl dO_outsideTrap_4 ?_
  show aW _ _ _ _ _ _ _ _ _ _ _ _ _ _ _ _ _ _ _ _ _ [.int (fo_outsideTrapHalf (fo_must w))]
  refine aw_lload_n (pc := 7) (i := 0) (x := w) F dO_outsideTrap_7 rfl rfl ?_
  refine aw_goS (pc := 8) (As := [.long w]) (rest := [.int (fo_outsideTrapHalf (fo_must w))]) F zC_ok Zs (tO_can  S P X w) (va_cwS 1 F.1.2.2.2.2 (gi_S wd_478 wd_479 wd_75 wd_480) rfl rfl rfl (by decide +kernel) ⟨Nat.le_of_ble_eq_true rfl, Nat.le_of_ble_eq_true rfl⟩) rfl (Nat.le_of_ble_eq_true rfl) ⟨Nat.zero_le _, Nat.zero_le _⟩ rfl dO_outsideTrap_8 ?_
  show aW _ _ _ _ _ _ _ _ _ _ _ _ _ _ _ _ _ _ _ _ _ [.int (fo_can w), .int (fo_outsideTrapHalf (fo_must w))]
  refine aw_goS (pc := 11) (As := [.int (fo_can w)]) (rest := [.int (fo_outsideTrapHalf (fo_must w))]) F zC_ok Zs (tO_outsideTrapHalf  S P X (fo_can w)) (va_cwS 1 F.1.2.2.2.2 (gi_S wd_466 wd_467 wd_75 wd_468) rfl rfl rfl (by decide +kernel) ⟨Nat.le_of_ble_eq_true rfl, Nat.le_of_ble_eq_true rfl⟩) rfl (Nat.le_of_ble_eq_true rfl) ⟨Nat.zero_le _, Nat.zero_le _⟩ rfl dO_outsideTrap_11 ?_
  show aW _ _ _ _ _ _ _ _ _ _ _ _ _ _ _ _ _ _ _ _ _ [.int (fo_outsideTrapHalf (fo_can w)), .int (fo_outsideTrapHalf (fo_must w))]
  refine aw_goS (pc := 14) (As := [.int (fo_outsideTrapHalf (fo_must w)), .int (fo_outsideTrapHalf (fo_can w))]) (rest := []) F zC_ok Zs (tO_whole  S P X (fo_outsideTrapHalf (fo_must w)) (fo_outsideTrapHalf (fo_can w))) (va_cwS 2 F.1.2.2.2.2 (gi_S wd_481 wd_482 wd_75 wd_483) rfl rfl rfl (by decide +kernel) ⟨Nat.le_of_ble_eq_true rfl, Nat.le_of_ble_eq_true rfl⟩) rfl (Nat.le_of_ble_eq_true rfl) ⟨Nat.zero_le _, Nat.zero_le _⟩ rfl dO_outsideTrap_14 ?_
  show aW _ _ _ _ _ _ _ _ _ _ _ _ _ _ _ _ _ _ _ _ _ [.long (fo_whole (fo_outsideTrapHalf (fo_must w)) (fo_outsideTrapHalf (fo_can w)))]
  exact aw_lret (pc := 17) F hr hlk dO_outsideTrap_17 (by first | rfl | (unfold fo_outsideTrap; rfl)) rfl
def fo_of  (x : Int32) (y : Int32) (b : Int32) : Int64 :=
  if b = 0 then (fo_whole (0 : Int32) (fo_half x y)) else (fo_whole (fo_half x y) (fo_half x y))
set_option maxRecDepth 100000 in
set_option maxHeartbeats 4000000 in
theorem tO_of {l : Launch} {D : va_G} {A : Nat → Prop} {ad : Nat → Nat} {tP : Nat} {cI : ClassId} {tl : List va_E} {tyr : List (ClassId × FieldType)} (S : kT) (P : pT) (X : xT) (x : Int32) (y : Int32) (b : Int32)  : aw_M l yO_of (Cond.code yO_of cO_of 4 (some .long) :: aw_big) 1 D vwCl ((cI, .int) :: tyr) A ad (zC A tP) [.int x, .int y, .int b] (hC ad cI S P X ++ tl) (some (.long (fo_of x y b))) (hC ad cI S P X ++ tl) := by
  refine aw_met cO_of 4 (some .long) [some (.int x), some (.int y), some (.int b), none] (by decide) rfl (Nat.le_of_ble_eq_true rfl) rfl ?_
  intro p e s m args below meth c F Zs hr hlk
  refine aw_iload_n (pc := 0) (i := 0) (x := x) F dO_of_0 rfl rfl ?_
  refine aw_iload_n (pc := 1) (i := 1) (x := y) F dO_of_1 rfl rfl ?_
  refine aw_goS (pc := 2) (As := [.int x, .int y]) (rest := []) F zC_ok Zs (tO_half  S P X x y) (va_cwS 2 F.1.2.2.2.2 (gi_S wd_475 wd_476 wd_75 wd_477) rfl rfl rfl (by decide +kernel) ⟨Nat.le_of_ble_eq_true rfl, Nat.le_of_ble_eq_true rfl⟩) rfl (Nat.le_of_ble_eq_true rfl) ⟨Nat.zero_le _, Nat.zero_le _⟩ rfl dO_of_2 ?_
  show aW _ _ _ _ _ _ _ _ _ _ _ _ _ _ _ _ _ _ _ _ _ [.int (fo_half x y)]
  refine aw_istore_n (pc := 5) (i := 3) (L' := [some (.int x), some (.int y), some (.int b), some (.int (fo_half x y))]) F dO_of_5 rfl (by decide) rfl ?_
  refine aw_iload_n (pc := 6) (i := 2) (x := b) F dO_of_6 rfl rfl ?_
  refine aw_if_eq (pc := 7) F 14 dO_of_7 (by decide) (fun c_7 => ?_) (fun c_7 => ?_)
  · skip
    refine aw_iconst (pc := 14) (v := 0) F dO_of_14 (by decide) ?_
    refine aw_iload_n (pc := 15) (i := 3) (x := (fo_half x y)) F dO_of_15 rfl rfl ?_
    refine aw_goS (pc := 16) (As := [.int (0 : Int32), .int (fo_half x y)]) (rest := []) F zC_ok Zs (tO_whole  S P X (0 : Int32) (fo_half x y)) (va_cwS 2 F.1.2.2.2.2 (gi_S wd_481 wd_482 wd_75 wd_483) rfl rfl rfl (by decide +kernel) ⟨Nat.le_of_ble_eq_true rfl, Nat.le_of_ble_eq_true rfl⟩) rfl (Nat.le_of_ble_eq_true rfl) ⟨Nat.zero_le _, Nat.zero_le _⟩ rfl dO_of_16 ?_
    show aW _ _ _ _ _ _ _ _ _ _ _ _ _ _ _ _ _ _ _ _ _ [.long (fo_whole (0 : Int32) (fo_half x y))]
    exact aw_lret (pc := 19) F hr hlk dO_of_19 (by rw [fo_of, if_pos c_7]) rfl
  · skip
    refine aw_iload_n (pc := 10) (i := 3) (x := (fo_half x y)) F dO_of_10 rfl rfl ?_
    refine aw_goto (pc := 11) F 15 dO_of_11 (by decide) ?_
    refine aw_iload_n (pc := 15) (i := 3) (x := (fo_half x y)) F dO_of_15 rfl rfl ?_
    refine aw_goS (pc := 16) (As := [.int (fo_half x y), .int (fo_half x y)]) (rest := []) F zC_ok Zs (tO_whole  S P X (fo_half x y) (fo_half x y)) (va_cwS 2 F.1.2.2.2.2 (gi_S wd_481 wd_482 wd_75 wd_483) rfl rfl rfl (by decide +kernel) ⟨Nat.le_of_ble_eq_true rfl, Nat.le_of_ble_eq_true rfl⟩) rfl (Nat.le_of_ble_eq_true rfl) ⟨Nat.zero_le _, Nat.zero_le _⟩ rfl dO_of_16 ?_
    show aW _ _ _ _ _ _ _ _ _ _ _ _ _ _ _ _ _ _ _ _ _ [.long (fo_whole (fo_half x y) (fo_half x y))]
    exact aw_lret (pc := 19) F hr hlk dO_of_19 (by rw [fo_of, if_neg c_7]) rfl
def fk_hasBit  (x : Int32) (y : Int32) : Int32 :=
  if ((x >>> (y &&& 31)) &&& (1 : Int32)) = 0 then (0 : Int32) else (1 : Int32)
set_option maxRecDepth 100000 in
set_option maxHeartbeats 4000000 in
theorem tK_hasBit {l : Launch} {D : va_G} {A : Nat → Prop} {ad : Nat → Nat} {tP : Nat} {cI : ClassId} {tl : List va_E} {tyr : List (ClassId × FieldType)} (S : kT) (P : pT) (X : xT) (x : Int32) (y : Int32)  : aw_M l yK_hasBit (Cond.code yK_hasBit cK_hasBit 2 (some .boolean) :: aw_big) 0 D vwCl ((cI, .int) :: tyr) A ad (zC A tP) [.int x, .int y] (hC ad cI S P X ++ tl) (some (.int (fk_hasBit x y))) (hC ad cI S P X ++ tl) := by
  refine aw_met cK_hasBit 2 (some .boolean) [some (.int x), some (.int y)] (by decide) rfl (Nat.le_of_ble_eq_true rfl) rfl ?_
  intro p e s m args below meth c F Zs hr hlk
  refine aw_iload_n (pc := 0) (i := 0) (x := x) F dK_hasBit_0 rfl rfl ?_
  refine aw_iload_n (pc := 1) (i := 1) (x := y) F dK_hasBit_1 rfl rfl ?_
  refine aw_ishr (pc := 2) F dK_hasBit_2 ?_
  refine aw_iconst (pc := 3) (v := 1) F dK_hasBit_3 (by decide) ?_
  refine aw_iand (pc := 4) F dK_hasBit_4 ?_
  refine aw_if_eq (pc := 5) F 12 dK_hasBit_5 (by decide) (fun c_5 => ?_) (fun c_5 => ?_)
  · skip
    refine aw_iconst (pc := 12) (v := 0) F dK_hasBit_12 (by decide) ?_
    exact aw_zret (pc := 13) F hr hlk dK_hasBit_13 rfl (by rw [fk_hasBit, if_pos c_5]) rfl
  · skip
    refine aw_iconst (pc := 8) (v := 1) F dK_hasBit_8 (by decide) ?_
    refine aw_goto (pc := 9) F 13 dK_hasBit_9 (by decide) ?_
    exact aw_zret (pc := 13) F hr hlk dK_hasBit_13 rfl (by rw [fk_hasBit, if_neg c_5]) rfl
def fk_statusIn  (x : Int32) (y : Int32) (z : Int32) : Int32 :=
  if (fk_hasBit x z) = 0 then (2 : Int32) else if (fk_hasBit y z) = 0 then (0 : Int32) else (1 : Int32)
set_option maxRecDepth 100000 in
set_option maxHeartbeats 4000000 in
theorem tK_statusIn {l : Launch} {D : va_G} {A : Nat → Prop} {ad : Nat → Nat} {tP : Nat} {cI : ClassId} {tl : List va_E} {tyr : List (ClassId × FieldType)} (S : kT) (P : pT) (X : xT) (x : Int32) (y : Int32) (z : Int32)  : aw_M l yK_statusIn (Cond.code yK_statusIn cK_statusIn 3 (some .int) :: aw_big) 1 D vwCl ((cI, .int) :: tyr) A ad (zC A tP) [.int x, .int y, .int z] (hC ad cI S P X ++ tl) (some (.int (fk_statusIn x y z))) (hC ad cI S P X ++ tl) := by
  refine aw_met cK_statusIn 3 (some .int) [some (.int x), some (.int y), some (.int z)] (by decide) rfl (Nat.le_of_ble_eq_true rfl) rfl ?_
  intro p e s m args below meth c F Zs hr hlk
  refine aw_iload_n (pc := 0) (i := 0) (x := x) F dK_statusIn_0 rfl rfl ?_
  refine aw_iload_n (pc := 1) (i := 2) (x := z) F dK_statusIn_1 rfl rfl ?_
  refine aw_goS (pc := 2) (As := [.int x, .int z]) (rest := []) F zC_ok Zs (tK_hasBit  S P X x z) (va_cwS 2 F.1.2.2.2.2 (gi_S wd_537 wd_506 wd_64 wd_507) rfl rfl rfl (by decide +kernel) ⟨Nat.le_of_ble_eq_true rfl, Nat.le_of_ble_eq_true rfl⟩) rfl (Nat.le_of_ble_eq_true rfl) ⟨Nat.zero_le _, Nat.zero_le _⟩ rfl dK_statusIn_2 ?_
  show aW _ _ _ _ _ _ _ _ _ _ _ _ _ _ _ _ _ _ _ _ _ [.int (fk_hasBit x z)]
  refine aw_if_ne (pc := 5) F 10 dK_statusIn_5 (by decide) (fun c_5 => ?_) (fun c_5 => ?_)
  · skip
    refine aw_iload_n (pc := 10) (i := 1) (x := y) F dK_statusIn_10 rfl rfl ?_
    refine aw_iload_n (pc := 11) (i := 2) (x := z) F dK_statusIn_11 rfl rfl ?_
    refine aw_goS (pc := 12) (As := [.int y, .int z]) (rest := []) F zC_ok Zs (tK_hasBit  S P X y z) (va_cwS 2 F.1.2.2.2.2 (gi_S wd_537 wd_506 wd_64 wd_507) rfl rfl rfl (by decide +kernel) ⟨Nat.le_of_ble_eq_true rfl, Nat.le_of_ble_eq_true rfl⟩) rfl (Nat.le_of_ble_eq_true rfl) ⟨Nat.zero_le _, Nat.zero_le _⟩ rfl dK_statusIn_12 ?_
    show aW _ _ _ _ _ _ _ _ _ _ _ _ _ _ _ _ _ _ _ _ _ [.int (fk_hasBit y z)]
    refine aw_if_eq (pc := 15) F 22 dK_statusIn_15 (by decide) (fun c_15 => ?_) (fun c_15 => ?_)
    · skip
      refine aw_iconst (pc := 22) (v := 0) F dK_statusIn_22 (by decide) ?_
      exact aw_iret (pc := 23) F hr hlk dK_statusIn_23 (by rw [fk_statusIn, if_neg c_5, if_pos c_15]) rfl
    · skip
      refine aw_iconst (pc := 18) (v := 1) F dK_statusIn_18 (by decide) ?_
      refine aw_goto (pc := 19) F 23 dK_statusIn_19 (by decide) ?_
      exact aw_iret (pc := 23) F hr hlk dK_statusIn_23 (by rw [fk_statusIn, if_neg c_5, if_neg c_15]) rfl
  · skip
    refine aw_iconst (pc := 8) (v := 2) F dK_statusIn_8 (by decide) ?_
    exact aw_iret (pc := 9) F hr hlk dK_statusIn_9 (by rw [fk_statusIn, if_pos c_5]) rfl
def fp_isWhole (P : pT)  : Int32 :=
  if (P.1 2) = 0 then (1 : Int32) else (0 : Int32)
set_option maxRecDepth 100000 in
set_option maxHeartbeats 4000000 in
theorem tG_isWhole {l : Launch} {D : va_G} {A : Nat → Prop} {ad : Nat → Nat} {tP : Nat} {cI : ClassId} {tl : List va_E} {tyr : List (ClassId × FieldType)} (S : kT) (P : pT) (X : xT)   : aw_M l yG_isWhole (Cond.code yG_isWhole cG_isWhole 1 (some .boolean) :: aw_big) 0 D vwCl ((cI, .int) :: tyr) A ad (zC A tP) [.ref (ad 1)] (hC ad cI S P X ++ tl) (some (.int (fp_isWhole P))) (hC ad cI S P X ++ tl) := by
  refine aw_met cG_isWhole 1 (some .boolean) [some (.ref (ad 1))] (by decide) rfl (Nat.le_of_ble_eq_true rfl) rfl ?_
  intro p e s m args below meth c F Zs hr hlk
  refine aw_aload_n (pc := 0) (i := 0) (x := ad 1) F dG_isWhole_0 rfl rfl ?_
  refine aw_get (pc := 1) (v := .int (P.1 2)) F 1 rfl rfl 11 (by decide) (fun w h => mw (iw_G w h)) (mw wd_104) rfl dG_isWhole_1 ?_
  refine aw_if_ne (pc := 4) F 11 dG_isWhole_4 (by decide) (fun c_4 => ?_) (fun c_4 => ?_)
  · skip
    refine aw_iconst (pc := 11) (v := 0) F dG_isWhole_11 (by decide) ?_
    exact aw_zret (pc := 12) F hr hlk dG_isWhole_12 rfl (by rw [fp_isWhole, if_neg c_4]) rfl
  · skip
    refine aw_iconst (pc := 7) (v := 1) F dG_isWhole_7 (by decide) ?_
    refine aw_goto (pc := 8) F 12 dG_isWhole_8 (by decide) ?_
    exact aw_zret (pc := 12) F hr hlk dG_isWhole_12 rfl (by rw [fp_isWhole, if_pos c_4]) rfl
def fp_has (P : pT) (at_ : Int32) : Int32 :=
  if at_ < 0 then (0 : Int32) else if (P.1 1) ≤ at_ then (0 : Int32) else (1 : Int32)
set_option maxRecDepth 100000 in
set_option maxHeartbeats 4000000 in
theorem tG_has {l : Launch} {D : va_G} {A : Nat → Prop} {ad : Nat → Nat} {tP : Nat} {cI : ClassId} {tl : List va_E} {tyr : List (ClassId × FieldType)} (S : kT) (P : pT) (X : xT) (at_ : Int32)  : aw_M l yG_has (Cond.code yG_has cG_has 2 (some .boolean) :: aw_big) 0 D vwCl ((cI, .int) :: tyr) A ad (zC A tP) [.ref (ad 1), .int at_] (hC ad cI S P X ++ tl) (some (.int (fp_has P at_))) (hC ad cI S P X ++ tl) := by
  refine aw_met cG_has 2 (some .boolean) [some (.ref (ad 1)), some (.int at_)] (by decide) rfl (Nat.le_of_ble_eq_true rfl) rfl ?_
  intro p e s m args below meth c F Zs hr hlk
  refine aw_iload_n (pc := 0) (i := 1) (x := at_) F dG_has_0 rfl rfl ?_
  refine aw_if_lt (pc := 1) F 16 dG_has_1 (by decide) (fun c_1 => ?_) (fun c_1 => ?_)
  · skip
    refine aw_iconst (pc := 16) (v := 0) F dG_has_16 (by decide) ?_
    exact aw_zret (pc := 17) F hr hlk dG_has_17 rfl (by rw [fp_has, if_pos c_1]) rfl
  · skip
    refine aw_iload_n (pc := 4) (i := 1) (x := at_) F dG_has_4 rfl rfl ?_
    refine aw_aload_n (pc := 5) (i := 0) (x := ad 1) F dG_has_5 rfl rfl ?_
    refine aw_get (pc := 6) (v := .int (P.1 1)) F 1 rfl rfl 10 (by decide) (fun w h => mw (iw_G w h)) (mw wd_102) rfl dG_has_6 ?_
    refine aw_icmp_ge (pc := 9) F 16 dG_has_9 (by decide) (fun c_9 => ?_) (fun c_9 => ?_)
    · skip
      refine aw_iconst (pc := 16) (v := 0) F dG_has_16 (by decide) ?_
      exact aw_zret (pc := 17) F hr hlk dG_has_17 rfl (by rw [fp_has, if_neg c_1, if_pos c_9]) rfl
    · skip
      refine aw_iconst (pc := 12) (v := 1) F dG_has_12 (by decide) ?_
      refine aw_goto (pc := 13) F 17 dG_has_13 (by decide) ?_
      exact aw_zret (pc := 17) F hr hlk dG_has_17 rfl (by rw [fp_has, if_neg c_1, if_neg c_9]) rfl
end
section
def pS (P : pT) : Prop := 0 ≤ (P.1 1).toInt ∧ (P.1 1).toInt ≤ 120
def pL (P : pT) : Prop := 0 ≤ (P.1 0).toInt ∧ (P.1 0).toInt ≤ 24
def pO (P : pT) : Prop := ∀ j : Nat, (j : Int) < (P.1 0).toInt → vp_in (P.2 7 j) 120
theorem i_lt {x y : Int32} (h : ¬ y ≤ x) : x.toInt < y.toInt := by
  rw [Int32.le_iff_toInt_le] at h
  omega
theorem i_le {x y : Int32} (h : y ≤ x) : y.toInt ≤ x.toInt := Int32.le_iff_toInt_le.mp h
theorem i_nlt {x y : Int32} (h : ¬ x < y) : y.toInt ≤ x.toInt := by
  rw [Int32.lt_iff_toInt_lt] at h
  omega
theorem i_add {x y : Int32} (h1 : -2147483648 ≤ x.toInt + y.toInt) (h2 : x.toInt + y.toInt ≤ 2147483647) : (x + y).toInt = x.toInt + y.toInt := by
  rw [Int32.toInt_add]
  exact Int.bmod_eq_of_le_mul_two (by omega) (by omega)
theorem i_sub {x y : Int32} (h1 : -2147483648 ≤ x.toInt - y.toInt) (h2 : x.toInt - y.toInt ≤ 2147483647) : (x - y).toInt = x.toInt - y.toInt := by
  rw [Int32.toInt_sub]
  exact Int.bmod_eq_of_le_mul_two (by omega) (by omega)
theorem i_bd (x : Int32) : -2147483648 ≤ x.toInt ∧ x.toInt ≤ 2147483647 := ⟨Int32.le_toInt x, by have := Int32.toInt_lt x; omega⟩
theorem i_1 : (1 : Int32).toInt = 1 := rfl
theorem i_0 : (0 : Int32).toInt = 0 := rfl
theorem i_up {x y : Int32} (h : x.toInt < y.toInt) : (x + 1).toInt = x.toInt + 1 := by
  have a := i_bd x
  have b := i_bd y
  rw [i_add] <;> rw [i_1] <;> omega
theorem i_dn {x y : Int32} (h : y.toInt < x.toInt) : (x - 1).toInt = x.toInt - 1 := by
  have a := i_bd x
  have b := i_bd y
  rw [i_sub] <;> rw [i_1] <;> omega
theorem i_nat {x : Int32} (h : 0 ≤ x.toInt) : (x.toNatClampNeg : Int) = x.toInt := by
  show (x.toInt.toNat : Int) = x.toInt
  omega
theorem inr_has {P : pT} {x : Int32} (hP : pS P) (h : ¬ fp_has P x = 0) : vp_in x 120 := by
  rw [vp_in_iff]
  by_cases a : x < 0
  · rw [fp_has, if_pos a] at h
    exact absurd rfl h
  · by_cases b : (P.1 1) ≤ x
    · rw [fp_has, if_neg a, if_pos b] at h
      exact absurd rfl h
    · have c := i_lt b
      have d := i_nlt a
      rw [i_0] at d
      have e := hP.2
      omega
theorem inr_lv {P : pT} {x : Int32} (hL : pL P) (h0 : 0 ≤ x.toInt) (h : x.toInt < (P.1 0).toInt) : vp_in x 24 := by
  rw [vp_in_iff]
  have := hL.2
  omega
theorem inr_o {P : pT} {x : Int32} (hO : pO P) (h0 : 0 ≤ x.toInt) (h : x.toInt < (P.1 0).toInt) : vp_in (P.2 7 x.toNatClampNeg) 120 := hO _ (by rw [i_nat h0]; exact h)
theorem lv_top {P : pT} (hL : pL P) (h : 0 < (P.1 0).toInt) : 0 ≤ ((P.1 0) - 1).toInt ∧ ((P.1 0) - 1).toInt < (P.1 0).toInt := by
  have := i_dn (x := P.1 0) (y := 0) h
  omega
theorem inr_top {P : pT} (hL : pL P) (h : 0 < (P.1 0).toInt) : vp_in ((P.1 0) - 1) 24 := inr_lv hL (lv_top hL h).1 (lv_top hL h).2
theorem inr_otop {P : pT} (hL : pL P) (hO : pO P) (h : 0 < (P.1 0).toInt) : vp_in (P.2 7 ((P.1 0) - 1).toNatClampNeg) 120 := inr_o hO (lv_top hL h).1 (lv_top hL h).2
theorem lv_ne {P : pT} (hL : pL P) (h : ¬ (P.1 0) = 0) : 0 < (P.1 0).toInt := by
  have a := hL.1
  rcases Int.lt_or_eq_of_le a with b | b
  · exact b
  · exact absurd (Int32.toInt_inj.mp (by rw [← b]; rfl)) h
theorem lv_nle {x : Int32} (h : ¬ x ≤ 0) : 0 < x.toInt := i_lt h
theorem inr_ps {P : pT} (hS : pS P) (h : (P.1 1).toInt < 120) : vp_in (P.1 1) 120 := by
  rw [vp_in_iff]
  have := hS.1
  omega
def fp_sortOf (P : pT) (at_ : Int32) : Int32 :=
  if (fp_has P at_) = 0 then (0 : Int32) else ((P.2 0) at_.toNatClampNeg)
set_option maxRecDepth 100000 in
set_option maxHeartbeats 4000000 in
theorem tG_sortOf {l : Launch} {D : va_G} {A : Nat → Prop} {ad : Nat → Nat} {tP : Nat} {cI : ClassId} {tl : List va_E} {tyr : List (ClassId × FieldType)} (S : kT) (P : pT) (X : xT) (at_ : Int32) (hS : pS P) : aw_M l yG_sortOf (Cond.code yG_sortOf cG_sortOf 2 (some .int) :: aw_big) 1 D vwCl ((cI, .int) :: tyr) A ad (zC A tP) [.ref (ad 1), .int at_] (hC ad cI S P X ++ tl) (some (.int (fp_sortOf P at_))) (hC ad cI S P X ++ tl) := by
  refine aw_met cG_sortOf 2 (some .int) [some (.ref (ad 1)), some (.int at_)] (by decide) rfl (Nat.le_of_ble_eq_true rfl) rfl ?_
  intro p e s m args below meth c F Zs hr hlk
  refine aw_aload_n (pc := 0) (i := 0) (x := ad 1) F dG_sortOf_0 rfl rfl ?_
  refine aw_iload_n (pc := 1) (i := 1) (x := at_) F dG_sortOf_1 rfl rfl ?_
  refine aw_goV (pc := 2) (As := [.int at_]) (rest := []) F zC_ok Zs 1 rfl rfl (tG_has  S P X at_) (cwV 1 F.1.2.2.2.2 (gi_V wd_321 wd_323 wd_8 wd_65 wd_324) rfl rfl rfl (by decide +kernel) ⟨Nat.le_of_ble_eq_true rfl, Nat.le_of_ble_eq_true rfl⟩) rfl (Nat.le_of_ble_eq_true rfl) ⟨Nat.zero_le _, Nat.zero_le _⟩ rfl dG_sortOf_2 ?_
  show aW _ _ _ _ _ _ _ _ _ _ _ _ _ _ _ _ _ _ _ _ _ [.int (fp_has P at_)]
  refine aw_if_eq (pc := 5) F 17 dG_sortOf_5 (by decide) (fun c_5 => ?_) (fun c_5 => ?_)
  · skip
    refine aw_iconst (pc := 17) (v := 0) F dG_sortOf_17 (by decide) ?_
    exact aw_iret (pc := 18) F hr hlk dG_sortOf_18 (by rw [fp_sortOf, if_pos c_5]) rfl
  · skip
    refine aw_aload_n (pc := 8) (i := 0) (x := ad 1) F dG_sortOf_8 rfl rfl ?_
    refine aw_get (pc := 9) (v := .ref (ad 2)) F 1 rfl rfl 0 (by decide) (fun w h => mw (iw_G w h)) (mw wd_92) rfl dG_sortOf_9 ?_
    refine aw_iload_n (pc := 12) (i := 1) (x := at_) F dG_sortOf_12 rfl rfl ?_
    refine aw_iald (pc := 13) F 2 0 rfl rfl (inr_has hS c_5) dG_sortOf_13 ?_
    refine aw_goto (pc := 14) F 18 dG_sortOf_14 (by decide) ?_
    exact aw_iret (pc := 18) F hr hlk dG_sortOf_18 (by rw [fp_sortOf, if_neg c_5]) rfl
def fp_operandOf (P : pT) (at_ : Int32) : Int32 :=
  if (fp_has P at_) = 0 then (0 : Int32) else ((P.2 1) at_.toNatClampNeg)
set_option maxRecDepth 100000 in
set_option maxHeartbeats 4000000 in
theorem tG_operandOf {l : Launch} {D : va_G} {A : Nat → Prop} {ad : Nat → Nat} {tP : Nat} {cI : ClassId} {tl : List va_E} {tyr : List (ClassId × FieldType)} (S : kT) (P : pT) (X : xT) (at_ : Int32) (hS : pS P) : aw_M l yG_operandOf (Cond.code yG_operandOf cG_operandOf 2 (some .int) :: aw_big) 1 D vwCl ((cI, .int) :: tyr) A ad (zC A tP) [.ref (ad 1), .int at_] (hC ad cI S P X ++ tl) (some (.int (fp_operandOf P at_))) (hC ad cI S P X ++ tl) := by
  refine aw_met cG_operandOf 2 (some .int) [some (.ref (ad 1)), some (.int at_)] (by decide) rfl (Nat.le_of_ble_eq_true rfl) rfl ?_
  intro p e s m args below meth c F Zs hr hlk
  refine aw_aload_n (pc := 0) (i := 0) (x := ad 1) F dG_operandOf_0 rfl rfl ?_
  refine aw_iload_n (pc := 1) (i := 1) (x := at_) F dG_operandOf_1 rfl rfl ?_
  refine aw_goV (pc := 2) (As := [.int at_]) (rest := []) F zC_ok Zs 1 rfl rfl (tG_has  S P X at_) (cwV 1 F.1.2.2.2.2 (gi_V wd_321 wd_323 wd_8 wd_65 wd_324) rfl rfl rfl (by decide +kernel) ⟨Nat.le_of_ble_eq_true rfl, Nat.le_of_ble_eq_true rfl⟩) rfl (Nat.le_of_ble_eq_true rfl) ⟨Nat.zero_le _, Nat.zero_le _⟩ rfl dG_operandOf_2 ?_
  show aW _ _ _ _ _ _ _ _ _ _ _ _ _ _ _ _ _ _ _ _ _ [.int (fp_has P at_)]
  refine aw_if_eq (pc := 5) F 17 dG_operandOf_5 (by decide) (fun c_5 => ?_) (fun c_5 => ?_)
  · skip
    refine aw_iconst (pc := 17) (v := 0) F dG_operandOf_17 (by decide) ?_
    exact aw_iret (pc := 18) F hr hlk dG_operandOf_18 (by rw [fp_operandOf, if_pos c_5]) rfl
  · skip
    refine aw_aload_n (pc := 8) (i := 0) (x := ad 1) F dG_operandOf_8 rfl rfl ?_
    refine aw_get (pc := 9) (v := .ref (ad 3)) F 1 rfl rfl 1 (by decide) (fun w h => mw (iw_G w h)) (mw wd_93) rfl dG_operandOf_9 ?_
    refine aw_iload_n (pc := 12) (i := 1) (x := at_) F dG_operandOf_12 rfl rfl ?_
    refine aw_iald (pc := 13) F 3 0 rfl rfl (inr_has hS c_5) dG_operandOf_13 ?_
    refine aw_goto (pc := 14) F 18 dG_operandOf_14 (by decide) ?_
    exact aw_iret (pc := 18) F hr hlk dG_operandOf_18 (by rw [fp_operandOf, if_neg c_5]) rfl
def fp_secondOf (P : pT) (at_ : Int32) : Int32 :=
  if (fp_has P at_) = 0 then (-1 : Int32) else ((P.2 2) at_.toNatClampNeg)
set_option maxRecDepth 100000 in
set_option maxHeartbeats 4000000 in
theorem tG_secondOf {l : Launch} {D : va_G} {A : Nat → Prop} {ad : Nat → Nat} {tP : Nat} {cI : ClassId} {tl : List va_E} {tyr : List (ClassId × FieldType)} (S : kT) (P : pT) (X : xT) (at_ : Int32) (hS : pS P) : aw_M l yG_secondOf (Cond.code yG_secondOf cG_secondOf 2 (some .int) :: aw_big) 1 D vwCl ((cI, .int) :: tyr) A ad (zC A tP) [.ref (ad 1), .int at_] (hC ad cI S P X ++ tl) (some (.int (fp_secondOf P at_))) (hC ad cI S P X ++ tl) := by
  refine aw_met cG_secondOf 2 (some .int) [some (.ref (ad 1)), some (.int at_)] (by decide) rfl (Nat.le_of_ble_eq_true rfl) rfl ?_
  intro p e s m args below meth c F Zs hr hlk
  refine aw_aload_n (pc := 0) (i := 0) (x := ad 1) F dG_secondOf_0 rfl rfl ?_
  refine aw_iload_n (pc := 1) (i := 1) (x := at_) F dG_secondOf_1 rfl rfl ?_
  refine aw_goV (pc := 2) (As := [.int at_]) (rest := []) F zC_ok Zs 1 rfl rfl (tG_has  S P X at_) (cwV 1 F.1.2.2.2.2 (gi_V wd_321 wd_323 wd_8 wd_65 wd_324) rfl rfl rfl (by decide +kernel) ⟨Nat.le_of_ble_eq_true rfl, Nat.le_of_ble_eq_true rfl⟩) rfl (Nat.le_of_ble_eq_true rfl) ⟨Nat.zero_le _, Nat.zero_le _⟩ rfl dG_secondOf_2 ?_
  show aW _ _ _ _ _ _ _ _ _ _ _ _ _ _ _ _ _ _ _ _ _ [.int (fp_has P at_)]
  refine aw_if_eq (pc := 5) F 17 dG_secondOf_5 (by decide) (fun c_5 => ?_) (fun c_5 => ?_)
  · skip
    refine aw_iconst (pc := 17) (v := -1) F dG_secondOf_17 (by decide) ?_
    exact aw_iret (pc := 18) F hr hlk dG_secondOf_18 (by rw [fp_secondOf, if_pos c_5]) rfl
  · skip
    refine aw_aload_n (pc := 8) (i := 0) (x := ad 1) F dG_secondOf_8 rfl rfl ?_
    refine aw_get (pc := 9) (v := .ref (ad 4)) F 1 rfl rfl 2 (by decide) (fun w h => mw (iw_G w h)) (mw wd_94) rfl dG_secondOf_9 ?_
    refine aw_iload_n (pc := 12) (i := 1) (x := at_) F dG_secondOf_12 rfl rfl ?_
    refine aw_iald (pc := 13) F 4 0 rfl rfl (inr_has hS c_5) dG_secondOf_13 ?_
    refine aw_goto (pc := 14) F 18 dG_secondOf_14 (by decide) ?_
    exact aw_iret (pc := 18) F hr hlk dG_secondOf_18 (by rw [fp_secondOf, if_neg c_5]) rfl
def fp_weightOf (P : pT) (at_ : Int32) : Int32 :=
  if (fp_has P at_) = 0 then (0 : Int32) else ((P.2 3) at_.toNatClampNeg)
set_option maxRecDepth 100000 in
set_option maxHeartbeats 4000000 in
theorem tG_weightOf {l : Launch} {D : va_G} {A : Nat → Prop} {ad : Nat → Nat} {tP : Nat} {cI : ClassId} {tl : List va_E} {tyr : List (ClassId × FieldType)} (S : kT) (P : pT) (X : xT) (at_ : Int32) (hS : pS P) : aw_M l yG_weightOf (Cond.code yG_weightOf cG_weightOf 2 (some .int) :: aw_big) 1 D vwCl ((cI, .int) :: tyr) A ad (zC A tP) [.ref (ad 1), .int at_] (hC ad cI S P X ++ tl) (some (.int (fp_weightOf P at_))) (hC ad cI S P X ++ tl) := by
  refine aw_met cG_weightOf 2 (some .int) [some (.ref (ad 1)), some (.int at_)] (by decide) rfl (Nat.le_of_ble_eq_true rfl) rfl ?_
  intro p e s m args below meth c F Zs hr hlk
  refine aw_aload_n (pc := 0) (i := 0) (x := ad 1) F dG_weightOf_0 rfl rfl ?_
  refine aw_iload_n (pc := 1) (i := 1) (x := at_) F dG_weightOf_1 rfl rfl ?_
  refine aw_goV (pc := 2) (As := [.int at_]) (rest := []) F zC_ok Zs 1 rfl rfl (tG_has  S P X at_) (cwV 1 F.1.2.2.2.2 (gi_V wd_321 wd_323 wd_8 wd_65 wd_324) rfl rfl rfl (by decide +kernel) ⟨Nat.le_of_ble_eq_true rfl, Nat.le_of_ble_eq_true rfl⟩) rfl (Nat.le_of_ble_eq_true rfl) ⟨Nat.zero_le _, Nat.zero_le _⟩ rfl dG_weightOf_2 ?_
  show aW _ _ _ _ _ _ _ _ _ _ _ _ _ _ _ _ _ _ _ _ _ [.int (fp_has P at_)]
  refine aw_if_eq (pc := 5) F 17 dG_weightOf_5 (by decide) (fun c_5 => ?_) (fun c_5 => ?_)
  · skip
    refine aw_iconst (pc := 17) (v := 0) F dG_weightOf_17 (by decide) ?_
    exact aw_iret (pc := 18) F hr hlk dG_weightOf_18 (by rw [fp_weightOf, if_pos c_5]) rfl
  · skip
    refine aw_aload_n (pc := 8) (i := 0) (x := ad 1) F dG_weightOf_8 rfl rfl ?_
    refine aw_get (pc := 9) (v := .ref (ad 5)) F 1 rfl rfl 3 (by decide) (fun w h => mw (iw_G w h)) (mw wd_95) rfl dG_weightOf_9 ?_
    refine aw_iload_n (pc := 12) (i := 1) (x := at_) F dG_weightOf_12 rfl rfl ?_
    refine aw_iald (pc := 13) F 5 0 rfl rfl (inr_has hS c_5) dG_weightOf_13 ?_
    refine aw_goto (pc := 14) F 18 dG_weightOf_14 (by decide) ?_
    exact aw_iret (pc := 18) F hr hlk dG_weightOf_18 (by rw [fp_weightOf, if_neg c_5]) rfl
def fp_weightBefore (P : pT) (at_ : Int32) : Int32 :=
  if (fp_has P at_) = 0 then (0 : Int32) else ((P.2 4) at_.toNatClampNeg)
set_option maxRecDepth 100000 in
set_option maxHeartbeats 4000000 in
theorem tG_weightBefore {l : Launch} {D : va_G} {A : Nat → Prop} {ad : Nat → Nat} {tP : Nat} {cI : ClassId} {tl : List va_E} {tyr : List (ClassId × FieldType)} (S : kT) (P : pT) (X : xT) (at_ : Int32) (hS : pS P) : aw_M l yG_weightBefore (Cond.code yG_weightBefore cG_weightBefore 2 (some .int) :: aw_big) 1 D vwCl ((cI, .int) :: tyr) A ad (zC A tP) [.ref (ad 1), .int at_] (hC ad cI S P X ++ tl) (some (.int (fp_weightBefore P at_))) (hC ad cI S P X ++ tl) := by
  refine aw_met cG_weightBefore 2 (some .int) [some (.ref (ad 1)), some (.int at_)] (by decide) rfl (Nat.le_of_ble_eq_true rfl) rfl ?_
  intro p e s m args below meth c F Zs hr hlk
  refine aw_aload_n (pc := 0) (i := 0) (x := ad 1) F dG_weightBefore_0 rfl rfl ?_
  refine aw_iload_n (pc := 1) (i := 1) (x := at_) F dG_weightBefore_1 rfl rfl ?_
  refine aw_goV (pc := 2) (As := [.int at_]) (rest := []) F zC_ok Zs 1 rfl rfl (tG_has  S P X at_) (cwV 1 F.1.2.2.2.2 (gi_V wd_321 wd_323 wd_8 wd_65 wd_324) rfl rfl rfl (by decide +kernel) ⟨Nat.le_of_ble_eq_true rfl, Nat.le_of_ble_eq_true rfl⟩) rfl (Nat.le_of_ble_eq_true rfl) ⟨Nat.zero_le _, Nat.zero_le _⟩ rfl dG_weightBefore_2 ?_
  show aW _ _ _ _ _ _ _ _ _ _ _ _ _ _ _ _ _ _ _ _ _ [.int (fp_has P at_)]
  refine aw_if_eq (pc := 5) F 17 dG_weightBefore_5 (by decide) (fun c_5 => ?_) (fun c_5 => ?_)
  · skip
    refine aw_iconst (pc := 17) (v := 0) F dG_weightBefore_17 (by decide) ?_
    exact aw_iret (pc := 18) F hr hlk dG_weightBefore_18 (by rw [fp_weightBefore, if_pos c_5]) rfl
  · skip
    refine aw_aload_n (pc := 8) (i := 0) (x := ad 1) F dG_weightBefore_8 rfl rfl ?_
    refine aw_get (pc := 9) (v := .ref (ad 6)) F 1 rfl rfl 4 (by decide) (fun w h => mw (iw_G w h)) (mw wd_96) rfl dG_weightBefore_9 ?_
    refine aw_iload_n (pc := 12) (i := 1) (x := at_) F dG_weightBefore_12 rfl rfl ?_
    refine aw_iald (pc := 13) F 6 0 rfl rfl (inr_has hS c_5) dG_weightBefore_13 ?_
    refine aw_goto (pc := 14) F 18 dG_weightBefore_14 (by decide) ?_
    exact aw_iret (pc := 18) F hr hlk dG_weightBefore_18 (by rw [fp_weightBefore, if_neg c_5]) rfl
def fp_pausesIn (P : pT) (at_ : Int32) : Int32 :=
  if (fp_has P at_) = 0 then (0 : Int32) else ((P.2 5) at_.toNatClampNeg)
set_option maxRecDepth 100000 in
set_option maxHeartbeats 4000000 in
theorem tG_pausesIn {l : Launch} {D : va_G} {A : Nat → Prop} {ad : Nat → Nat} {tP : Nat} {cI : ClassId} {tl : List va_E} {tyr : List (ClassId × FieldType)} (S : kT) (P : pT) (X : xT) (at_ : Int32) (hS : pS P) : aw_M l yG_pausesIn (Cond.code yG_pausesIn cG_pausesIn 2 (some .int) :: aw_big) 1 D vwCl ((cI, .int) :: tyr) A ad (zC A tP) [.ref (ad 1), .int at_] (hC ad cI S P X ++ tl) (some (.int (fp_pausesIn P at_))) (hC ad cI S P X ++ tl) := by
  refine aw_met cG_pausesIn 2 (some .int) [some (.ref (ad 1)), some (.int at_)] (by decide) rfl (Nat.le_of_ble_eq_true rfl) rfl ?_
  intro p e s m args below meth c F Zs hr hlk
  refine aw_aload_n (pc := 0) (i := 0) (x := ad 1) F dG_pausesIn_0 rfl rfl ?_
  refine aw_iload_n (pc := 1) (i := 1) (x := at_) F dG_pausesIn_1 rfl rfl ?_
  refine aw_goV (pc := 2) (As := [.int at_]) (rest := []) F zC_ok Zs 1 rfl rfl (tG_has  S P X at_) (cwV 1 F.1.2.2.2.2 (gi_V wd_321 wd_323 wd_8 wd_65 wd_324) rfl rfl rfl (by decide +kernel) ⟨Nat.le_of_ble_eq_true rfl, Nat.le_of_ble_eq_true rfl⟩) rfl (Nat.le_of_ble_eq_true rfl) ⟨Nat.zero_le _, Nat.zero_le _⟩ rfl dG_pausesIn_2 ?_
  show aW _ _ _ _ _ _ _ _ _ _ _ _ _ _ _ _ _ _ _ _ _ [.int (fp_has P at_)]
  refine aw_if_eq (pc := 5) F 17 dG_pausesIn_5 (by decide) (fun c_5 => ?_) (fun c_5 => ?_)
  · skip
    refine aw_iconst (pc := 17) (v := 0) F dG_pausesIn_17 (by decide) ?_
    exact aw_iret (pc := 18) F hr hlk dG_pausesIn_18 (by rw [fp_pausesIn, if_pos c_5]) rfl
  · skip
    refine aw_aload_n (pc := 8) (i := 0) (x := ad 1) F dG_pausesIn_8 rfl rfl ?_
    refine aw_get (pc := 9) (v := .ref (ad 7)) F 1 rfl rfl 5 (by decide) (fun w h => mw (iw_G w h)) (mw wd_97) rfl dG_pausesIn_9 ?_
    refine aw_iload_n (pc := 12) (i := 1) (x := at_) F dG_pausesIn_12 rfl rfl ?_
    refine aw_iald (pc := 13) F 7 0 rfl rfl (inr_has hS c_5) dG_pausesIn_13 ?_
    refine aw_goto (pc := 14) F 18 dG_pausesIn_14 (by decide) ?_
    exact aw_iret (pc := 18) F hr hlk dG_pausesIn_18 (by rw [fp_pausesIn, if_neg c_5]) rfl
def fp_startCodesOf (P : pT) (at_ : Int32) : Int32 :=
  if (fp_has P at_) = 0 then (0 : Int32) else ((P.2 6) at_.toNatClampNeg)
set_option maxRecDepth 100000 in
set_option maxHeartbeats 4000000 in
theorem tG_startCodesOf {l : Launch} {D : va_G} {A : Nat → Prop} {ad : Nat → Nat} {tP : Nat} {cI : ClassId} {tl : List va_E} {tyr : List (ClassId × FieldType)} (S : kT) (P : pT) (X : xT) (at_ : Int32) (hS : pS P) : aw_M l yG_startCodesOf (Cond.code yG_startCodesOf cG_startCodesOf 2 (some .int) :: aw_big) 1 D vwCl ((cI, .int) :: tyr) A ad (zC A tP) [.ref (ad 1), .int at_] (hC ad cI S P X ++ tl) (some (.int (fp_startCodesOf P at_))) (hC ad cI S P X ++ tl) := by
  refine aw_met cG_startCodesOf 2 (some .int) [some (.ref (ad 1)), some (.int at_)] (by decide) rfl (Nat.le_of_ble_eq_true rfl) rfl ?_
  intro p e s m args below meth c F Zs hr hlk
  refine aw_aload_n (pc := 0) (i := 0) (x := ad 1) F dG_startCodesOf_0 rfl rfl ?_
  refine aw_iload_n (pc := 1) (i := 1) (x := at_) F dG_startCodesOf_1 rfl rfl ?_
  refine aw_goV (pc := 2) (As := [.int at_]) (rest := []) F zC_ok Zs 1 rfl rfl (tG_has  S P X at_) (cwV 1 F.1.2.2.2.2 (gi_V wd_321 wd_323 wd_8 wd_65 wd_324) rfl rfl rfl (by decide +kernel) ⟨Nat.le_of_ble_eq_true rfl, Nat.le_of_ble_eq_true rfl⟩) rfl (Nat.le_of_ble_eq_true rfl) ⟨Nat.zero_le _, Nat.zero_le _⟩ rfl dG_startCodesOf_2 ?_
  show aW _ _ _ _ _ _ _ _ _ _ _ _ _ _ _ _ _ _ _ _ _ [.int (fp_has P at_)]
  refine aw_if_eq (pc := 5) F 17 dG_startCodesOf_5 (by decide) (fun c_5 => ?_) (fun c_5 => ?_)
  · skip
    refine aw_iconst (pc := 17) (v := 0) F dG_startCodesOf_17 (by decide) ?_
    exact aw_iret (pc := 18) F hr hlk dG_startCodesOf_18 (by rw [fp_startCodesOf, if_pos c_5]) rfl
  · skip
    refine aw_aload_n (pc := 8) (i := 0) (x := ad 1) F dG_startCodesOf_8 rfl rfl ?_
    refine aw_get (pc := 9) (v := .ref (ad 8)) F 1 rfl rfl 6 (by decide) (fun w h => mw (iw_G w h)) (mw wd_98) rfl dG_startCodesOf_9 ?_
    refine aw_iload_n (pc := 12) (i := 1) (x := at_) F dG_startCodesOf_12 rfl rfl ?_
    refine aw_iald (pc := 13) F 8 0 rfl rfl (inr_has hS c_5) dG_startCodesOf_13 ?_
    refine aw_goto (pc := 14) F 18 dG_startCodesOf_14 (by decide) ?_
    exact aw_iret (pc := 18) F hr hlk dG_startCodesOf_18 (by rw [fp_startCodesOf, if_neg c_5]) rfl
def fp_trapsL : Nat → pT → Int32 → Int32 → Int32
  | 0, P, tr, lv => 0
  | n + 1, P, tr, lv =>
      if (P.1 0) ≤ lv then
      tr
    else
      if (fp_sortOf P ((P.2 7) lv.toNatClampNeg)) = (9 : Int32) then
        (fp_trapsL n P (tr + (1 : Int32)) (lv + (1 : Int32)))
      else
        (fp_trapsL n P tr (lv + (1 : Int32)))
set_option maxRecDepth 100000 in
set_option maxHeartbeats 4000000 in
theorem tG_trapsAround_L4 {l : Launch} {D : va_G} {A : Nat → Prop} {ad : Nat → Nat} {tP : Nat} {cI : ClassId} {tl : List va_E} {tyr : List (ClassId × FieldType)} {p : Program} {e : Env} {s : State} {m : MethodId} {args : Array Value} {below : List Frame} {meth : Method} {c : Code} (F : aw_F p s m c args cG_trapsAround 3 (Cond.code yG_trapsAround cG_trapsAround 3 (some .int) :: aw_big) yG_trapsAround.cls D vwCl ((cI, .int) :: tyr)) (Zs : zC A tP s) (hr : meth.sig.returnType = (some .int)) (hlk : meth.locks = false) :
    ∀ (n : Nat) (S : kT) (P : pT) (X : xT)  (tr : Int32) (lv : Int32) (hS : pS P) (hL : pL P) (h0 : 0 ≤ lv.toInt) (h1 : lv.toInt ≤ (P.1 0).toInt) (hm : (P.1 0).toInt < lv.toInt + n), aW p l e (aw_rm 2) s m args below meth c 0 0 (MQ below (aw_Q D vwCl A ad (some (.int (fp_trapsL n P tr lv))) (hC ad cI S P X ++ tl)) args s 0 0 A) D vwCl A ad 3 (hC ad cI S P X ++ tl) [some (.ref (ad 1)), some (.int tr), some (.int lv)] 4 [] := by
  intro n
  induction n with
  | zero =>
    intro S P X tr lv hS hL h0 h1 hm
    exfalso; omega
  | succ n ih =>
    intro S P X tr lv hS hL h0 h1 hm
    refine aw_iload_n (pc := 4) (i := 2) (x := lv) F dG_trapsAround_4 rfl rfl ?_
    refine aw_aload_n (pc := 5) (i := 0) (x := ad 1) F dG_trapsAround_5 rfl rfl ?_
    refine aw_get (pc := 6) (v := .int (P.1 0)) F 1 rfl rfl 9 (by decide) (fun w h => mw (iw_G w h)) (mw wd_101) rfl dG_trapsAround_6 ?_
    refine aw_icmp_ge (pc := 9) F 36 dG_trapsAround_9 (by decide) (fun c_9 => ?_) (fun c_9 => ?_)
    · skip
      refine aw_iload_n (pc := 36) (i := 1) (x := tr) F dG_trapsAround_36 rfl rfl ?_
      exact aw_iret (pc := 37) F hr hlk dG_trapsAround_37 (by rw [fp_trapsL, if_pos c_9]) rfl
    · skip
      refine aw_aload_n (pc := 12) (i := 0) (x := ad 1) F dG_trapsAround_12 rfl rfl ?_
      refine aw_aload_n (pc := 13) (i := 0) (x := ad 1) F dG_trapsAround_13 rfl rfl ?_
      refine aw_get (pc := 14) (v := .ref (ad 9)) F 1 rfl rfl 7 (by decide) (fun w h => mw (iw_G w h)) (mw wd_99) rfl dG_trapsAround_14 ?_
      refine aw_iload_n (pc := 17) (i := 2) (x := lv) F dG_trapsAround_17 rfl rfl ?_
      refine aw_iald (pc := 18) F 9 0 rfl rfl (inr_lv hL h0 (i_lt c_9)) dG_trapsAround_18 ?_
      refine aw_goV (pc := 19) (As := [.int ((P.2 7) lv.toNatClampNeg)]) (rest := []) F zC_ok Zs 1 rfl rfl (tG_sortOf  S P X ((P.2 7) lv.toNatClampNeg) hS) (cwV 1 F.1.2.2.2.2 (gi_V wd_317 wd_319 wd_7 wd_65 wd_320) rfl rfl rfl (by decide +kernel) ⟨Nat.le_of_ble_eq_true rfl, Nat.le_of_ble_eq_true rfl⟩) rfl (Nat.le_of_ble_eq_true rfl) ⟨Nat.zero_le _, Nat.zero_le _⟩ rfl dG_trapsAround_19 ?_
      show aW _ _ _ _ _ _ _ _ _ _ _ _ _ _ _ _ _ _ _ _ _ [.int (fp_sortOf P ((P.2 7) lv.toNatClampNeg))]
      refine aw_bipush (pc := 22) (v := 9) F dG_trapsAround_22 (by decide) ?_
      refine aw_icmp_ne (pc := 24) F 30 dG_trapsAround_24 (by decide) (fun c_24 => ?_) (fun c_24 => ?_)
      · skip
        refine aw_iinc (pc := 30) (x := lv) (v := lv + (1 : Int32)) (L' := [some (.ref (ad 1)), some (.int tr), some (.int (lv + (1 : Int32)))]) F dG_trapsAround_30 rfl rfl (by decide) rfl ?_
        refine aw_goto (pc := 33) F 4 dG_trapsAround_33 (by decide) ?_
        rw [show (fp_trapsL (n + 1) P tr lv) = (fp_trapsL n P tr (lv + (1 : Int32))) from by rw [fp_trapsL, if_neg c_9, if_neg c_24]]
        exact ih S P X  tr (lv + (1 : Int32)) hS hL (by have a := i_up (i_lt c_9); omega) (by have a := i_up (i_lt c_9); have b := i_lt c_9; omega) (by have a := i_up (i_lt c_9); omega)
      · skip
        refine aw_iinc (pc := 27) (x := tr) (v := tr + (1 : Int32)) (L' := [some (.ref (ad 1)), some (.int (tr + (1 : Int32))), some (.int lv)]) F dG_trapsAround_27 rfl rfl (by decide) rfl ?_
        refine aw_iinc (pc := 30) (x := lv) (v := lv + (1 : Int32)) (L' := [some (.ref (ad 1)), some (.int (tr + (1 : Int32))), some (.int (lv + (1 : Int32)))]) F dG_trapsAround_30 rfl rfl (by decide) rfl ?_
        refine aw_goto (pc := 33) F 4 dG_trapsAround_33 (by decide) ?_
        rw [show (fp_trapsL (n + 1) P tr lv) = (fp_trapsL n P (tr + (1 : Int32)) (lv + (1 : Int32))) from by rw [fp_trapsL, if_neg c_9, if_pos c_24]]
        exact ih S P X  (tr + (1 : Int32)) (lv + (1 : Int32)) hS hL (by have a := i_up (i_lt c_9); omega) (by have a := i_up (i_lt c_9); have b := i_lt c_9; omega) (by have a := i_up (i_lt c_9); omega)
def fp_trapsAround (P : pT)  : Int32 :=
  (fp_trapsL 25 P (0 : Int32) (0 : Int32))
set_option maxRecDepth 100000 in
set_option maxHeartbeats 4000000 in
theorem tG_trapsAround {l : Launch} {D : va_G} {A : Nat → Prop} {ad : Nat → Nat} {tP : Nat} {cI : ClassId} {tl : List va_E} {tyr : List (ClassId × FieldType)} (S : kT) (P : pT) (X : xT)  (hS : pS P) (hL : pL P) : aw_M l yG_trapsAround (Cond.code yG_trapsAround cG_trapsAround 3 (some .int) :: aw_big) 2 D vwCl ((cI, .int) :: tyr) A ad (zC A tP) [.ref (ad 1)] (hC ad cI S P X ++ tl) (some (.int (fp_trapsAround P))) (hC ad cI S P X ++ tl) := by
  refine aw_met cG_trapsAround 3 (some .int) [some (.ref (ad 1)), none, none] (by decide) rfl (Nat.le_of_ble_eq_true rfl) rfl ?_
  intro p e s m args below meth c F Zs hr hlk
  refine aw_iconst (pc := 0) (v := 0) F dG_trapsAround_0 (by decide) ?_
  refine aw_istore_n (pc := 1) (i := 1) (L' := [some (.ref (ad 1)), some (.int (0 : Int32)), none]) F dG_trapsAround_1 rfl (by decide) rfl ?_
  refine aw_iconst (pc := 2) (v := 0) F dG_trapsAround_2 (by decide) ?_
  refine aw_istore_n (pc := 3) (i := 2) (L' := [some (.ref (ad 1)), some (.int (0 : Int32)), some (.int (0 : Int32))]) F dG_trapsAround_3 rfl (by decide) rfl ?_
  rw [show (fp_trapsAround P) = (fp_trapsL 25 P (0 : Int32) (0 : Int32)) from by rw [fp_trapsAround]]
  exact tG_trapsAround_L4  F Zs hr hlk 25 S P X  (0 : Int32) (0 : Int32) hS hL (by rw [i_0]; omega) (by rw [i_0]; exact hL.1) (by rw [i_0]; have := hL.2; omega)
def fp_nextWeight (P : pT)  : Int32 :=
  if (P.1 0) = 0 then
    (1 : Int32)
  else
    if (fp_sortOf P ((P.2 7) ((P.1 0) - (1 : Int32)).toNatClampNeg)) = (6 : Int32) then
      if ((P.2 8) ((P.1 0) - (1 : Int32)).toNatClampNeg) = (1 : Int32) then
        if (fp_sortOf P ((P.2 7) ((P.1 0) - (1 : Int32)).toNatClampNeg)) = (8 : Int32) then
          ((fp_weightOf P ((P.2 7) ((P.1 0) - (1 : Int32)).toNatClampNeg)) + (1 : Int32))
        else
          if (1 : Int32) = 0 then
            ((fp_weightOf P ((P.2 7) ((P.1 0) - (1 : Int32)).toNatClampNeg)) + (0 : Int32))
          else
            ((fp_weightOf P ((P.2 7) ((P.1 0) - (1 : Int32)).toNatClampNeg)) + (1 : Int32))
      else
        if (fp_sortOf P ((P.2 7) ((P.1 0) - (1 : Int32)).toNatClampNeg)) = (8 : Int32) then
          ((fp_weightOf P ((P.2 7) ((P.1 0) - (1 : Int32)).toNatClampNeg)) + (1 : Int32))
        else
          if (0 : Int32) = 0 then
            ((fp_weightOf P ((P.2 7) ((P.1 0) - (1 : Int32)).toNatClampNeg)) + (0 : Int32))
          else
            ((fp_weightOf P ((P.2 7) ((P.1 0) - (1 : Int32)).toNatClampNeg)) + (1 : Int32))
    else
      if (fp_sortOf P ((P.2 7) ((P.1 0) - (1 : Int32)).toNatClampNeg)) = (8 : Int32) then
        ((fp_weightOf P ((P.2 7) ((P.1 0) - (1 : Int32)).toNatClampNeg)) + (1 : Int32))
      else
        if (0 : Int32) = 0 then
          ((fp_weightOf P ((P.2 7) ((P.1 0) - (1 : Int32)).toNatClampNeg)) + (0 : Int32))
        else
          ((fp_weightOf P ((P.2 7) ((P.1 0) - (1 : Int32)).toNatClampNeg)) + (1 : Int32))
set_option maxRecDepth 100000 in
set_option maxHeartbeats 4000000 in
theorem tG_nextWeight {l : Launch} {D : va_G} {A : Nat → Prop} {ad : Nat → Nat} {tP : Nat} {cI : ClassId} {tl : List va_E} {tyr : List (ClassId × FieldType)} (S : kT) (P : pT) (X : xT)  (hS : pS P) (hL : pL P) : aw_M l yG_nextWeight (Cond.code yG_nextWeight cG_nextWeight 4 (some .int) :: aw_big) 2 D vwCl ((cI, .int) :: tyr) A ad (zC A tP) [.ref (ad 1)] (hC ad cI S P X ++ tl) (some (.int (fp_nextWeight P))) (hC ad cI S P X ++ tl) := by
  refine aw_met cG_nextWeight 4 (some .int) [some (.ref (ad 1)), none, none, none] (by decide) rfl (Nat.le_of_ble_eq_true rfl) rfl ?_
  intro p e s m args below meth c F Zs hr hlk
  refine aw_aload_n (pc := 0) (i := 0) (x := ad 1) F dG_nextWeight_0 rfl rfl ?_
  refine aw_get (pc := 1) (v := .int (P.1 0)) F 1 rfl rfl 9 (by decide) (fun w h => mw (iw_G w h)) (mw wd_101) rfl dG_nextWeight_1 ?_
  refine aw_if_ne (pc := 4) F 9 dG_nextWeight_4 (by decide) (fun c_4 => ?_) (fun c_4 => ?_)
  · skip
    refine aw_aload_n (pc := 9) (i := 0) (x := ad 1) F dG_nextWeight_9 rfl rfl ?_
    refine aw_get (pc := 10) (v := .ref (ad 9)) F 1 rfl rfl 7 (by decide) (fun w h => mw (iw_G w h)) (mw wd_99) rfl dG_nextWeight_10 ?_
    refine aw_aload_n (pc := 13) (i := 0) (x := ad 1) F dG_nextWeight_13 rfl rfl ?_
    refine aw_get (pc := 14) (v := .int (P.1 0)) F 1 rfl rfl 9 (by decide) (fun w h => mw (iw_G w h)) (mw wd_101) rfl dG_nextWeight_14 ?_
    refine aw_iconst (pc := 17) (v := 1) F dG_nextWeight_17 (by decide) ?_
    refine aw_isub (pc := 18) F dG_nextWeight_18 ?_
    refine aw_iald (pc := 19) F 9 0 rfl rfl (inr_top hL (lv_ne hL c_4)) dG_nextWeight_19 ?_
    refine aw_istore_n (pc := 20) (i := 1) (L' := [some (.ref (ad 1)), some (.int ((P.2 7) ((P.1 0) - (1 : Int32)).toNatClampNeg)), none, none]) F dG_nextWeight_20 rfl (by decide) rfl ?_
    refine aw_aload_n (pc := 21) (i := 0) (x := ad 1) F dG_nextWeight_21 rfl rfl ?_
    refine aw_iload_n (pc := 22) (i := 1) (x := (P.2 7) ((P.1 0) - (1 : Int32)).toNatClampNeg) F dG_nextWeight_22 rfl rfl ?_
    refine aw_goV (pc := 23) (As := [.int ((P.2 7) ((P.1 0) - (1 : Int32)).toNatClampNeg)]) (rest := []) F zC_ok Zs 1 rfl rfl (tG_sortOf  S P X ((P.2 7) ((P.1 0) - (1 : Int32)).toNatClampNeg) hS) (cwV 1 F.1.2.2.2.2 (gi_V wd_317 wd_319 wd_7 wd_65 wd_320) rfl rfl rfl (by decide +kernel) ⟨Nat.le_of_ble_eq_true rfl, Nat.le_of_ble_eq_true rfl⟩) rfl (Nat.le_of_ble_eq_true rfl) ⟨Nat.zero_le _, Nat.zero_le _⟩ rfl dG_nextWeight_23 ?_
    show aW _ _ _ _ _ _ _ _ _ _ _ _ _ _ _ _ _ _ _ _ _ [.int (fp_sortOf P ((P.2 7) ((P.1 0) - (1 : Int32)).toNatClampNeg))]
    refine aw_istore_n (pc := 26) (i := 2) (L' := [some (.ref (ad 1)), some (.int ((P.2 7) ((P.1 0) - (1 : Int32)).toNatClampNeg)), some (.int (fp_sortOf P ((P.2 7) ((P.1 0) - (1 : Int32)).toNatClampNeg))), none]) F dG_nextWeight_26 rfl (by decide) rfl ?_
    refine aw_iload_n (pc := 27) (i := 2) (x := (fp_sortOf P ((P.2 7) ((P.1 0) - (1 : Int32)).toNatClampNeg))) F dG_nextWeight_27 rfl rfl ?_
    refine aw_bipush (pc := 28) (v := 6) F dG_nextWeight_28 (by decide) ?_
    refine aw_icmp_ne (pc := 30) F 52 dG_nextWeight_30 (by decide) (fun c_30 => ?_) (fun c_30 => ?_)
    · skip
      refine aw_iconst (pc := 52) (v := 0) F dG_nextWeight_52 (by decide) ?_
      refine aw_istore_n (pc := 53) (i := 3) (L' := [some (.ref (ad 1)), some (.int ((P.2 7) ((P.1 0) - (1 : Int32)).toNatClampNeg)), some (.int (fp_sortOf P ((P.2 7) ((P.1 0) - (1 : Int32)).toNatClampNeg))), some (.int (0 : Int32))]) F dG_nextWeight_53 rfl (by decide) rfl ?_
      refine aw_aload_n (pc := 54) (i := 0) (x := ad 1) F dG_nextWeight_54 rfl rfl ?_
      refine aw_iload_n (pc := 55) (i := 1) (x := (P.2 7) ((P.1 0) - (1 : Int32)).toNatClampNeg) F dG_nextWeight_55 rfl rfl ?_
      refine aw_goV (pc := 56) (As := [.int ((P.2 7) ((P.1 0) - (1 : Int32)).toNatClampNeg)]) (rest := []) F zC_ok Zs 1 rfl rfl (tG_weightOf  S P X ((P.2 7) ((P.1 0) - (1 : Int32)).toNatClampNeg) hS) (cwV 1 F.1.2.2.2.2 (gi_V wd_349 wd_351 wd_11 wd_65 wd_352) rfl rfl rfl (by decide +kernel) ⟨Nat.le_of_ble_eq_true rfl, Nat.le_of_ble_eq_true rfl⟩) rfl (Nat.le_of_ble_eq_true rfl) ⟨Nat.zero_le _, Nat.zero_le _⟩ rfl dG_nextWeight_56 ?_
      show aW _ _ _ _ _ _ _ _ _ _ _ _ _ _ _ _ _ _ _ _ _ [.int (fp_weightOf P ((P.2 7) ((P.1 0) - (1 : Int32)).toNatClampNeg))]
      refine aw_iload_n (pc := 59) (i := 2) (x := (fp_sortOf P ((P.2 7) ((P.1 0) - (1 : Int32)).toNatClampNeg))) F dG_nextWeight_59 rfl rfl ?_
      refine aw_bipush (pc := 60) (v := 8) F dG_nextWeight_60 (by decide) ?_
      refine aw_icmp_eq (pc := 62) F 69 dG_nextWeight_62 (by decide) (fun c_62 => ?_) (fun c_62 => ?_)
      · skip
        refine aw_iconst (pc := 69) (v := 1) F dG_nextWeight_69 (by decide) ?_
        refine aw_goto (pc := 70) F 74 dG_nextWeight_70 (by decide) ?_
        refine aw_iadd (pc := 74) F dG_nextWeight_74 ?_
        exact aw_iret (pc := 75) F hr hlk dG_nextWeight_75 (by rw [fp_nextWeight, if_neg c_4, if_neg c_30, if_pos c_62]) rfl
      · skip
        refine aw_iload_n (pc := 65) (i := 3) (x := (0 : Int32)) F dG_nextWeight_65 rfl rfl ?_
        refine aw_if_eq (pc := 66) F 73 dG_nextWeight_66 (by decide) (fun c_66 => ?_) (fun c_66 => ?_)
        · skip
          refine aw_iconst (pc := 73) (v := 0) F dG_nextWeight_73 (by decide) ?_
          refine aw_iadd (pc := 74) F dG_nextWeight_74 ?_
          exact aw_iret (pc := 75) F hr hlk dG_nextWeight_75 (by rw [fp_nextWeight, if_neg c_4, if_neg c_30, if_neg c_62, if_pos c_66]) rfl
        · skip
          refine aw_iconst (pc := 69) (v := 1) F dG_nextWeight_69 (by decide) ?_
          refine aw_goto (pc := 70) F 74 dG_nextWeight_70 (by decide) ?_
          refine aw_iadd (pc := 74) F dG_nextWeight_74 ?_
          exact aw_iret (pc := 75) F hr hlk dG_nextWeight_75 (by rw [fp_nextWeight, if_neg c_4, if_neg c_30, if_neg c_62, if_neg c_66]) rfl
    · skip
      refine aw_aload_n (pc := 33) (i := 0) (x := ad 1) F dG_nextWeight_33 rfl rfl ?_
      refine aw_get (pc := 34) (v := .ref (ad 10)) F 1 rfl rfl 8 (by decide) (fun w h => mw (iw_G w h)) (mw wd_100) rfl dG_nextWeight_34 ?_
      refine aw_aload_n (pc := 37) (i := 0) (x := ad 1) F dG_nextWeight_37 rfl rfl ?_
      refine aw_get (pc := 38) (v := .int (P.1 0)) F 1 rfl rfl 9 (by decide) (fun w h => mw (iw_G w h)) (mw wd_101) rfl dG_nextWeight_38 ?_
      refine aw_iconst (pc := 41) (v := 1) F dG_nextWeight_41 (by decide) ?_
      refine aw_isub (pc := 42) F dG_nextWeight_42 ?_
      refine aw_iald (pc := 43) F 10 0 rfl rfl (inr_top hL (lv_ne hL c_4)) dG_nextWeight_43 ?_
      refine aw_iconst (pc := 44) (v := 1) F dG_nextWeight_44 (by decide) ?_
      refine aw_icmp_ne (pc := 45) F 52 dG_nextWeight_45 (by decide) (fun c_45 => ?_) (fun c_45 => ?_)
      · skip
        refine aw_iconst (pc := 52) (v := 0) F dG_nextWeight_52 (by decide) ?_
        refine aw_istore_n (pc := 53) (i := 3) (L' := [some (.ref (ad 1)), some (.int ((P.2 7) ((P.1 0) - (1 : Int32)).toNatClampNeg)), some (.int (fp_sortOf P ((P.2 7) ((P.1 0) - (1 : Int32)).toNatClampNeg))), some (.int (0 : Int32))]) F dG_nextWeight_53 rfl (by decide) rfl ?_
        refine aw_aload_n (pc := 54) (i := 0) (x := ad 1) F dG_nextWeight_54 rfl rfl ?_
        refine aw_iload_n (pc := 55) (i := 1) (x := (P.2 7) ((P.1 0) - (1 : Int32)).toNatClampNeg) F dG_nextWeight_55 rfl rfl ?_
        refine aw_goV (pc := 56) (As := [.int ((P.2 7) ((P.1 0) - (1 : Int32)).toNatClampNeg)]) (rest := []) F zC_ok Zs 1 rfl rfl (tG_weightOf  S P X ((P.2 7) ((P.1 0) - (1 : Int32)).toNatClampNeg) hS) (cwV 1 F.1.2.2.2.2 (gi_V wd_349 wd_351 wd_11 wd_65 wd_352) rfl rfl rfl (by decide +kernel) ⟨Nat.le_of_ble_eq_true rfl, Nat.le_of_ble_eq_true rfl⟩) rfl (Nat.le_of_ble_eq_true rfl) ⟨Nat.zero_le _, Nat.zero_le _⟩ rfl dG_nextWeight_56 ?_
        show aW _ _ _ _ _ _ _ _ _ _ _ _ _ _ _ _ _ _ _ _ _ [.int (fp_weightOf P ((P.2 7) ((P.1 0) - (1 : Int32)).toNatClampNeg))]
        refine aw_iload_n (pc := 59) (i := 2) (x := (fp_sortOf P ((P.2 7) ((P.1 0) - (1 : Int32)).toNatClampNeg))) F dG_nextWeight_59 rfl rfl ?_
        refine aw_bipush (pc := 60) (v := 8) F dG_nextWeight_60 (by decide) ?_
        refine aw_icmp_eq (pc := 62) F 69 dG_nextWeight_62 (by decide) (fun c_62 => ?_) (fun c_62 => ?_)
        · skip
          refine aw_iconst (pc := 69) (v := 1) F dG_nextWeight_69 (by decide) ?_
          refine aw_goto (pc := 70) F 74 dG_nextWeight_70 (by decide) ?_
          refine aw_iadd (pc := 74) F dG_nextWeight_74 ?_
          exact aw_iret (pc := 75) F hr hlk dG_nextWeight_75 (by rw [fp_nextWeight, if_neg c_4, if_pos c_30, if_neg c_45, if_pos c_62]) rfl
        · skip
          refine aw_iload_n (pc := 65) (i := 3) (x := (0 : Int32)) F dG_nextWeight_65 rfl rfl ?_
          refine aw_if_eq (pc := 66) F 73 dG_nextWeight_66 (by decide) (fun c_66 => ?_) (fun c_66 => ?_)
          · skip
            refine aw_iconst (pc := 73) (v := 0) F dG_nextWeight_73 (by decide) ?_
            refine aw_iadd (pc := 74) F dG_nextWeight_74 ?_
            exact aw_iret (pc := 75) F hr hlk dG_nextWeight_75 (by rw [fp_nextWeight, if_neg c_4, if_pos c_30, if_neg c_45, if_neg c_62, if_pos c_66]) rfl
          · skip
            refine aw_iconst (pc := 69) (v := 1) F dG_nextWeight_69 (by decide) ?_
            refine aw_goto (pc := 70) F 74 dG_nextWeight_70 (by decide) ?_
            refine aw_iadd (pc := 74) F dG_nextWeight_74 ?_
            exact aw_iret (pc := 75) F hr hlk dG_nextWeight_75 (by rw [fp_nextWeight, if_neg c_4, if_pos c_30, if_neg c_45, if_neg c_62, if_neg c_66]) rfl
      · skip
        refine aw_iconst (pc := 48) (v := 1) F dG_nextWeight_48 (by decide) ?_
        refine aw_goto (pc := 49) F 53 dG_nextWeight_49 (by decide) ?_
        refine aw_istore_n (pc := 53) (i := 3) (L' := [some (.ref (ad 1)), some (.int ((P.2 7) ((P.1 0) - (1 : Int32)).toNatClampNeg)), some (.int (fp_sortOf P ((P.2 7) ((P.1 0) - (1 : Int32)).toNatClampNeg))), some (.int (1 : Int32))]) F dG_nextWeight_53 rfl (by decide) rfl ?_
        refine aw_aload_n (pc := 54) (i := 0) (x := ad 1) F dG_nextWeight_54 rfl rfl ?_
        refine aw_iload_n (pc := 55) (i := 1) (x := (P.2 7) ((P.1 0) - (1 : Int32)).toNatClampNeg) F dG_nextWeight_55 rfl rfl ?_
        refine aw_goV (pc := 56) (As := [.int ((P.2 7) ((P.1 0) - (1 : Int32)).toNatClampNeg)]) (rest := []) F zC_ok Zs 1 rfl rfl (tG_weightOf  S P X ((P.2 7) ((P.1 0) - (1 : Int32)).toNatClampNeg) hS) (cwV 1 F.1.2.2.2.2 (gi_V wd_349 wd_351 wd_11 wd_65 wd_352) rfl rfl rfl (by decide +kernel) ⟨Nat.le_of_ble_eq_true rfl, Nat.le_of_ble_eq_true rfl⟩) rfl (Nat.le_of_ble_eq_true rfl) ⟨Nat.zero_le _, Nat.zero_le _⟩ rfl dG_nextWeight_56 ?_
        show aW _ _ _ _ _ _ _ _ _ _ _ _ _ _ _ _ _ _ _ _ _ [.int (fp_weightOf P ((P.2 7) ((P.1 0) - (1 : Int32)).toNatClampNeg))]
        refine aw_iload_n (pc := 59) (i := 2) (x := (fp_sortOf P ((P.2 7) ((P.1 0) - (1 : Int32)).toNatClampNeg))) F dG_nextWeight_59 rfl rfl ?_
        refine aw_bipush (pc := 60) (v := 8) F dG_nextWeight_60 (by decide) ?_
        refine aw_icmp_eq (pc := 62) F 69 dG_nextWeight_62 (by decide) (fun c_62 => ?_) (fun c_62 => ?_)
        · skip
          refine aw_iconst (pc := 69) (v := 1) F dG_nextWeight_69 (by decide) ?_
          refine aw_goto (pc := 70) F 74 dG_nextWeight_70 (by decide) ?_
          refine aw_iadd (pc := 74) F dG_nextWeight_74 ?_
          exact aw_iret (pc := 75) F hr hlk dG_nextWeight_75 (by rw [fp_nextWeight, if_neg c_4, if_pos c_30, if_pos c_45, if_pos c_62]) rfl
        · skip
          refine aw_iload_n (pc := 65) (i := 3) (x := (1 : Int32)) F dG_nextWeight_65 rfl rfl ?_
          refine aw_if_eq (pc := 66) F 73 dG_nextWeight_66 (by decide) (fun c_66 => ?_) (fun c_66 => ?_)
          · skip
            refine aw_iconst (pc := 73) (v := 0) F dG_nextWeight_73 (by decide) ?_
            refine aw_iadd (pc := 74) F dG_nextWeight_74 ?_
            exact aw_iret (pc := 75) F hr hlk dG_nextWeight_75 (by rw [fp_nextWeight, if_neg c_4, if_pos c_30, if_pos c_45, if_neg c_62, if_pos c_66]) rfl
          · skip
            refine aw_iconst (pc := 69) (v := 1) F dG_nextWeight_69 (by decide) ?_
            refine aw_goto (pc := 70) F 74 dG_nextWeight_70 (by decide) ?_
            refine aw_iadd (pc := 74) F dG_nextWeight_74 ?_
            exact aw_iret (pc := 75) F hr hlk dG_nextWeight_75 (by rw [fp_nextWeight, if_neg c_4, if_pos c_30, if_pos c_45, if_neg c_62, if_neg c_66]) rfl
  · skip
    refine aw_iconst (pc := 7) (v := 1) F dG_nextWeight_7 (by decide) ?_
    exact aw_iret (pc := 8) F hr hlk dG_nextWeight_8 (by rw [fp_nextWeight, if_pos c_4]) rfl
def fp_allows (P : pT) (so : Int32) (x : Int32) : Int32 :=
  if so = (2 : Int32) then if x < (4 : Int32) then (0 : Int32) else if (16 : Int32) ≤ x then (0 : Int32) else (1 : Int32)
  else if so = (3 : Int32) then if x < 0 then (0 : Int32) else if (fp_trapsAround P) ≤ x then (0 : Int32) else (1 : Int32)
  else if so = (4 : Int32) then if x < (-16 : Int32) then (0 : Int32) else if (16 : Int32) ≤ x then (0 : Int32) else (1 : Int32)
  else if so = (5 : Int32) then if x < (-16 : Int32) then (0 : Int32) else if (16 : Int32) ≤ x then (0 : Int32) else (1 : Int32)
  else if so = (6 : Int32) then if so < 0 then
      (0 : Int32)
    else
      if (10 : Int32) < so then (0 : Int32) else if x = 0 then (1 : Int32) else (0 : Int32)
  else if so = (7 : Int32) then if so < 0 then
      (0 : Int32)
    else
      if (10 : Int32) < so then (0 : Int32) else if x = 0 then (1 : Int32) else (0 : Int32)
  else if so = (8 : Int32) then if so < 0 then
      (0 : Int32)
    else
      if (10 : Int32) < so then (0 : Int32) else if x = 0 then (1 : Int32) else (0 : Int32)
  else if so = (9 : Int32) then if so < 0 then
      (0 : Int32)
    else
      if (10 : Int32) < so then (0 : Int32) else if x = 0 then (1 : Int32) else (0 : Int32)
  else if so = (10 : Int32) then if x < (4 : Int32) then (0 : Int32) else if (16 : Int32) ≤ x then (0 : Int32) else (1 : Int32)
  else if so < 0 then
    (0 : Int32)
  else
    if (10 : Int32) < so then (0 : Int32) else if x = 0 then (1 : Int32) else (0 : Int32)
set_option maxRecDepth 100000 in
set_option maxHeartbeats 4000000 in
theorem tG_allows {l : Launch} {D : va_G} {A : Nat → Prop} {ad : Nat → Nat} {tP : Nat} {cI : ClassId} {tl : List va_E} {tyr : List (ClassId × FieldType)} (S : kT) (P : pT) (X : xT) (so : Int32) (x : Int32) (hS : pS P) (hL : pL P) : aw_M l yG_allows (Cond.code yG_allows cG_allows 3 (some .boolean) :: aw_big) 3 D vwCl ((cI, .int) :: tyr) A ad (zC A tP) [.ref (ad 1), .int so, .int x] (hC ad cI S P X ++ tl) (some (.int (fp_allows P so x))) (hC ad cI S P X ++ tl) := by
  refine aw_met cG_allows 3 (some .boolean) [some (.ref (ad 1)), some (.int so), some (.int x)] (by decide) rfl (Nat.le_of_ble_eq_true rfl) rfl ?_
  intro p e s m args below meth c F Zs hr hlk
  refine aw_iload_n (pc := 0) (i := 1) (x := so) F dG_allows_0 rfl rfl ?_
  by_cases s_1_2 : so = (2 : Int32)
  · refine aw_tableIn (pc := 1) F 52 dG_allows_1 (by rw [s_1_2]; decide) (by rw [s_1_2]; decide) (off := 51) (by rw [s_1_2]; rfl) (by decide) ?_
    refine aw_iload_n (pc := 52) (i := 2) (x := x) F dG_allows_52 rfl rfl ?_
    refine aw_iconst (pc := 53) (v := 4) F dG_allows_53 (by decide) ?_
    refine aw_icmp_lt (pc := 54) F 67 dG_allows_54 (by decide) (fun c_54 => ?_) (fun c_54 => ?_)
    · skip
      refine aw_iconst (pc := 67) (v := 0) F dG_allows_67 (by decide) ?_
      exact aw_zret (pc := 68) F hr hlk dG_allows_68 rfl (by rw [fp_allows, if_pos s_1_2, if_pos c_54]) rfl
    · skip
      refine aw_iload_n (pc := 57) (i := 2) (x := x) F dG_allows_57 rfl rfl ?_
      refine aw_bipush (pc := 58) (v := 16) F dG_allows_58 (by decide) ?_
      refine aw_icmp_ge (pc := 60) F 67 dG_allows_60 (by decide) (fun c_60 => ?_) (fun c_60 => ?_)
      · skip
        refine aw_iconst (pc := 67) (v := 0) F dG_allows_67 (by decide) ?_
        exact aw_zret (pc := 68) F hr hlk dG_allows_68 rfl (by rw [fp_allows, if_pos s_1_2, if_neg c_54, if_pos c_60]) rfl
      · skip
        refine aw_iconst (pc := 63) (v := 1) F dG_allows_63 (by decide) ?_
        refine aw_goto (pc := 64) F 68 dG_allows_64 (by decide) ?_
        exact aw_zret (pc := 68) F hr hlk dG_allows_68 rfl (by rw [fp_allows, if_pos s_1_2, if_neg c_54, if_neg c_60]) rfl
  by_cases s_1_3 : so = (3 : Int32)
  · refine aw_tableIn (pc := 1) F 69 dG_allows_1 (by rw [s_1_3]; decide) (by rw [s_1_3]; decide) (off := 68) (by rw [s_1_3]; rfl) (by decide) ?_
    refine aw_iload_n (pc := 69) (i := 2) (x := x) F dG_allows_69 rfl rfl ?_
    refine aw_if_lt (pc := 70) F 85 dG_allows_70 (by decide) (fun c_70 => ?_) (fun c_70 => ?_)
    · skip
      refine aw_iconst (pc := 85) (v := 0) F dG_allows_85 (by decide) ?_
      exact aw_zret (pc := 86) F hr hlk dG_allows_86 rfl (by rw [fp_allows, if_neg s_1_2, if_pos s_1_3, if_pos c_70]) rfl
    · skip
      refine aw_iload_n (pc := 73) (i := 2) (x := x) F dG_allows_73 rfl rfl ?_
      refine aw_aload_n (pc := 74) (i := 0) (x := ad 1) F dG_allows_74 rfl rfl ?_
      refine aw_goV (pc := 75) (As := []) (rest := [.int x]) F zC_ok Zs 1 rfl rfl (tG_trapsAround  S P X  hS hL) (cwV 0 F.1.2.2.2.2 (gi_V wd_313 wd_315 wd_6 wd_65 wd_316) rfl rfl rfl (by decide +kernel) ⟨Nat.le_of_ble_eq_true rfl, Nat.le_of_ble_eq_true rfl⟩) rfl (Nat.le_of_ble_eq_true rfl) ⟨Nat.zero_le _, Nat.zero_le _⟩ rfl dG_allows_75 ?_
      show aW _ _ _ _ _ _ _ _ _ _ _ _ _ _ _ _ _ _ _ _ _ [.int (fp_trapsAround P), .int x]
      refine aw_icmp_ge (pc := 78) F 85 dG_allows_78 (by decide) (fun c_78 => ?_) (fun c_78 => ?_)
      · skip
        refine aw_iconst (pc := 85) (v := 0) F dG_allows_85 (by decide) ?_
        exact aw_zret (pc := 86) F hr hlk dG_allows_86 rfl (by rw [fp_allows, if_neg s_1_2, if_pos s_1_3, if_neg c_70, if_pos c_78]) rfl
      · skip
        refine aw_iconst (pc := 81) (v := 1) F dG_allows_81 (by decide) ?_
        refine aw_goto (pc := 82) F 86 dG_allows_82 (by decide) ?_
        exact aw_zret (pc := 86) F hr hlk dG_allows_86 rfl (by rw [fp_allows, if_neg s_1_2, if_pos s_1_3, if_neg c_70, if_neg c_78]) rfl
  by_cases s_1_4 : so = (4 : Int32)
  · refine aw_tableIn (pc := 1) F 87 dG_allows_1 (by rw [s_1_4]; decide) (by rw [s_1_4]; decide) (off := 86) (by rw [s_1_4]; rfl) (by decide) ?_
    refine aw_iload_n (pc := 87) (i := 2) (x := x) F dG_allows_87 rfl rfl ?_
    refine aw_bipush (pc := 88) (v := -16) F dG_allows_88 (by decide) ?_
    refine aw_icmp_lt (pc := 90) F 103 dG_allows_90 (by decide) (fun c_90 => ?_) (fun c_90 => ?_)
    · skip
      refine aw_iconst (pc := 103) (v := 0) F dG_allows_103 (by decide) ?_
      exact aw_zret (pc := 104) F hr hlk dG_allows_104 rfl (by rw [fp_allows, if_neg s_1_2, if_neg s_1_3, if_pos s_1_4, if_pos c_90]) rfl
    · skip
      refine aw_iload_n (pc := 93) (i := 2) (x := x) F dG_allows_93 rfl rfl ?_
      refine aw_bipush (pc := 94) (v := 16) F dG_allows_94 (by decide) ?_
      refine aw_icmp_ge (pc := 96) F 103 dG_allows_96 (by decide) (fun c_96 => ?_) (fun c_96 => ?_)
      · skip
        refine aw_iconst (pc := 103) (v := 0) F dG_allows_103 (by decide) ?_
        exact aw_zret (pc := 104) F hr hlk dG_allows_104 rfl (by rw [fp_allows, if_neg s_1_2, if_neg s_1_3, if_pos s_1_4, if_neg c_90, if_pos c_96]) rfl
      · skip
        refine aw_iconst (pc := 99) (v := 1) F dG_allows_99 (by decide) ?_
        refine aw_goto (pc := 100) F 104 dG_allows_100 (by decide) ?_
        exact aw_zret (pc := 104) F hr hlk dG_allows_104 rfl (by rw [fp_allows, if_neg s_1_2, if_neg s_1_3, if_pos s_1_4, if_neg c_90, if_neg c_96]) rfl
  by_cases s_1_5 : so = (5 : Int32)
  · refine aw_tableIn (pc := 1) F 87 dG_allows_1 (by rw [s_1_5]; decide) (by rw [s_1_5]; decide) (off := 86) (by rw [s_1_5]; rfl) (by decide) ?_
    refine aw_iload_n (pc := 87) (i := 2) (x := x) F dG_allows_87 rfl rfl ?_
    refine aw_bipush (pc := 88) (v := -16) F dG_allows_88 (by decide) ?_
    refine aw_icmp_lt (pc := 90) F 103 dG_allows_90 (by decide) (fun c_90 => ?_) (fun c_90 => ?_)
    · skip
      refine aw_iconst (pc := 103) (v := 0) F dG_allows_103 (by decide) ?_
      exact aw_zret (pc := 104) F hr hlk dG_allows_104 rfl (by rw [fp_allows, if_neg s_1_2, if_neg s_1_3, if_neg s_1_4, if_pos s_1_5, if_pos c_90]) rfl
    · skip
      refine aw_iload_n (pc := 93) (i := 2) (x := x) F dG_allows_93 rfl rfl ?_
      refine aw_bipush (pc := 94) (v := 16) F dG_allows_94 (by decide) ?_
      refine aw_icmp_ge (pc := 96) F 103 dG_allows_96 (by decide) (fun c_96 => ?_) (fun c_96 => ?_)
      · skip
        refine aw_iconst (pc := 103) (v := 0) F dG_allows_103 (by decide) ?_
        exact aw_zret (pc := 104) F hr hlk dG_allows_104 rfl (by rw [fp_allows, if_neg s_1_2, if_neg s_1_3, if_neg s_1_4, if_pos s_1_5, if_neg c_90, if_pos c_96]) rfl
      · skip
        refine aw_iconst (pc := 99) (v := 1) F dG_allows_99 (by decide) ?_
        refine aw_goto (pc := 100) F 104 dG_allows_100 (by decide) ?_
        exact aw_zret (pc := 104) F hr hlk dG_allows_104 rfl (by rw [fp_allows, if_neg s_1_2, if_neg s_1_3, if_neg s_1_4, if_pos s_1_5, if_neg c_90, if_neg c_96]) rfl
  by_cases s_1_6 : so = (6 : Int32)
  · refine aw_tableIn (pc := 1) F 105 dG_allows_1 (by rw [s_1_6]; decide) (by rw [s_1_6]; decide) (off := 104) (by rw [s_1_6]; rfl) (by decide) ?_
    refine aw_iload_n (pc := 105) (i := 1) (x := so) F dG_allows_105 rfl rfl ?_
    refine aw_if_lt (pc := 106) F 123 dG_allows_106 (by decide) (fun c_106 => ?_) (fun c_106 => ?_)
    · skip
      refine aw_iconst (pc := 123) (v := 0) F dG_allows_123 (by decide) ?_
      exact aw_zret (pc := 124) F hr hlk dG_allows_124 rfl (by rw [fp_allows, if_neg s_1_2, if_neg s_1_3, if_neg s_1_4, if_neg s_1_5, if_pos s_1_6, if_pos c_106]) rfl
    · skip
      refine aw_iload_n (pc := 109) (i := 1) (x := so) F dG_allows_109 rfl rfl ?_
      refine aw_bipush (pc := 110) (v := 10) F dG_allows_110 (by decide) ?_
      refine aw_icmp_gt (pc := 112) F 123 dG_allows_112 (by decide) (fun c_112 => ?_) (fun c_112 => ?_)
      · skip
        refine aw_iconst (pc := 123) (v := 0) F dG_allows_123 (by decide) ?_
        exact aw_zret (pc := 124) F hr hlk dG_allows_124 rfl (by rw [fp_allows, if_neg s_1_2, if_neg s_1_3, if_neg s_1_4, if_neg s_1_5, if_pos s_1_6, if_neg c_106, if_pos c_112]) rfl
      · skip
        refine aw_iload_n (pc := 115) (i := 2) (x := x) F dG_allows_115 rfl rfl ?_
        refine aw_if_ne (pc := 116) F 123 dG_allows_116 (by decide) (fun c_116 => ?_) (fun c_116 => ?_)
        · skip
          refine aw_iconst (pc := 123) (v := 0) F dG_allows_123 (by decide) ?_
          exact aw_zret (pc := 124) F hr hlk dG_allows_124 rfl (by rw [fp_allows, if_neg s_1_2, if_neg s_1_3, if_neg s_1_4, if_neg s_1_5, if_pos s_1_6, if_neg c_106, if_neg c_112, if_neg c_116]) rfl
        · skip
          refine aw_iconst (pc := 119) (v := 1) F dG_allows_119 (by decide) ?_
          refine aw_goto (pc := 120) F 124 dG_allows_120 (by decide) ?_
          exact aw_zret (pc := 124) F hr hlk dG_allows_124 rfl (by rw [fp_allows, if_neg s_1_2, if_neg s_1_3, if_neg s_1_4, if_neg s_1_5, if_pos s_1_6, if_neg c_106, if_neg c_112, if_pos c_116]) rfl
  by_cases s_1_7 : so = (7 : Int32)
  · refine aw_tableIn (pc := 1) F 105 dG_allows_1 (by rw [s_1_7]; decide) (by rw [s_1_7]; decide) (off := 104) (by rw [s_1_7]; rfl) (by decide) ?_
    refine aw_iload_n (pc := 105) (i := 1) (x := so) F dG_allows_105 rfl rfl ?_
    refine aw_if_lt (pc := 106) F 123 dG_allows_106 (by decide) (fun c_106 => ?_) (fun c_106 => ?_)
    · skip
      refine aw_iconst (pc := 123) (v := 0) F dG_allows_123 (by decide) ?_
      exact aw_zret (pc := 124) F hr hlk dG_allows_124 rfl (by rw [fp_allows, if_neg s_1_2, if_neg s_1_3, if_neg s_1_4, if_neg s_1_5, if_neg s_1_6, if_pos s_1_7, if_pos c_106]) rfl
    · skip
      refine aw_iload_n (pc := 109) (i := 1) (x := so) F dG_allows_109 rfl rfl ?_
      refine aw_bipush (pc := 110) (v := 10) F dG_allows_110 (by decide) ?_
      refine aw_icmp_gt (pc := 112) F 123 dG_allows_112 (by decide) (fun c_112 => ?_) (fun c_112 => ?_)
      · skip
        refine aw_iconst (pc := 123) (v := 0) F dG_allows_123 (by decide) ?_
        exact aw_zret (pc := 124) F hr hlk dG_allows_124 rfl (by rw [fp_allows, if_neg s_1_2, if_neg s_1_3, if_neg s_1_4, if_neg s_1_5, if_neg s_1_6, if_pos s_1_7, if_neg c_106, if_pos c_112]) rfl
      · skip
        refine aw_iload_n (pc := 115) (i := 2) (x := x) F dG_allows_115 rfl rfl ?_
        refine aw_if_ne (pc := 116) F 123 dG_allows_116 (by decide) (fun c_116 => ?_) (fun c_116 => ?_)
        · skip
          refine aw_iconst (pc := 123) (v := 0) F dG_allows_123 (by decide) ?_
          exact aw_zret (pc := 124) F hr hlk dG_allows_124 rfl (by rw [fp_allows, if_neg s_1_2, if_neg s_1_3, if_neg s_1_4, if_neg s_1_5, if_neg s_1_6, if_pos s_1_7, if_neg c_106, if_neg c_112, if_neg c_116]) rfl
        · skip
          refine aw_iconst (pc := 119) (v := 1) F dG_allows_119 (by decide) ?_
          refine aw_goto (pc := 120) F 124 dG_allows_120 (by decide) ?_
          exact aw_zret (pc := 124) F hr hlk dG_allows_124 rfl (by rw [fp_allows, if_neg s_1_2, if_neg s_1_3, if_neg s_1_4, if_neg s_1_5, if_neg s_1_6, if_pos s_1_7, if_neg c_106, if_neg c_112, if_pos c_116]) rfl
  by_cases s_1_8 : so = (8 : Int32)
  · refine aw_tableIn (pc := 1) F 105 dG_allows_1 (by rw [s_1_8]; decide) (by rw [s_1_8]; decide) (off := 104) (by rw [s_1_8]; rfl) (by decide) ?_
    refine aw_iload_n (pc := 105) (i := 1) (x := so) F dG_allows_105 rfl rfl ?_
    refine aw_if_lt (pc := 106) F 123 dG_allows_106 (by decide) (fun c_106 => ?_) (fun c_106 => ?_)
    · skip
      refine aw_iconst (pc := 123) (v := 0) F dG_allows_123 (by decide) ?_
      exact aw_zret (pc := 124) F hr hlk dG_allows_124 rfl (by rw [fp_allows, if_neg s_1_2, if_neg s_1_3, if_neg s_1_4, if_neg s_1_5, if_neg s_1_6, if_neg s_1_7, if_pos s_1_8, if_pos c_106]) rfl
    · skip
      refine aw_iload_n (pc := 109) (i := 1) (x := so) F dG_allows_109 rfl rfl ?_
      refine aw_bipush (pc := 110) (v := 10) F dG_allows_110 (by decide) ?_
      refine aw_icmp_gt (pc := 112) F 123 dG_allows_112 (by decide) (fun c_112 => ?_) (fun c_112 => ?_)
      · skip
        refine aw_iconst (pc := 123) (v := 0) F dG_allows_123 (by decide) ?_
        exact aw_zret (pc := 124) F hr hlk dG_allows_124 rfl (by rw [fp_allows, if_neg s_1_2, if_neg s_1_3, if_neg s_1_4, if_neg s_1_5, if_neg s_1_6, if_neg s_1_7, if_pos s_1_8, if_neg c_106, if_pos c_112]) rfl
      · skip
        refine aw_iload_n (pc := 115) (i := 2) (x := x) F dG_allows_115 rfl rfl ?_
        refine aw_if_ne (pc := 116) F 123 dG_allows_116 (by decide) (fun c_116 => ?_) (fun c_116 => ?_)
        · skip
          refine aw_iconst (pc := 123) (v := 0) F dG_allows_123 (by decide) ?_
          exact aw_zret (pc := 124) F hr hlk dG_allows_124 rfl (by rw [fp_allows, if_neg s_1_2, if_neg s_1_3, if_neg s_1_4, if_neg s_1_5, if_neg s_1_6, if_neg s_1_7, if_pos s_1_8, if_neg c_106, if_neg c_112, if_neg c_116]) rfl
        · skip
          refine aw_iconst (pc := 119) (v := 1) F dG_allows_119 (by decide) ?_
          refine aw_goto (pc := 120) F 124 dG_allows_120 (by decide) ?_
          exact aw_zret (pc := 124) F hr hlk dG_allows_124 rfl (by rw [fp_allows, if_neg s_1_2, if_neg s_1_3, if_neg s_1_4, if_neg s_1_5, if_neg s_1_6, if_neg s_1_7, if_pos s_1_8, if_neg c_106, if_neg c_112, if_pos c_116]) rfl
  by_cases s_1_9 : so = (9 : Int32)
  · refine aw_tableIn (pc := 1) F 105 dG_allows_1 (by rw [s_1_9]; decide) (by rw [s_1_9]; decide) (off := 104) (by rw [s_1_9]; rfl) (by decide) ?_
    refine aw_iload_n (pc := 105) (i := 1) (x := so) F dG_allows_105 rfl rfl ?_
    refine aw_if_lt (pc := 106) F 123 dG_allows_106 (by decide) (fun c_106 => ?_) (fun c_106 => ?_)
    · skip
      refine aw_iconst (pc := 123) (v := 0) F dG_allows_123 (by decide) ?_
      exact aw_zret (pc := 124) F hr hlk dG_allows_124 rfl (by rw [fp_allows, if_neg s_1_2, if_neg s_1_3, if_neg s_1_4, if_neg s_1_5, if_neg s_1_6, if_neg s_1_7, if_neg s_1_8, if_pos s_1_9, if_pos c_106]) rfl
    · skip
      refine aw_iload_n (pc := 109) (i := 1) (x := so) F dG_allows_109 rfl rfl ?_
      refine aw_bipush (pc := 110) (v := 10) F dG_allows_110 (by decide) ?_
      refine aw_icmp_gt (pc := 112) F 123 dG_allows_112 (by decide) (fun c_112 => ?_) (fun c_112 => ?_)
      · skip
        refine aw_iconst (pc := 123) (v := 0) F dG_allows_123 (by decide) ?_
        exact aw_zret (pc := 124) F hr hlk dG_allows_124 rfl (by rw [fp_allows, if_neg s_1_2, if_neg s_1_3, if_neg s_1_4, if_neg s_1_5, if_neg s_1_6, if_neg s_1_7, if_neg s_1_8, if_pos s_1_9, if_neg c_106, if_pos c_112]) rfl
      · skip
        refine aw_iload_n (pc := 115) (i := 2) (x := x) F dG_allows_115 rfl rfl ?_
        refine aw_if_ne (pc := 116) F 123 dG_allows_116 (by decide) (fun c_116 => ?_) (fun c_116 => ?_)
        · skip
          refine aw_iconst (pc := 123) (v := 0) F dG_allows_123 (by decide) ?_
          exact aw_zret (pc := 124) F hr hlk dG_allows_124 rfl (by rw [fp_allows, if_neg s_1_2, if_neg s_1_3, if_neg s_1_4, if_neg s_1_5, if_neg s_1_6, if_neg s_1_7, if_neg s_1_8, if_pos s_1_9, if_neg c_106, if_neg c_112, if_neg c_116]) rfl
        · skip
          refine aw_iconst (pc := 119) (v := 1) F dG_allows_119 (by decide) ?_
          refine aw_goto (pc := 120) F 124 dG_allows_120 (by decide) ?_
          exact aw_zret (pc := 124) F hr hlk dG_allows_124 rfl (by rw [fp_allows, if_neg s_1_2, if_neg s_1_3, if_neg s_1_4, if_neg s_1_5, if_neg s_1_6, if_neg s_1_7, if_neg s_1_8, if_pos s_1_9, if_neg c_106, if_neg c_112, if_pos c_116]) rfl
  by_cases s_1_10 : so = (10 : Int32)
  · refine aw_tableIn (pc := 1) F 52 dG_allows_1 (by rw [s_1_10]; decide) (by rw [s_1_10]; decide) (off := 51) (by rw [s_1_10]; rfl) (by decide) ?_
    refine aw_iload_n (pc := 52) (i := 2) (x := x) F dG_allows_52 rfl rfl ?_
    refine aw_iconst (pc := 53) (v := 4) F dG_allows_53 (by decide) ?_
    refine aw_icmp_lt (pc := 54) F 67 dG_allows_54 (by decide) (fun c_54 => ?_) (fun c_54 => ?_)
    · skip
      refine aw_iconst (pc := 67) (v := 0) F dG_allows_67 (by decide) ?_
      exact aw_zret (pc := 68) F hr hlk dG_allows_68 rfl (by rw [fp_allows, if_neg s_1_2, if_neg s_1_3, if_neg s_1_4, if_neg s_1_5, if_neg s_1_6, if_neg s_1_7, if_neg s_1_8, if_neg s_1_9, if_pos s_1_10, if_pos c_54]) rfl
    · skip
      refine aw_iload_n (pc := 57) (i := 2) (x := x) F dG_allows_57 rfl rfl ?_
      refine aw_bipush (pc := 58) (v := 16) F dG_allows_58 (by decide) ?_
      refine aw_icmp_ge (pc := 60) F 67 dG_allows_60 (by decide) (fun c_60 => ?_) (fun c_60 => ?_)
      · skip
        refine aw_iconst (pc := 67) (v := 0) F dG_allows_67 (by decide) ?_
        exact aw_zret (pc := 68) F hr hlk dG_allows_68 rfl (by rw [fp_allows, if_neg s_1_2, if_neg s_1_3, if_neg s_1_4, if_neg s_1_5, if_neg s_1_6, if_neg s_1_7, if_neg s_1_8, if_neg s_1_9, if_pos s_1_10, if_neg c_54, if_pos c_60]) rfl
      · skip
        refine aw_iconst (pc := 63) (v := 1) F dG_allows_63 (by decide) ?_
        refine aw_goto (pc := 64) F 68 dG_allows_64 (by decide) ?_
        exact aw_zret (pc := 68) F hr hlk dG_allows_68 rfl (by rw [fp_allows, if_neg s_1_2, if_neg s_1_3, if_neg s_1_4, if_neg s_1_5, if_neg s_1_6, if_neg s_1_7, if_neg s_1_8, if_neg s_1_9, if_pos s_1_10, if_neg c_54, if_neg c_60]) rfl
  refine aw_tableOut (pc := 1) F 105 dG_allows_1 (by have := aw_ne s_1_2 (a := 2) (by decide); have := aw_ne s_1_3 (a := 3) (by decide); have := aw_ne s_1_4 (a := 4) (by decide); have := aw_ne s_1_5 (a := 5) (by decide); have := aw_ne s_1_6 (a := 6) (by decide); have := aw_ne s_1_7 (a := 7) (by decide); have := aw_ne s_1_8 (a := 8) (by decide); have := aw_ne s_1_9 (a := 9) (by decide); have := aw_ne s_1_10 (a := 10) (by decide); omega) (by decide) ?_
  refine aw_iload_n (pc := 105) (i := 1) (x := so) F dG_allows_105 rfl rfl ?_
  refine aw_if_lt (pc := 106) F 123 dG_allows_106 (by decide) (fun c_106 => ?_) (fun c_106 => ?_)
  · skip
    refine aw_iconst (pc := 123) (v := 0) F dG_allows_123 (by decide) ?_
    exact aw_zret (pc := 124) F hr hlk dG_allows_124 rfl (by rw [fp_allows, if_neg s_1_2, if_neg s_1_3, if_neg s_1_4, if_neg s_1_5, if_neg s_1_6, if_neg s_1_7, if_neg s_1_8, if_neg s_1_9, if_neg s_1_10, if_pos c_106]) rfl
  · skip
    refine aw_iload_n (pc := 109) (i := 1) (x := so) F dG_allows_109 rfl rfl ?_
    refine aw_bipush (pc := 110) (v := 10) F dG_allows_110 (by decide) ?_
    refine aw_icmp_gt (pc := 112) F 123 dG_allows_112 (by decide) (fun c_112 => ?_) (fun c_112 => ?_)
    · skip
      refine aw_iconst (pc := 123) (v := 0) F dG_allows_123 (by decide) ?_
      exact aw_zret (pc := 124) F hr hlk dG_allows_124 rfl (by rw [fp_allows, if_neg s_1_2, if_neg s_1_3, if_neg s_1_4, if_neg s_1_5, if_neg s_1_6, if_neg s_1_7, if_neg s_1_8, if_neg s_1_9, if_neg s_1_10, if_neg c_106, if_pos c_112]) rfl
    · skip
      refine aw_iload_n (pc := 115) (i := 2) (x := x) F dG_allows_115 rfl rfl ?_
      refine aw_if_ne (pc := 116) F 123 dG_allows_116 (by decide) (fun c_116 => ?_) (fun c_116 => ?_)
      · skip
        refine aw_iconst (pc := 123) (v := 0) F dG_allows_123 (by decide) ?_
        exact aw_zret (pc := 124) F hr hlk dG_allows_124 rfl (by rw [fp_allows, if_neg s_1_2, if_neg s_1_3, if_neg s_1_4, if_neg s_1_5, if_neg s_1_6, if_neg s_1_7, if_neg s_1_8, if_neg s_1_9, if_neg s_1_10, if_neg c_106, if_neg c_112, if_neg c_116]) rfl
      · skip
        refine aw_iconst (pc := 119) (v := 1) F dG_allows_119 (by decide) ?_
        refine aw_goto (pc := 120) F 124 dG_allows_120 (by decide) ?_
        exact aw_zret (pc := 124) F hr hlk dG_allows_124 rfl (by rw [fp_allows, if_neg s_1_2, if_neg s_1_3, if_neg s_1_4, if_neg s_1_5, if_neg s_1_6, if_neg s_1_7, if_neg s_1_8, if_neg s_1_9, if_neg s_1_10, if_neg c_106, if_neg c_112, if_pos c_116]) rfl
def fp_hasRoomFor (P : pT) (so : Int32) : Int32 :=
  if (120 : Int32) ≤ (P.1 1) then
    (0 : Int32)
  else
    if (24 : Int32) ≤ (P.1 0) then
      (0 : Int32)
    else
      if so = (1 : Int32) then
        if (32 : Int32) ≤ (P.1 3) then
          (0 : Int32)
        else
          if so = (9 : Int32) then
            if (5 : Int32) ≤ (fp_trapsAround P) then
              (0 : Int32)
            else
              if (360 : Int32) < ((P.1 5) + (fp_nextWeight P)) then (0 : Int32) else (1 : Int32)
          else
            if (360 : Int32) < ((P.1 5) + (fp_nextWeight P)) then (0 : Int32) else (1 : Int32)
      else
        if so = (9 : Int32) then
          if (5 : Int32) ≤ (fp_trapsAround P) then
            (0 : Int32)
          else
            if (360 : Int32) < ((P.1 5) + (fp_nextWeight P)) then (0 : Int32) else (1 : Int32)
        else
          if (360 : Int32) < ((P.1 5) + (fp_nextWeight P)) then (0 : Int32) else (1 : Int32)
set_option maxRecDepth 100000 in
set_option maxHeartbeats 4000000 in
theorem tG_hasRoomFor {l : Launch} {D : va_G} {A : Nat → Prop} {ad : Nat → Nat} {tP : Nat} {cI : ClassId} {tl : List va_E} {tyr : List (ClassId × FieldType)} (S : kT) (P : pT) (X : xT) (so : Int32) (hS : pS P) (hL : pL P) : aw_M l yG_hasRoomFor (Cond.code yG_hasRoomFor cG_hasRoomFor 2 (some .boolean) :: aw_big) 3 D vwCl ((cI, .int) :: tyr) A ad (zC A tP) [.ref (ad 1), .int so] (hC ad cI S P X ++ tl) (some (.int (fp_hasRoomFor P so))) (hC ad cI S P X ++ tl) := by
  refine aw_met cG_hasRoomFor 2 (some .boolean) [some (.ref (ad 1)), some (.int so)] (by decide) rfl (Nat.le_of_ble_eq_true rfl) rfl ?_
  intro p e s m args below meth c F Zs hr hlk
  refine aw_aload_n (pc := 0) (i := 0) (x := ad 1) F dG_hasRoomFor_0 rfl rfl ?_
  refine aw_get (pc := 1) (v := .int (P.1 1)) F 1 rfl rfl 10 (by decide) (fun w h => mw (iw_G w h)) (mw wd_102) rfl dG_hasRoomFor_1 ?_
  refine aw_bipush (pc := 4) (v := 120) F dG_hasRoomFor_4 (by decide) ?_
  refine aw_icmp_ge (pc := 6) F 65 dG_hasRoomFor_6 (by decide) (fun c_6 => ?_) (fun c_6 => ?_)
  · skip
    refine aw_iconst (pc := 65) (v := 0) F dG_hasRoomFor_65 (by decide) ?_
    exact aw_zret (pc := 66) F hr hlk dG_hasRoomFor_66 rfl (by rw [fp_hasRoomFor, if_pos c_6]) rfl
  · skip
    refine aw_aload_n (pc := 9) (i := 0) (x := ad 1) F dG_hasRoomFor_9 rfl rfl ?_
    refine aw_get (pc := 10) (v := .int (P.1 0)) F 1 rfl rfl 9 (by decide) (fun w h => mw (iw_G w h)) (mw wd_101) rfl dG_hasRoomFor_10 ?_
    refine aw_bipush (pc := 13) (v := 24) F dG_hasRoomFor_13 (by decide) ?_
    refine aw_icmp_ge (pc := 15) F 65 dG_hasRoomFor_15 (by decide) (fun c_15 => ?_) (fun c_15 => ?_)
    · skip
      refine aw_iconst (pc := 65) (v := 0) F dG_hasRoomFor_65 (by decide) ?_
      exact aw_zret (pc := 66) F hr hlk dG_hasRoomFor_66 rfl (by rw [fp_hasRoomFor, if_neg c_6, if_pos c_15]) rfl
    · skip
      refine aw_iload_n (pc := 18) (i := 1) (x := so) F dG_hasRoomFor_18 rfl rfl ?_
      refine aw_iconst (pc := 19) (v := 1) F dG_hasRoomFor_19 (by decide) ?_
      refine aw_icmp_ne (pc := 20) F 32 dG_hasRoomFor_20 (by decide) (fun c_20 => ?_) (fun c_20 => ?_)
      · skip
        refine aw_iload_n (pc := 32) (i := 1) (x := so) F dG_hasRoomFor_32 rfl rfl ?_
        refine aw_bipush (pc := 33) (v := 9) F dG_hasRoomFor_33 (by decide) ?_
        refine aw_icmp_ne (pc := 35) F 46 dG_hasRoomFor_35 (by decide) (fun c_35 => ?_) (fun c_35 => ?_)
        · skip
          refine aw_aload_n (pc := 46) (i := 0) (x := ad 1) F dG_hasRoomFor_46 rfl rfl ?_
          refine aw_get (pc := 47) (v := .int (P.1 5)) F 1 rfl rfl 14 (by decide) (fun w h => mw (iw_G w h)) (mw wd_110) rfl dG_hasRoomFor_47 ?_
          refine aw_aload_n (pc := 50) (i := 0) (x := ad 1) F dG_hasRoomFor_50 rfl rfl ?_
          refine aw_goV (pc := 51) (As := []) (rest := [.int (P.1 5)]) F zC_ok Zs 1 rfl rfl (tG_nextWeight  S P X  hS hL) (cwV 0 F.1.2.2.2.2 (gi_V wd_345 wd_347 wd_10 wd_65 wd_348) rfl rfl rfl (by decide +kernel) ⟨Nat.le_of_ble_eq_true rfl, Nat.le_of_ble_eq_true rfl⟩) rfl (Nat.le_of_ble_eq_true rfl) ⟨Nat.zero_le _, Nat.zero_le _⟩ rfl dG_hasRoomFor_51 ?_
          show aW _ _ _ _ _ _ _ _ _ _ _ _ _ _ _ _ _ _ _ _ _ [.int (fp_nextWeight P), .int (P.1 5)]
          refine aw_iadd (pc := 54) F dG_hasRoomFor_54 ?_
          refine aw_sipush (pc := 55) (v := 360) F dG_hasRoomFor_55 (by decide) ?_
          refine aw_icmp_gt (pc := 58) F 65 dG_hasRoomFor_58 (by decide) (fun c_58 => ?_) (fun c_58 => ?_)
          · skip
            refine aw_iconst (pc := 65) (v := 0) F dG_hasRoomFor_65 (by decide) ?_
            exact aw_zret (pc := 66) F hr hlk dG_hasRoomFor_66 rfl (by rw [fp_hasRoomFor, if_neg c_6, if_neg c_15, if_neg c_20, if_neg c_35, if_pos c_58]) rfl
          · skip
            refine aw_iconst (pc := 61) (v := 1) F dG_hasRoomFor_61 (by decide) ?_
            refine aw_goto (pc := 62) F 66 dG_hasRoomFor_62 (by decide) ?_
            exact aw_zret (pc := 66) F hr hlk dG_hasRoomFor_66 rfl (by rw [fp_hasRoomFor, if_neg c_6, if_neg c_15, if_neg c_20, if_neg c_35, if_neg c_58]) rfl
        · skip
          refine aw_aload_n (pc := 38) (i := 0) (x := ad 1) F dG_hasRoomFor_38 rfl rfl ?_
          refine aw_goV (pc := 39) (As := []) (rest := []) F zC_ok Zs 1 rfl rfl (tG_trapsAround  S P X  hS hL) (cwV 0 F.1.2.2.2.2 (gi_V wd_313 wd_315 wd_6 wd_65 wd_316) rfl rfl rfl (by decide +kernel) ⟨Nat.le_of_ble_eq_true rfl, Nat.le_of_ble_eq_true rfl⟩) rfl (Nat.le_of_ble_eq_true rfl) ⟨Nat.zero_le _, Nat.zero_le _⟩ rfl dG_hasRoomFor_39 ?_
          show aW _ _ _ _ _ _ _ _ _ _ _ _ _ _ _ _ _ _ _ _ _ [.int (fp_trapsAround P)]
          refine aw_iconst (pc := 42) (v := 5) F dG_hasRoomFor_42 (by decide) ?_
          refine aw_icmp_ge (pc := 43) F 65 dG_hasRoomFor_43 (by decide) (fun c_43 => ?_) (fun c_43 => ?_)
          · skip
            refine aw_iconst (pc := 65) (v := 0) F dG_hasRoomFor_65 (by decide) ?_
            exact aw_zret (pc := 66) F hr hlk dG_hasRoomFor_66 rfl (by rw [fp_hasRoomFor, if_neg c_6, if_neg c_15, if_neg c_20, if_pos c_35, if_pos c_43]) rfl
          · skip
            refine aw_aload_n (pc := 46) (i := 0) (x := ad 1) F dG_hasRoomFor_46 rfl rfl ?_
            refine aw_get (pc := 47) (v := .int (P.1 5)) F 1 rfl rfl 14 (by decide) (fun w h => mw (iw_G w h)) (mw wd_110) rfl dG_hasRoomFor_47 ?_
            refine aw_aload_n (pc := 50) (i := 0) (x := ad 1) F dG_hasRoomFor_50 rfl rfl ?_
            refine aw_goV (pc := 51) (As := []) (rest := [.int (P.1 5)]) F zC_ok Zs 1 rfl rfl (tG_nextWeight  S P X  hS hL) (cwV 0 F.1.2.2.2.2 (gi_V wd_345 wd_347 wd_10 wd_65 wd_348) rfl rfl rfl (by decide +kernel) ⟨Nat.le_of_ble_eq_true rfl, Nat.le_of_ble_eq_true rfl⟩) rfl (Nat.le_of_ble_eq_true rfl) ⟨Nat.zero_le _, Nat.zero_le _⟩ rfl dG_hasRoomFor_51 ?_
            show aW _ _ _ _ _ _ _ _ _ _ _ _ _ _ _ _ _ _ _ _ _ [.int (fp_nextWeight P), .int (P.1 5)]
            refine aw_iadd (pc := 54) F dG_hasRoomFor_54 ?_
            refine aw_sipush (pc := 55) (v := 360) F dG_hasRoomFor_55 (by decide) ?_
            refine aw_icmp_gt (pc := 58) F 65 dG_hasRoomFor_58 (by decide) (fun c_58 => ?_) (fun c_58 => ?_)
            · skip
              refine aw_iconst (pc := 65) (v := 0) F dG_hasRoomFor_65 (by decide) ?_
              exact aw_zret (pc := 66) F hr hlk dG_hasRoomFor_66 rfl (by rw [fp_hasRoomFor, if_neg c_6, if_neg c_15, if_neg c_20, if_pos c_35, if_neg c_43, if_pos c_58]) rfl
            · skip
              refine aw_iconst (pc := 61) (v := 1) F dG_hasRoomFor_61 (by decide) ?_
              refine aw_goto (pc := 62) F 66 dG_hasRoomFor_62 (by decide) ?_
              exact aw_zret (pc := 66) F hr hlk dG_hasRoomFor_66 rfl (by rw [fp_hasRoomFor, if_neg c_6, if_neg c_15, if_neg c_20, if_pos c_35, if_neg c_43, if_neg c_58]) rfl
      · skip
        refine aw_aload_n (pc := 23) (i := 0) (x := ad 1) F dG_hasRoomFor_23 rfl rfl ?_
        refine aw_get (pc := 24) (v := .int (P.1 3)) F 1 rfl rfl 12 (by decide) (fun w h => mw (iw_G w h)) (mw wd_106) rfl dG_hasRoomFor_24 ?_
        refine aw_bipush (pc := 27) (v := 32) F dG_hasRoomFor_27 (by decide) ?_
        refine aw_icmp_ge (pc := 29) F 65 dG_hasRoomFor_29 (by decide) (fun c_29 => ?_) (fun c_29 => ?_)
        · skip
          refine aw_iconst (pc := 65) (v := 0) F dG_hasRoomFor_65 (by decide) ?_
          exact aw_zret (pc := 66) F hr hlk dG_hasRoomFor_66 rfl (by rw [fp_hasRoomFor, if_neg c_6, if_neg c_15, if_pos c_20, if_pos c_29]) rfl
        · skip
          refine aw_iload_n (pc := 32) (i := 1) (x := so) F dG_hasRoomFor_32 rfl rfl ?_
          refine aw_bipush (pc := 33) (v := 9) F dG_hasRoomFor_33 (by decide) ?_
          refine aw_icmp_ne (pc := 35) F 46 dG_hasRoomFor_35 (by decide) (fun c_35 => ?_) (fun c_35 => ?_)
          · skip
            refine aw_aload_n (pc := 46) (i := 0) (x := ad 1) F dG_hasRoomFor_46 rfl rfl ?_
            refine aw_get (pc := 47) (v := .int (P.1 5)) F 1 rfl rfl 14 (by decide) (fun w h => mw (iw_G w h)) (mw wd_110) rfl dG_hasRoomFor_47 ?_
            refine aw_aload_n (pc := 50) (i := 0) (x := ad 1) F dG_hasRoomFor_50 rfl rfl ?_
            refine aw_goV (pc := 51) (As := []) (rest := [.int (P.1 5)]) F zC_ok Zs 1 rfl rfl (tG_nextWeight  S P X  hS hL) (cwV 0 F.1.2.2.2.2 (gi_V wd_345 wd_347 wd_10 wd_65 wd_348) rfl rfl rfl (by decide +kernel) ⟨Nat.le_of_ble_eq_true rfl, Nat.le_of_ble_eq_true rfl⟩) rfl (Nat.le_of_ble_eq_true rfl) ⟨Nat.zero_le _, Nat.zero_le _⟩ rfl dG_hasRoomFor_51 ?_
            show aW _ _ _ _ _ _ _ _ _ _ _ _ _ _ _ _ _ _ _ _ _ [.int (fp_nextWeight P), .int (P.1 5)]
            refine aw_iadd (pc := 54) F dG_hasRoomFor_54 ?_
            refine aw_sipush (pc := 55) (v := 360) F dG_hasRoomFor_55 (by decide) ?_
            refine aw_icmp_gt (pc := 58) F 65 dG_hasRoomFor_58 (by decide) (fun c_58 => ?_) (fun c_58 => ?_)
            · skip
              refine aw_iconst (pc := 65) (v := 0) F dG_hasRoomFor_65 (by decide) ?_
              exact aw_zret (pc := 66) F hr hlk dG_hasRoomFor_66 rfl (by rw [fp_hasRoomFor, if_neg c_6, if_neg c_15, if_pos c_20, if_neg c_29, if_neg c_35, if_pos c_58]) rfl
            · skip
              refine aw_iconst (pc := 61) (v := 1) F dG_hasRoomFor_61 (by decide) ?_
              refine aw_goto (pc := 62) F 66 dG_hasRoomFor_62 (by decide) ?_
              exact aw_zret (pc := 66) F hr hlk dG_hasRoomFor_66 rfl (by rw [fp_hasRoomFor, if_neg c_6, if_neg c_15, if_pos c_20, if_neg c_29, if_neg c_35, if_neg c_58]) rfl
          · skip
            refine aw_aload_n (pc := 38) (i := 0) (x := ad 1) F dG_hasRoomFor_38 rfl rfl ?_
            refine aw_goV (pc := 39) (As := []) (rest := []) F zC_ok Zs 1 rfl rfl (tG_trapsAround  S P X  hS hL) (cwV 0 F.1.2.2.2.2 (gi_V wd_313 wd_315 wd_6 wd_65 wd_316) rfl rfl rfl (by decide +kernel) ⟨Nat.le_of_ble_eq_true rfl, Nat.le_of_ble_eq_true rfl⟩) rfl (Nat.le_of_ble_eq_true rfl) ⟨Nat.zero_le _, Nat.zero_le _⟩ rfl dG_hasRoomFor_39 ?_
            show aW _ _ _ _ _ _ _ _ _ _ _ _ _ _ _ _ _ _ _ _ _ [.int (fp_trapsAround P)]
            refine aw_iconst (pc := 42) (v := 5) F dG_hasRoomFor_42 (by decide) ?_
            refine aw_icmp_ge (pc := 43) F 65 dG_hasRoomFor_43 (by decide) (fun c_43 => ?_) (fun c_43 => ?_)
            · skip
              refine aw_iconst (pc := 65) (v := 0) F dG_hasRoomFor_65 (by decide) ?_
              exact aw_zret (pc := 66) F hr hlk dG_hasRoomFor_66 rfl (by rw [fp_hasRoomFor, if_neg c_6, if_neg c_15, if_pos c_20, if_neg c_29, if_pos c_35, if_pos c_43]) rfl
            · skip
              refine aw_aload_n (pc := 46) (i := 0) (x := ad 1) F dG_hasRoomFor_46 rfl rfl ?_
              refine aw_get (pc := 47) (v := .int (P.1 5)) F 1 rfl rfl 14 (by decide) (fun w h => mw (iw_G w h)) (mw wd_110) rfl dG_hasRoomFor_47 ?_
              refine aw_aload_n (pc := 50) (i := 0) (x := ad 1) F dG_hasRoomFor_50 rfl rfl ?_
              refine aw_goV (pc := 51) (As := []) (rest := [.int (P.1 5)]) F zC_ok Zs 1 rfl rfl (tG_nextWeight  S P X  hS hL) (cwV 0 F.1.2.2.2.2 (gi_V wd_345 wd_347 wd_10 wd_65 wd_348) rfl rfl rfl (by decide +kernel) ⟨Nat.le_of_ble_eq_true rfl, Nat.le_of_ble_eq_true rfl⟩) rfl (Nat.le_of_ble_eq_true rfl) ⟨Nat.zero_le _, Nat.zero_le _⟩ rfl dG_hasRoomFor_51 ?_
              show aW _ _ _ _ _ _ _ _ _ _ _ _ _ _ _ _ _ _ _ _ _ [.int (fp_nextWeight P), .int (P.1 5)]
              refine aw_iadd (pc := 54) F dG_hasRoomFor_54 ?_
              refine aw_sipush (pc := 55) (v := 360) F dG_hasRoomFor_55 (by decide) ?_
              refine aw_icmp_gt (pc := 58) F 65 dG_hasRoomFor_58 (by decide) (fun c_58 => ?_) (fun c_58 => ?_)
              · skip
                refine aw_iconst (pc := 65) (v := 0) F dG_hasRoomFor_65 (by decide) ?_
                exact aw_zret (pc := 66) F hr hlk dG_hasRoomFor_66 rfl (by rw [fp_hasRoomFor, if_neg c_6, if_neg c_15, if_pos c_20, if_neg c_29, if_pos c_35, if_neg c_43, if_pos c_58]) rfl
              · skip
                refine aw_iconst (pc := 61) (v := 1) F dG_hasRoomFor_61 (by decide) ?_
                refine aw_goto (pc := 62) F 66 dG_hasRoomFor_62 (by decide) ?_
                exact aw_zret (pc := 66) F hr hlk dG_hasRoomFor_66 rfl (by rw [fp_hasRoomFor, if_neg c_6, if_neg c_15, if_pos c_20, if_neg c_29, if_pos c_35, if_neg c_43, if_neg c_58]) rfl
def fp_forget (P : pT)  : Int32 × pT :=
  ((P.1 1), (pw (pw (pw (pw (pw (pw P 0 (0 : Int32)) 1 (0 : Int32)) 2 (1 : Int32)) 3 (0 : Int32)) 4 (0 : Int32)) 5 (0 : Int32)))
set_option maxRecDepth 100000 in
set_option maxHeartbeats 4000000 in
theorem tG_forget {l : Launch} {D : va_G} {A : Nat → Prop} {ad : Nat → Nat} {tP : Nat} {cI : ClassId} {tl : List va_E} {tyr : List (ClassId × FieldType)} (S : kT) (P : pT) (X : xT)   : aw_M l yG_forget (Cond.code yG_forget cG_forget 2 (some .int) :: aw_big) 0 D vwCl ((cI, .int) :: tyr) A ad (zC A tP) [.ref (ad 1)] (hC ad cI S P X ++ tl) (some (.int ((fp_forget P).1))) (hC ad cI S ((fp_forget P).2) X ++ tl) := by
  refine aw_met cG_forget 2 (some .int) [some (.ref (ad 1)), none] (by decide) rfl (Nat.le_of_ble_eq_true rfl) rfl ?_
  intro p e s m args below meth c F Zs hr hlk
  refine aw_aload_n (pc := 0) (i := 0) (x := ad 1) F dG_forget_0 rfl rfl ?_
  refine aw_get (pc := 1) (v := .int (P.1 1)) F 1 rfl rfl 10 (by decide) (fun w h => mw (iw_G w h)) (mw wd_102) rfl dG_forget_1 ?_
  refine aw_istore_n (pc := 4) (i := 1) (L' := [some (.ref (ad 1)), some (.int (P.1 1))]) F dG_forget_4 rfl (by decide) rfl ?_
  refine aw_aload_n (pc := 5) (i := 0) (x := ad 1) F dG_forget_5 rfl rfl ?_
  refine aw_iconst (pc := 6) (v := 0) F dG_forget_6 (by decide) ?_
  refine aw_put (pc := 7) (hp' := (hC ad cI S (pw P 0 (0 : Int32)) X ++ tl)) F 1 rfl rfl 9 (by decide) (fun w h => mw (iw_G w h)) tyG tyG_ok nmG (mw wd_101) (ty := .int) rfl (by decide +kernel) rfl rfl (Nat.le_of_ble_eq_true rfl) rfl dG_forget_7 ?_
  refine aw_aload_n (pc := 10) (i := 0) (x := ad 1) F dG_forget_10 rfl rfl ?_
  refine aw_iconst (pc := 11) (v := 0) F dG_forget_11 (by decide) ?_
  refine aw_put (pc := 12) (hp' := (hC ad cI S (pw (pw P 0 (0 : Int32)) 1 (0 : Int32)) X ++ tl)) F 1 rfl rfl 10 (by decide) (fun w h => mw (iw_G w h)) tyG tyG_ok nmG (mw wd_102) (ty := .int) rfl (by decide +kernel) rfl rfl (Nat.le_of_ble_eq_true rfl) rfl dG_forget_12 ?_
  refine aw_aload_n (pc := 15) (i := 0) (x := ad 1) F dG_forget_15 rfl rfl ?_
  refine aw_iconst (pc := 16) (v := 1) F dG_forget_16 (by decide) ?_
  refine aw_put (pc := 17) (hp' := (hC ad cI S (pw (pw (pw P 0 (0 : Int32)) 1 (0 : Int32)) 2 (1 : Int32)) X ++ tl)) F 1 rfl rfl 11 (by decide) (fun w h => mw (iw_G w h)) tyG tyG_ok nmG (mw wd_104) (ty := .int) rfl (by decide +kernel) rfl rfl (Nat.le_of_ble_eq_true rfl) rfl dG_forget_17 ?_
  refine aw_aload_n (pc := 20) (i := 0) (x := ad 1) F dG_forget_20 rfl rfl ?_
  refine aw_iconst (pc := 21) (v := 0) F dG_forget_21 (by decide) ?_
  refine aw_put (pc := 22) (hp' := (hC ad cI S (pw (pw (pw (pw P 0 (0 : Int32)) 1 (0 : Int32)) 2 (1 : Int32)) 3 (0 : Int32)) X ++ tl)) F 1 rfl rfl 12 (by decide) (fun w h => mw (iw_G w h)) tyG tyG_ok nmG (mw wd_106) (ty := .int) rfl (by decide +kernel) rfl rfl (Nat.le_of_ble_eq_true rfl) rfl dG_forget_22 ?_
  refine aw_aload_n (pc := 25) (i := 0) (x := ad 1) F dG_forget_25 rfl rfl ?_
  refine aw_iconst (pc := 26) (v := 0) F dG_forget_26 (by decide) ?_
  refine aw_put (pc := 27) (hp' := (hC ad cI S (pw (pw (pw (pw (pw P 0 (0 : Int32)) 1 (0 : Int32)) 2 (1 : Int32)) 3 (0 : Int32)) 4 (0 : Int32)) X ++ tl)) F 1 rfl rfl 13 (by decide) (fun w h => mw (iw_G w h)) tyG tyG_ok nmG (mw wd_108) (ty := .int) rfl (by decide +kernel) rfl rfl (Nat.le_of_ble_eq_true rfl) rfl dG_forget_27 ?_
  refine aw_aload_n (pc := 30) (i := 0) (x := ad 1) F dG_forget_30 rfl rfl ?_
  refine aw_iconst (pc := 31) (v := 0) F dG_forget_31 (by decide) ?_
  refine aw_put (pc := 32) (hp' := (hC ad cI S (pw (pw (pw (pw (pw (pw P 0 (0 : Int32)) 1 (0 : Int32)) 2 (1 : Int32)) 3 (0 : Int32)) 4 (0 : Int32)) 5 (0 : Int32)) X ++ tl)) F 1 rfl rfl 14 (by decide) (fun w h => mw (iw_G w h)) tyG tyG_ok nmG (mw wd_110) (ty := .int) rfl (by decide +kernel) rfl rfl (Nat.le_of_ble_eq_true rfl) rfl dG_forget_32 ?_
  refine aw_iload_n (pc := 35) (i := 1) (x := (P.1 1)) F dG_forget_35 rfl rfl ?_
  exact aw_iret (pc := 36) F hr hlk dG_forget_36 (by first | rfl | (unfold fp_forget; rfl)) (by first | rfl | (unfold fp_forget; rfl))
end
