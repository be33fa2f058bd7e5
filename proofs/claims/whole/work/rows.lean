section
-- ===== PART A: goes FIRST, ahead of the names: the tables' words, and 'selects' of the private methods out of them =====
/-- a private method of a class that the tables say can be made, by its rows of tables_1 -/
def lw_okq (q : MethodName × Nat) : Prop := (q.1.cls ≠ "java/lang/invoke/MethodHandle" ∧ q.1.cls ≠ "java/lang/invoke/VarHandle") ∧ Cond.instantiable q.1.cls q.2 ∈ tables_1 ∧ Cond.privateMethod q.1 ∈ tables_1 ∧ Cond.instanceMethod q.1 ∈ tables_1
theorem lw_p0 : lw_okq (⟨"SpillQueue$Runs", "keysInAll", "()I"⟩, 8) := ⟨⟨by decide +kernel, by decide +kernel⟩, List.mem_of_getElem? (i := 77) (by decide +kernel), List.mem_of_getElem? (i := 183) (by decide +kernel), List.mem_of_getElem? (i := 184) (by decide +kernel)⟩
theorem lw_p1 : lw_okq (⟨"java/lang/Throwable", "fillInStackTrace", "(I)Ljava/lang/Throwable;"⟩, 6) := ⟨⟨by decide +kernel, by decide +kernel⟩, List.mem_of_getElem? (i := 233) (by decide +kernel), List.mem_of_getElem? (i := 231) (by decide +kernel), List.mem_of_getElem? (i := 232) (by decide +kernel)⟩
theorem lw_p2 : lw_okq (⟨"SpillQueue", "powerOff", "()V"⟩, 10) := ⟨⟨by decide +kernel, by decide +kernel⟩, List.mem_of_getElem? (i := 19) (by decide +kernel), List.mem_of_getElem? (i := 266) (by decide +kernel), List.mem_of_getElem? (i := 267) (by decide +kernel)⟩
theorem lw_p3 : lw_okq (⟨"SpillQueue$Memory", "clear", "()V"⟩, 3) := ⟨⟨by decide +kernel, by decide +kernel⟩, List.mem_of_getElem? (i := 57) (by decide +kernel), List.mem_of_getElem? (i := 270) (by decide +kernel), List.mem_of_getElem? (i := 271) (by decide +kernel)⟩
theorem lw_p4 : lw_okq (⟨"SpillQueue$Runs", "clear", "()V"⟩, 8) := ⟨⟨by decide +kernel, by decide +kernel⟩, List.mem_of_getElem? (i := 77) (by decide +kernel), List.mem_of_getElem? (i := 274) (by decide +kernel), List.mem_of_getElem? (i := 275) (by decide +kernel)⟩
theorem lw_p5 : lw_okq (⟨"SpillQueue$BlockSet", "clear", "()V"⟩, 1) := ⟨⟨by decide +kernel, by decide +kernel⟩, List.mem_of_getElem? (i := 125) (by decide +kernel), List.mem_of_getElem? (i := 278) (by decide +kernel), List.mem_of_getElem? (i := 279) (by decide +kernel)⟩
theorem lw_p6 : lw_okq (⟨"SpillQueue$Disk", "renew", "(II)V"⟩, 6) := ⟨⟨by decide +kernel, by decide +kernel⟩, List.mem_of_getElem? (i := 27) (by decide +kernel), List.mem_of_getElem? (i := 282) (by decide +kernel), List.mem_of_getElem? (i := 283) (by decide +kernel)⟩
theorem lw_p7 : lw_okq (⟨"SpillQueue", "writeNextEpoch", "()I"⟩, 10) := ⟨⟨by decide +kernel, by decide +kernel⟩, List.mem_of_getElem? (i := 19) (by decide +kernel), List.mem_of_getElem? (i := 289) (by decide +kernel), List.mem_of_getElem? (i := 290) (by decide +kernel)⟩
theorem lw_p8 : lw_okq (⟨"SpillQueue$Superblocks", "store", "(ILSpillQueue$Runs;)Z"⟩, 2) := ⟨⟨by decide +kernel, by decide +kernel⟩, List.mem_of_getElem? (i := 119) (by decide +kernel), List.mem_of_getElem? (i := 293) (by decide +kernel), List.mem_of_getElem? (i := 294) (by decide +kernel)⟩
theorem lw_p9 : lw_okq (⟨"SpillQueue$Disk", "clearRow", "()V"⟩, 6) := ⟨⟨by decide +kernel, by decide +kernel⟩, List.mem_of_getElem? (i := 27) (by decide +kernel), List.mem_of_getElem? (i := 297) (by decide +kernel), List.mem_of_getElem? (i := 298) (by decide +kernel)⟩
theorem lw_p10 : lw_okq (⟨"SpillQueue$Disk", "setRow", "(II)V"⟩, 6) := ⟨⟨by decide +kernel, by decide +kernel⟩, List.mem_of_getElem? (i := 27) (by decide +kernel), List.mem_of_getElem? (i := 301) (by decide +kernel), List.mem_of_getElem? (i := 302) (by decide +kernel)⟩
theorem lw_p11 : lw_okq (⟨"SpillQueue$Disk", "writeRow", "(I)Z"⟩, 6) := ⟨⟨by decide +kernel, by decide +kernel⟩, List.mem_of_getElem? (i := 27) (by decide +kernel), List.mem_of_getElem? (i := 305) (by decide +kernel), List.mem_of_getElem? (i := 306) (by decide +kernel)⟩
theorem lw_p12 : lw_okq (⟨"SpillQueue$Disk", "sumOf", "(I)I"⟩, 6) := ⟨⟨by decide +kernel, by decide +kernel⟩, List.mem_of_getElem? (i := 27) (by decide +kernel), List.mem_of_getElem? (i := 312) (by decide +kernel), List.mem_of_getElem? (i := 313) (by decide +kernel)⟩
theorem lw_p13 : lw_okq (⟨"SpillQueue$Runs", "markBlocks", "(LSpillQueue$BlockSet;)V"⟩, 8) := ⟨⟨by decide +kernel, by decide +kernel⟩, List.mem_of_getElem? (i := 77) (by decide +kernel), List.mem_of_getElem? (i := 316) (by decide +kernel), List.mem_of_getElem? (i := 317) (by decide +kernel)⟩
theorem lw_p14 : lw_okq (⟨"SpillQueue$BlockSet", "add", "(I)V"⟩, 1) := ⟨⟨by decide +kernel, by decide +kernel⟩, List.mem_of_getElem? (i := 125) (by decide +kernel), List.mem_of_getElem? (i := 320) (by decide +kernel), List.mem_of_getElem? (i := 321) (by decide +kernel)⟩
theorem lw_p15 : lw_okq (⟨"SpillQueue$Disk", "get", "(II)I"⟩, 6) := ⟨⟨by decide +kernel, by decide +kernel⟩, List.mem_of_getElem? (i := 27) (by decide +kernel), List.mem_of_getElem? (i := 324) (by decide +kernel), List.mem_of_getElem? (i := 325) (by decide +kernel)⟩
def lw_privs_1 : List (MethodName × Nat) := [(⟨"SpillQueue$Runs", "keysInAll", "()I"⟩, 8), (⟨"java/lang/Throwable", "fillInStackTrace", "(I)Ljava/lang/Throwable;"⟩, 6), (⟨"SpillQueue", "powerOff", "()V"⟩, 10), (⟨"SpillQueue$Memory", "clear", "()V"⟩, 3), (⟨"SpillQueue$Runs", "clear", "()V"⟩, 8), (⟨"SpillQueue$BlockSet", "clear", "()V"⟩, 1), (⟨"SpillQueue$Disk", "renew", "(II)V"⟩, 6), (⟨"SpillQueue", "writeNextEpoch", "()I"⟩, 10), (⟨"SpillQueue$Superblocks", "store", "(ILSpillQueue$Runs;)Z"⟩, 2), (⟨"SpillQueue$Disk", "clearRow", "()V"⟩, 6), (⟨"SpillQueue$Disk", "setRow", "(II)V"⟩, 6), (⟨"SpillQueue$Disk", "writeRow", "(I)Z"⟩, 6), (⟨"SpillQueue$Disk", "sumOf", "(I)I"⟩, 6), (⟨"SpillQueue$Runs", "markBlocks", "(LSpillQueue$BlockSet;)V"⟩, 8), (⟨"SpillQueue$BlockSet", "add", "(I)V"⟩, 1), (⟨"SpillQueue$Disk", "get", "(II)I"⟩, 6)]
theorem lw_r1 : ∀ q ∈ lw_privs_1, lw_okq q := List.forall_mem_cons.mpr ⟨lw_p0, List.forall_mem_cons.mpr ⟨lw_p1, List.forall_mem_cons.mpr ⟨lw_p2, List.forall_mem_cons.mpr ⟨lw_p3, List.forall_mem_cons.mpr ⟨lw_p4, List.forall_mem_cons.mpr ⟨lw_p5, List.forall_mem_cons.mpr ⟨lw_p6, List.forall_mem_cons.mpr ⟨lw_p7, List.forall_mem_cons.mpr ⟨lw_p8, List.forall_mem_cons.mpr ⟨lw_p9, List.forall_mem_cons.mpr ⟨lw_p10, List.forall_mem_cons.mpr ⟨lw_p11, List.forall_mem_cons.mpr ⟨lw_p12, List.forall_mem_cons.mpr ⟨lw_p13, List.forall_mem_cons.mpr ⟨lw_p14, List.forall_mem_cons.mpr ⟨lw_p15, fun _ h => absurd h List.not_mem_nil⟩⟩⟩⟩⟩⟩⟩⟩⟩⟩⟩⟩⟩⟩⟩⟩
theorem lw_p16 : lw_okq (⟨"SpillQueue", "requireLive", "()V"⟩, 10) := ⟨⟨by decide +kernel, by decide +kernel⟩, List.mem_of_getElem? (i := 19) (by decide +kernel), List.mem_of_getElem? (i := 336) (by decide +kernel), List.mem_of_getElem? (i := 337) (by decide +kernel)⟩
theorem lw_p17 : lw_okq (⟨"SpillQueue$Memory", "isFull", "()Z"⟩, 3) := ⟨⟨by decide +kernel, by decide +kernel⟩, List.mem_of_getElem? (i := 57) (by decide +kernel), List.mem_of_getElem? (i := 357) (by decide +kernel), List.mem_of_getElem? (i := 358) (by decide +kernel)⟩
theorem lw_p18 : lw_okq (⟨"SpillQueue", "spill", "()I"⟩, 10) := ⟨⟨by decide +kernel, by decide +kernel⟩, List.mem_of_getElem? (i := 19) (by decide +kernel), List.mem_of_getElem? (i := 361) (by decide +kernel), List.mem_of_getElem? (i := 362) (by decide +kernel)⟩
theorem lw_p19 : lw_okq (⟨"SpillQueue$Disk", "mostRuns", "()I"⟩, 6) := ⟨⟨by decide +kernel, by decide +kernel⟩, List.mem_of_getElem? (i := 27) (by decide +kernel), List.mem_of_getElem? (i := 365) (by decide +kernel), List.mem_of_getElem? (i := 366) (by decide +kernel)⟩
theorem lw_p20 : lw_okq (⟨"SpillQueue$Runs", "chooseAll", "()V"⟩, 8) := ⟨⟨by decide +kernel, by decide +kernel⟩, List.mem_of_getElem? (i := 77) (by decide +kernel), List.mem_of_getElem? (i := 369) (by decide +kernel), List.mem_of_getElem? (i := 370) (by decide +kernel)⟩
theorem lw_p21 : lw_okq (⟨"SpillQueue$Runs", "greatestLevel", "()I"⟩, 8) := ⟨⟨by decide +kernel, by decide +kernel⟩, List.mem_of_getElem? (i := 77) (by decide +kernel), List.mem_of_getElem? (i := 373) (by decide +kernel), List.mem_of_getElem? (i := 374) (by decide +kernel)⟩
theorem lw_p22 : lw_okq (⟨"SpillQueue", "makeRun", "(LSpillQueue$Keys;I)I"⟩, 10) := ⟨⟨by decide +kernel, by decide +kernel⟩, List.mem_of_getElem? (i := 19) (by decide +kernel), List.mem_of_getElem? (i := 380) (by decide +kernel), List.mem_of_getElem? (i := 381) (by decide +kernel)⟩
theorem lw_p23 : lw_okq (⟨"SpillQueue$Disk", "blocksFor", "(I)I"⟩, 6) := ⟨⟨by decide +kernel, by decide +kernel⟩, List.mem_of_getElem? (i := 27) (by decide +kernel), List.mem_of_getElem? (i := 391) (by decide +kernel), List.mem_of_getElem? (i := 392) (by decide +kernel)⟩
theorem lw_p24 : lw_okq (⟨"SpillQueue$Disk", "keysPerBlock", "()I"⟩, 6) := ⟨⟨by decide +kernel, by decide +kernel⟩, List.mem_of_getElem? (i := 27) (by decide +kernel), List.mem_of_getElem? (i := 395) (by decide +kernel), List.mem_of_getElem? (i := 396) (by decide +kernel)⟩
theorem lw_p25 : lw_okq (⟨"SpillQueue", "gatherFree", "()I"⟩, 10) := ⟨⟨by decide +kernel, by decide +kernel⟩, List.mem_of_getElem? (i := 19) (by decide +kernel), List.mem_of_getElem? (i := 399) (by decide +kernel), List.mem_of_getElem? (i := 400) (by decide +kernel)⟩
theorem lw_p26 : lw_okq (⟨"SpillQueue$BlockSet", "copyOf", "(LSpillQueue$BlockSet;)V"⟩, 1) := ⟨⟨by decide +kernel, by decide +kernel⟩, List.mem_of_getElem? (i := 125) (by decide +kernel), List.mem_of_getElem? (i := 403) (by decide +kernel), List.mem_of_getElem? (i := 404) (by decide +kernel)⟩
theorem lw_p27 : lw_okq (⟨"SpillQueue$BlockSet", "has", "(I)Z"⟩, 1) := ⟨⟨by decide +kernel, by decide +kernel⟩, List.mem_of_getElem? (i := 125) (by decide +kernel), List.mem_of_getElem? (i := 407) (by decide +kernel), List.mem_of_getElem? (i := 408) (by decide +kernel)⟩
theorem lw_p28 : lw_okq (⟨"SpillQueue$Memory", "least", "()I"⟩, 3) := ⟨⟨by decide +kernel, by decide +kernel⟩, List.mem_of_getElem? (i := 57) (by decide +kernel), List.mem_of_getElem? (i := 424) (by decide +kernel), List.mem_of_getElem? (i := 425) (by decide +kernel)⟩
theorem lw_p29 : lw_okq (⟨"SpillQueue$Runs", "leastAt", "(Z)I"⟩, 8) := ⟨⟨by decide +kernel, by decide +kernel⟩, List.mem_of_getElem? (i := 77) (by decide +kernel), List.mem_of_getElem? (i := 431) (by decide +kernel), List.mem_of_getElem? (i := 432) (by decide +kernel)⟩
theorem lw_p30 : lw_okq (⟨"SpillQueue$Runs", "takeFrom", "(I)I"⟩, 8) := ⟨⟨by decide +kernel, by decide +kernel⟩, List.mem_of_getElem? (i := 77) (by decide +kernel), List.mem_of_getElem? (i := 435) (by decide +kernel), List.mem_of_getElem? (i := 436) (by decide +kernel)⟩
theorem lw_p31 : lw_okq (⟨"SpillQueue$Runs", "has", "(I)Z"⟩, 8) := ⟨⟨by decide +kernel, by decide +kernel⟩, List.mem_of_getElem? (i := 77) (by decide +kernel), List.mem_of_getElem? (i := 439) (by decide +kernel), List.mem_of_getElem? (i := 440) (by decide +kernel)⟩
def lw_privs_2 : List (MethodName × Nat) := [(⟨"SpillQueue", "requireLive", "()V"⟩, 10), (⟨"SpillQueue$Memory", "isFull", "()Z"⟩, 3), (⟨"SpillQueue", "spill", "()I"⟩, 10), (⟨"SpillQueue$Disk", "mostRuns", "()I"⟩, 6), (⟨"SpillQueue$Runs", "chooseAll", "()V"⟩, 8), (⟨"SpillQueue$Runs", "greatestLevel", "()I"⟩, 8), (⟨"SpillQueue", "makeRun", "(LSpillQueue$Keys;I)I"⟩, 10), (⟨"SpillQueue$Disk", "blocksFor", "(I)I"⟩, 6), (⟨"SpillQueue$Disk", "keysPerBlock", "()I"⟩, 6), (⟨"SpillQueue", "gatherFree", "()I"⟩, 10), (⟨"SpillQueue$BlockSet", "copyOf", "(LSpillQueue$BlockSet;)V"⟩, 1), (⟨"SpillQueue$BlockSet", "has", "(I)Z"⟩, 1), (⟨"SpillQueue$Memory", "least", "()I"⟩, 3), (⟨"SpillQueue$Runs", "leastAt", "(Z)I"⟩, 8), (⟨"SpillQueue$Runs", "takeFrom", "(I)I"⟩, 8), (⟨"SpillQueue$Runs", "has", "(I)Z"⟩, 8)]
theorem lw_r2 : ∀ q ∈ lw_privs_2, lw_okq q := List.forall_mem_cons.mpr ⟨lw_p16, List.forall_mem_cons.mpr ⟨lw_p17, List.forall_mem_cons.mpr ⟨lw_p18, List.forall_mem_cons.mpr ⟨lw_p19, List.forall_mem_cons.mpr ⟨lw_p20, List.forall_mem_cons.mpr ⟨lw_p21, List.forall_mem_cons.mpr ⟨lw_p22, List.forall_mem_cons.mpr ⟨lw_p23, List.forall_mem_cons.mpr ⟨lw_p24, List.forall_mem_cons.mpr ⟨lw_p25, List.forall_mem_cons.mpr ⟨lw_p26, List.forall_mem_cons.mpr ⟨lw_p27, List.forall_mem_cons.mpr ⟨lw_p28, List.forall_mem_cons.mpr ⟨lw_p29, List.forall_mem_cons.mpr ⟨lw_p30, List.forall_mem_cons.mpr ⟨lw_p31, fun _ h => absurd h List.not_mem_nil⟩⟩⟩⟩⟩⟩⟩⟩⟩⟩⟩⟩⟩⟩⟩⟩
theorem lw_p32 : lw_okq (⟨"SpillQueue$Runs", "dropEmpty", "()V"⟩, 8) := ⟨⟨by decide +kernel, by decide +kernel⟩, List.mem_of_getElem? (i := 77) (by decide +kernel), List.mem_of_getElem? (i := 445) (by decide +kernel), List.mem_of_getElem? (i := 446) (by decide +kernel)⟩
theorem lw_p33 : lw_okq (⟨"SpillQueue$Runs", "add", "(IIII)V"⟩, 8) := ⟨⟨by decide +kernel, by decide +kernel⟩, List.mem_of_getElem? (i := 77) (by decide +kernel), List.mem_of_getElem? (i := 449) (by decide +kernel), List.mem_of_getElem? (i := 450) (by decide +kernel)⟩
theorem lw_p34 : lw_okq (⟨"SpillQueue", "mergeCrowdedLevels", "()I"⟩, 10) := ⟨⟨by decide +kernel, by decide +kernel⟩, List.mem_of_getElem? (i := 19) (by decide +kernel), List.mem_of_getElem? (i := 453) (by decide +kernel), List.mem_of_getElem? (i := 454) (by decide +kernel)⟩
theorem lw_p35 : lw_okq (⟨"SpillQueue$Runs", "crowdedAt", "(I)I"⟩, 8) := ⟨⟨by decide +kernel, by decide +kernel⟩, List.mem_of_getElem? (i := 77) (by decide +kernel), List.mem_of_getElem? (i := 457) (by decide +kernel), List.mem_of_getElem? (i := 458) (by decide +kernel)⟩
theorem lw_p36 : lw_okq (⟨"SpillQueue$Runs", "runsAtLevelOf", "(I)I"⟩, 8) := ⟨⟨by decide +kernel, by decide +kernel⟩, List.mem_of_getElem? (i := 77) (by decide +kernel), List.mem_of_getElem? (i := 461) (by decide +kernel), List.mem_of_getElem? (i := 462) (by decide +kernel)⟩
theorem lw_p37 : lw_okq (⟨"SpillQueue$Runs", "chooseLevel", "(I)V"⟩, 8) := ⟨⟨by decide +kernel, by decide +kernel⟩, List.mem_of_getElem? (i := 77) (by decide +kernel), List.mem_of_getElem? (i := 465) (by decide +kernel), List.mem_of_getElem? (i := 466) (by decide +kernel)⟩
theorem lw_p38 : lw_okq (⟨"SpillQueue$Memory", "add", "(I)V"⟩, 3) := ⟨⟨by decide +kernel, by decide +kernel⟩, List.mem_of_getElem? (i := 57) (by decide +kernel), List.mem_of_getElem? (i := 469) (by decide +kernel), List.mem_of_getElem? (i := 470) (by decide +kernel)⟩
theorem lw_p39 : lw_okq (⟨"SpillQueue", "isLeastInMemory", "(I)Z"⟩, 10) := ⟨⟨by decide +kernel, by decide +kernel⟩, List.mem_of_getElem? (i := 19) (by decide +kernel), List.mem_of_getElem? (i := 481) (by decide +kernel), List.mem_of_getElem? (i := 482) (by decide +kernel)⟩
theorem lw_p40 : lw_okq (⟨"SpillQueue$Runs", "headOf", "(I)I"⟩, 8) := ⟨⟨by decide +kernel, by decide +kernel⟩, List.mem_of_getElem? (i := 77) (by decide +kernel), List.mem_of_getElem? (i := 486) (by decide +kernel), List.mem_of_getElem? (i := 487) (by decide +kernel)⟩
theorem lw_p41 : lw_okq (⟨"SpillQueue", "requireDisk", "()V"⟩, 10) := ⟨⟨by decide +kernel, by decide +kernel⟩, List.mem_of_getElem? (i := 19) (by decide +kernel), List.mem_of_getElem? (i := 521) (by decide +kernel), List.mem_of_getElem? (i := 522) (by decide +kernel)⟩
theorem lw_p42 : lw_okq (⟨"SpillQueue$Superblocks", "newestGood", "()I"⟩, 2) := ⟨⟨by decide +kernel, by decide +kernel⟩, List.mem_of_getElem? (i := 119) (by decide +kernel), List.mem_of_getElem? (i := 533) (by decide +kernel), List.mem_of_getElem? (i := 534) (by decide +kernel)⟩
theorem lw_p43 : lw_okq (⟨"SpillQueue$Superblocks", "isGood", "(I)Z"⟩, 2) := ⟨⟨by decide +kernel, by decide +kernel⟩, List.mem_of_getElem? (i := 119) (by decide +kernel), List.mem_of_getElem? (i := 537) (by decide +kernel), List.mem_of_getElem? (i := 538) (by decide +kernel)⟩
theorem lw_p44 : lw_okq (⟨"SpillQueue$Superblocks", "epochOf", "(I)I"⟩, 2) := ⟨⟨by decide +kernel, by decide +kernel⟩, List.mem_of_getElem? (i := 119) (by decide +kernel), List.mem_of_getElem? (i := 541) (by decide +kernel), List.mem_of_getElem? (i := 542) (by decide +kernel)⟩
theorem lw_p45 : lw_okq (⟨"SpillQueue$Superblocks", "isRunRight", "(II)Z"⟩, 2) := ⟨⟨by decide +kernel, by decide +kernel⟩, List.mem_of_getElem? (i := 119) (by decide +kernel), List.mem_of_getElem? (i := 549) (by decide +kernel), List.mem_of_getElem? (i := 550) (by decide +kernel)⟩
theorem lw_p46 : lw_okq (⟨"SpillQueue$Superblocks", "isChainRight", "(III)Z"⟩, 2) := ⟨⟨by decide +kernel, by decide +kernel⟩, List.mem_of_getElem? (i := 119) (by decide +kernel), List.mem_of_getElem? (i := 554) (by decide +kernel), List.mem_of_getElem? (i := 555) (by decide +kernel)⟩
theorem lw_p47 : lw_okq (⟨"SpillQueue$Superblocks", "isNewRightBlock", "(I)Z"⟩, 2) := ⟨⟨by decide +kernel, by decide +kernel⟩, List.mem_of_getElem? (i := 119) (by decide +kernel), List.mem_of_getElem? (i := 559) (by decide +kernel), List.mem_of_getElem? (i := 560) (by decide +kernel)⟩
def lw_privs_3 : List (MethodName × Nat) := [(⟨"SpillQueue$Runs", "dropEmpty", "()V"⟩, 8), (⟨"SpillQueue$Runs", "add", "(IIII)V"⟩, 8), (⟨"SpillQueue", "mergeCrowdedLevels", "()I"⟩, 10), (⟨"SpillQueue$Runs", "crowdedAt", "(I)I"⟩, 8), (⟨"SpillQueue$Runs", "runsAtLevelOf", "(I)I"⟩, 8), (⟨"SpillQueue$Runs", "chooseLevel", "(I)V"⟩, 8), (⟨"SpillQueue$Memory", "add", "(I)V"⟩, 3), (⟨"SpillQueue", "isLeastInMemory", "(I)Z"⟩, 10), (⟨"SpillQueue$Runs", "headOf", "(I)I"⟩, 8), (⟨"SpillQueue", "requireDisk", "()V"⟩, 10), (⟨"SpillQueue$Superblocks", "newestGood", "()I"⟩, 2), (⟨"SpillQueue$Superblocks", "isGood", "(I)Z"⟩, 2), (⟨"SpillQueue$Superblocks", "epochOf", "(I)I"⟩, 2), (⟨"SpillQueue$Superblocks", "isRunRight", "(II)Z"⟩, 2), (⟨"SpillQueue$Superblocks", "isChainRight", "(III)Z"⟩, 2), (⟨"SpillQueue$Superblocks", "isNewRightBlock", "(I)Z"⟩, 2)]
theorem lw_r3 : ∀ q ∈ lw_privs_3, lw_okq q := List.forall_mem_cons.mpr ⟨lw_p32, List.forall_mem_cons.mpr ⟨lw_p33, List.forall_mem_cons.mpr ⟨lw_p34, List.forall_mem_cons.mpr ⟨lw_p35, List.forall_mem_cons.mpr ⟨lw_p36, List.forall_mem_cons.mpr ⟨lw_p37, List.forall_mem_cons.mpr ⟨lw_p38, List.forall_mem_cons.mpr ⟨lw_p39, List.forall_mem_cons.mpr ⟨lw_p40, List.forall_mem_cons.mpr ⟨lw_p41, List.forall_mem_cons.mpr ⟨lw_p42, List.forall_mem_cons.mpr ⟨lw_p43, List.forall_mem_cons.mpr ⟨lw_p44, List.forall_mem_cons.mpr ⟨lw_p45, List.forall_mem_cons.mpr ⟨lw_p46, List.forall_mem_cons.mpr ⟨lw_p47, fun _ h => absurd h List.not_mem_nil⟩⟩⟩⟩⟩⟩⟩⟩⟩⟩⟩⟩⟩⟩⟩⟩
theorem lw_p48 : lw_okq (⟨"SpillQueue$Superblocks", "lastOfRising", "(IIII)I"⟩, 2) := ⟨⟨by decide +kernel, by decide +kernel⟩, List.mem_of_getElem? (i := 119) (by decide +kernel), List.mem_of_getElem? (i := 566) (by decide +kernel), List.mem_of_getElem? (i := 567) (by decide +kernel)⟩
theorem lw_p49 : lw_okq (⟨"SpillQueue$Superblocks", "load", "(ILSpillQueue$Runs;)V"⟩, 2) := ⟨⟨by decide +kernel, by decide +kernel⟩, List.mem_of_getElem? (i := 119) (by decide +kernel), List.mem_of_getElem? (i := 570) (by decide +kernel), List.mem_of_getElem? (i := 571) (by decide +kernel)⟩
theorem lw_p50 : lw_okq (⟨"SpillQueue", "requireWord", "(II)V"⟩, 10) := ⟨⟨by decide +kernel, by decide +kernel⟩, List.mem_of_getElem? (i := 19) (by decide +kernel), List.mem_of_getElem? (i := 617) (by decide +kernel), List.mem_of_getElem? (i := 618) (by decide +kernel)⟩
theorem lw_p51 : lw_okq (⟨"SpillQueue$Disk", "has", "(II)Z"⟩, 6) := ⟨⟨by decide +kernel, by decide +kernel⟩, List.mem_of_getElem? (i := 27) (by decide +kernel), List.mem_of_getElem? (i := 621) (by decide +kernel), List.mem_of_getElem? (i := 622) (by decide +kernel)⟩
theorem lw_p52 : lw_okq (⟨"SpillQueue$Disk", "turnOver", "(III)V"⟩, 6) := ⟨⟨by decide +kernel, by decide +kernel⟩, List.mem_of_getElem? (i := 27) (by decide +kernel), List.mem_of_getElem? (i := 635) (by decide +kernel), List.mem_of_getElem? (i := 636) (by decide +kernel)⟩
theorem lw_p53 : lw_okq (⟨"SpillQueueModel", "writeSuper", "()V"⟩, 27) := ⟨⟨by decide +kernel, by decide +kernel⟩, List.mem_of_getElem? (i := 640) (by decide +kernel), List.mem_of_getElem? (i := 739) (by decide +kernel), List.mem_of_getElem? (i := 740) (by decide +kernel)⟩
theorem lw_p54 : lw_okq (⟨"SpillQueueModel", "clearRow", "()V"⟩, 27) := ⟨⟨by decide +kernel, by decide +kernel⟩, List.mem_of_getElem? (i := 640) (by decide +kernel), List.mem_of_getElem? (i := 743) (by decide +kernel), List.mem_of_getElem? (i := 744) (by decide +kernel)⟩
theorem lw_p55 : lw_okq (⟨"SpillQueueModel", "write", "(I)V"⟩, 27) := ⟨⟨by decide +kernel, by decide +kernel⟩, List.mem_of_getElem? (i := 640) (by decide +kernel), List.mem_of_getElem? (i := 747) (by decide +kernel), List.mem_of_getElem? (i := 748) (by decide +kernel)⟩
theorem lw_p56 : lw_okq (⟨"SpillQueueModel", "sumOf", "(I)I"⟩, 27) := ⟨⟨by decide +kernel, by decide +kernel⟩, List.mem_of_getElem? (i := 640) (by decide +kernel), List.mem_of_getElem? (i := 751) (by decide +kernel), List.mem_of_getElem? (i := 752) (by decide +kernel)⟩
theorem lw_p57 : lw_okq (⟨"SpillQueueModel", "at", "(II)I"⟩, 27) := ⟨⟨by decide +kernel, by decide +kernel⟩, List.mem_of_getElem? (i := 640) (by decide +kernel), List.mem_of_getElem? (i := 755) (by decide +kernel), List.mem_of_getElem? (i := 756) (by decide +kernel)⟩
theorem lw_p58 : lw_okq (⟨"SpillQueueModel", "markTaken", "()V"⟩, 27) := ⟨⟨by decide +kernel, by decide +kernel⟩, List.mem_of_getElem? (i := 640) (by decide +kernel), List.mem_of_getElem? (i := 759) (by decide +kernel), List.mem_of_getElem? (i := 760) (by decide +kernel)⟩
theorem lw_p59 : lw_okq (⟨"SpillQueueModel", "blocksOf", "(II)I"⟩, 27) := ⟨⟨by decide +kernel, by decide +kernel⟩, List.mem_of_getElem? (i := 640) (by decide +kernel), List.mem_of_getElem? (i := 763) (by decide +kernel), List.mem_of_getElem? (i := 764) (by decide +kernel)⟩
theorem lw_p60 : lw_okq (⟨"SpillQueueModel", "room", "()I"⟩, 27) := ⟨⟨by decide +kernel, by decide +kernel⟩, List.mem_of_getElem? (i := 640) (by decide +kernel), List.mem_of_getElem? (i := 767) (by decide +kernel), List.mem_of_getElem? (i := 768) (by decide +kernel)⟩
theorem lw_p61 : lw_okq (⟨"SpillQueueModel", "spill", "()Z"⟩, 27) := ⟨⟨by decide +kernel, by decide +kernel⟩, List.mem_of_getElem? (i := 640) (by decide +kernel), List.mem_of_getElem? (i := 775) (by decide +kernel), List.mem_of_getElem? (i := 776) (by decide +kernel)⟩
theorem lw_p62 : lw_okq (⟨"SpillQueueModel", "most", "()I"⟩, 27) := ⟨⟨by decide +kernel, by decide +kernel⟩, List.mem_of_getElem? (i := 640) (by decide +kernel), List.mem_of_getElem? (i := 779) (by decide +kernel), List.mem_of_getElem? (i := 780) (by decide +kernel)⟩
theorem lw_p63 : lw_okq (⟨"SpillQueueModel", "mergeAll", "()Z"⟩, 27) := ⟨⟨by decide +kernel, by decide +kernel⟩, List.mem_of_getElem? (i := 640) (by decide +kernel), List.mem_of_getElem? (i := 783) (by decide +kernel), List.mem_of_getElem? (i := 784) (by decide +kernel)⟩
def lw_privs_4 : List (MethodName × Nat) := [(⟨"SpillQueue$Superblocks", "lastOfRising", "(IIII)I"⟩, 2), (⟨"SpillQueue$Superblocks", "load", "(ILSpillQueue$Runs;)V"⟩, 2), (⟨"SpillQueue", "requireWord", "(II)V"⟩, 10), (⟨"SpillQueue$Disk", "has", "(II)Z"⟩, 6), (⟨"SpillQueue$Disk", "turnOver", "(III)V"⟩, 6), (⟨"SpillQueueModel", "writeSuper", "()V"⟩, 27), (⟨"SpillQueueModel", "clearRow", "()V"⟩, 27), (⟨"SpillQueueModel", "write", "(I)V"⟩, 27), (⟨"SpillQueueModel", "sumOf", "(I)I"⟩, 27), (⟨"SpillQueueModel", "at", "(II)I"⟩, 27), (⟨"SpillQueueModel", "markTaken", "()V"⟩, 27), (⟨"SpillQueueModel", "blocksOf", "(II)I"⟩, 27), (⟨"SpillQueueModel", "room", "()I"⟩, 27), (⟨"SpillQueueModel", "spill", "()Z"⟩, 27), (⟨"SpillQueueModel", "most", "()I"⟩, 27), (⟨"SpillQueueModel", "mergeAll", "()Z"⟩, 27)]
theorem lw_r4 : ∀ q ∈ lw_privs_4, lw_okq q := List.forall_mem_cons.mpr ⟨lw_p48, List.forall_mem_cons.mpr ⟨lw_p49, List.forall_mem_cons.mpr ⟨lw_p50, List.forall_mem_cons.mpr ⟨lw_p51, List.forall_mem_cons.mpr ⟨lw_p52, List.forall_mem_cons.mpr ⟨lw_p53, List.forall_mem_cons.mpr ⟨lw_p54, List.forall_mem_cons.mpr ⟨lw_p55, List.forall_mem_cons.mpr ⟨lw_p56, List.forall_mem_cons.mpr ⟨lw_p57, List.forall_mem_cons.mpr ⟨lw_p58, List.forall_mem_cons.mpr ⟨lw_p59, List.forall_mem_cons.mpr ⟨lw_p60, List.forall_mem_cons.mpr ⟨lw_p61, List.forall_mem_cons.mpr ⟨lw_p62, List.forall_mem_cons.mpr ⟨lw_p63, fun _ h => absurd h List.not_mem_nil⟩⟩⟩⟩⟩⟩⟩⟩⟩⟩⟩⟩⟩⟩⟩⟩
theorem lw_p64 : lw_okq (⟨"SpillQueueModel", "merge", "(ZII)Z"⟩, 27) := ⟨⟨by decide +kernel, by decide +kernel⟩, List.mem_of_getElem? (i := 640) (by decide +kernel), List.mem_of_getElem? (i := 787) (by decide +kernel), List.mem_of_getElem? (i := 788) (by decide +kernel)⟩
theorem lw_p65 : lw_okq (⟨"SpillQueueModel", "choose", "(I)Z"⟩, 27) := ⟨⟨by decide +kernel, by decide +kernel⟩, List.mem_of_getElem? (i := 640) (by decide +kernel), List.mem_of_getElem? (i := 791) (by decide +kernel), List.mem_of_getElem? (i := 792) (by decide +kernel)⟩
theorem lw_p66 : lw_okq (⟨"SpillQueueModel", "free", "()I"⟩, 27) := ⟨⟨by decide +kernel, by decide +kernel⟩, List.mem_of_getElem? (i := 640) (by decide +kernel), List.mem_of_getElem? (i := 795) (by decide +kernel), List.mem_of_getElem? (i := 796) (by decide +kernel)⟩
theorem lw_p67 : lw_okq (⟨"SpillQueueModel", "isFree", "(I)Z"⟩, 27) := ⟨⟨by decide +kernel, by decide +kernel⟩, List.mem_of_getElem? (i := 640) (by decide +kernel), List.mem_of_getElem? (i := 799) (by decide +kernel), List.mem_of_getElem? (i := 800) (by decide +kernel)⟩
theorem lw_p68 : lw_okq (⟨"SpillQueueModel", "writeKeys", "(IZ)V"⟩, 27) := ⟨⟨by decide +kernel, by decide +kernel⟩, List.mem_of_getElem? (i := 640) (by decide +kernel), List.mem_of_getElem? (i := 803) (by decide +kernel), List.mem_of_getElem? (i := 804) (by decide +kernel)⟩
theorem lw_p69 : lw_okq (⟨"SpillQueueModel", "takeFromMemory", "()I"⟩, 27) := ⟨⟨by decide +kernel, by decide +kernel⟩, List.mem_of_getElem? (i := 640) (by decide +kernel), List.mem_of_getElem? (i := 807) (by decide +kernel), List.mem_of_getElem? (i := 808) (by decide +kernel)⟩
theorem lw_p70 : lw_okq (⟨"SpillQueueModel", "takeFromRuns", "()I"⟩, 27) := ⟨⟨by decide +kernel, by decide +kernel⟩, List.mem_of_getElem? (i := 640) (by decide +kernel), List.mem_of_getElem? (i := 811) (by decide +kernel), List.mem_of_getElem? (i := 812) (by decide +kernel)⟩
theorem lw_p71 : lw_okq (⟨"SpillQueueModel", "headOf", "(I)I"⟩, 27) := ⟨⟨by decide +kernel, by decide +kernel⟩, List.mem_of_getElem? (i := 640) (by decide +kernel), List.mem_of_getElem? (i := 815) (by decide +kernel), List.mem_of_getElem? (i := 816) (by decide +kernel)⟩
theorem lw_p72 : lw_okq (⟨"SpillQueueModel", "dropRun", "(I)V"⟩, 27) := ⟨⟨by decide +kernel, by decide +kernel⟩, List.mem_of_getElem? (i := 640) (by decide +kernel), List.mem_of_getElem? (i := 819) (by decide +kernel), List.mem_of_getElem? (i := 820) (by decide +kernel)⟩
theorem lw_p73 : lw_okq (⟨"SpillQueueModel", "addRun", "(III)V"⟩, 27) := ⟨⟨by decide +kernel, by decide +kernel⟩, List.mem_of_getElem? (i := 640) (by decide +kernel), List.mem_of_getElem? (i := 823) (by decide +kernel), List.mem_of_getElem? (i := 824) (by decide +kernel)⟩
theorem lw_p74 : lw_okq (⟨"SpillQueueModel", "crowded", "()I"⟩, 27) := ⟨⟨by decide +kernel, by decide +kernel⟩, List.mem_of_getElem? (i := 640) (by decide +kernel), List.mem_of_getElem? (i := 827) (by decide +kernel), List.mem_of_getElem? (i := 828) (by decide +kernel)⟩
theorem lw_p75 : lw_okq (⟨"SpillQueueModel", "runsOf", "(I)I"⟩, 27) := ⟨⟨by decide +kernel, by decide +kernel⟩, List.mem_of_getElem? (i := 640) (by decide +kernel), List.mem_of_getElem? (i := 831) (by decide +kernel), List.mem_of_getElem? (i := 832) (by decide +kernel)⟩
theorem lw_p76 : lw_okq (⟨"SpillQueueModel", "after", "(I)I"⟩, 27) := ⟨⟨by decide +kernel, by decide +kernel⟩, List.mem_of_getElem? (i := 640) (by decide +kernel), List.mem_of_getElem? (i := 835) (by decide +kernel), List.mem_of_getElem? (i := 836) (by decide +kernel)⟩
theorem lw_p77 : lw_okq (⟨"SpillQueueModel", "die", "()V"⟩, 27) := ⟨⟨by decide +kernel, by decide +kernel⟩, List.mem_of_getElem? (i := 640) (by decide +kernel), List.mem_of_getElem? (i := 839) (by decide +kernel), List.mem_of_getElem? (i := 840) (by decide +kernel)⟩
theorem lw_p78 : lw_okq (⟨"SpillQueueModel", "leastKey", "()I"⟩, 27) := ⟨⟨by decide +kernel, by decide +kernel⟩, List.mem_of_getElem? (i := 640) (by decide +kernel), List.mem_of_getElem? (i := 847) (by decide +kernel), List.mem_of_getElem? (i := 848) (by decide +kernel)⟩
theorem lw_p79 : lw_okq (⟨"SpillQueueModel", "leastRun", "()I"⟩, 27) := ⟨⟨by decide +kernel, by decide +kernel⟩, List.mem_of_getElem? (i := 640) (by decide +kernel), List.mem_of_getElem? (i := 851) (by decide +kernel), List.mem_of_getElem? (i := 852) (by decide +kernel)⟩
def lw_privs_5 : List (MethodName × Nat) := [(⟨"SpillQueueModel", "merge", "(ZII)Z"⟩, 27), (⟨"SpillQueueModel", "choose", "(I)Z"⟩, 27), (⟨"SpillQueueModel", "free", "()I"⟩, 27), (⟨"SpillQueueModel", "isFree", "(I)Z"⟩, 27), (⟨"SpillQueueModel", "writeKeys", "(IZ)V"⟩, 27), (⟨"SpillQueueModel", "takeFromMemory", "()I"⟩, 27), (⟨"SpillQueueModel", "takeFromRuns", "()I"⟩, 27), (⟨"SpillQueueModel", "headOf", "(I)I"⟩, 27), (⟨"SpillQueueModel", "dropRun", "(I)V"⟩, 27), (⟨"SpillQueueModel", "addRun", "(III)V"⟩, 27), (⟨"SpillQueueModel", "crowded", "()I"⟩, 27), (⟨"SpillQueueModel", "runsOf", "(I)I"⟩, 27), (⟨"SpillQueueModel", "after", "(I)I"⟩, 27), (⟨"SpillQueueModel", "die", "()V"⟩, 27), (⟨"SpillQueueModel", "leastKey", "()I"⟩, 27), (⟨"SpillQueueModel", "leastRun", "()I"⟩, 27)]
theorem lw_r5 : ∀ q ∈ lw_privs_5, lw_okq q := List.forall_mem_cons.mpr ⟨lw_p64, List.forall_mem_cons.mpr ⟨lw_p65, List.forall_mem_cons.mpr ⟨lw_p66, List.forall_mem_cons.mpr ⟨lw_p67, List.forall_mem_cons.mpr ⟨lw_p68, List.forall_mem_cons.mpr ⟨lw_p69, List.forall_mem_cons.mpr ⟨lw_p70, List.forall_mem_cons.mpr ⟨lw_p71, List.forall_mem_cons.mpr ⟨lw_p72, List.forall_mem_cons.mpr ⟨lw_p73, List.forall_mem_cons.mpr ⟨lw_p74, List.forall_mem_cons.mpr ⟨lw_p75, List.forall_mem_cons.mpr ⟨lw_p76, List.forall_mem_cons.mpr ⟨lw_p77, List.forall_mem_cons.mpr ⟨lw_p78, List.forall_mem_cons.mpr ⟨lw_p79, fun _ h => absurd h List.not_mem_nil⟩⟩⟩⟩⟩⟩⟩⟩⟩⟩⟩⟩⟩⟩⟩⟩
theorem lw_p80 : lw_okq (⟨"SpillQueueModel", "least", "(I)I"⟩, 27) := ⟨⟨by decide +kernel, by decide +kernel⟩, List.mem_of_getElem? (i := 640) (by decide +kernel), List.mem_of_getElem? (i := 855) (by decide +kernel), List.mem_of_getElem? (i := 856) (by decide +kernel)⟩
theorem lw_p81 : lw_okq (⟨"SpillQueueModel", "leastInMemory", "()I"⟩, 27) := ⟨⟨by decide +kernel, by decide +kernel⟩, List.mem_of_getElem? (i := 640) (by decide +kernel), List.mem_of_getElem? (i := 859) (by decide +kernel), List.mem_of_getElem? (i := 860) (by decide +kernel)⟩
theorem lw_p82 : lw_okq (⟨"SpillQueueModel", "readSuper", "(I)Z"⟩, 27) := ⟨⟨by decide +kernel, by decide +kernel⟩, List.mem_of_getElem? (i := 640) (by decide +kernel), List.mem_of_getElem? (i := 883) (by decide +kernel), List.mem_of_getElem? (i := 884) (by decide +kernel)⟩
theorem lw_p83 : lw_okq (⟨"SpillQueueModel", "readRun", "(II)Z"⟩, 27) := ⟨⟨by decide +kernel, by decide +kernel⟩, List.mem_of_getElem? (i := 640) (by decide +kernel), List.mem_of_getElem? (i := 887) (by decide +kernel), List.mem_of_getElem? (i := 888) (by decide +kernel)⟩
theorem lw_p84 : lw_okq (⟨"SpillQueueModel", "size0", "()I"⟩, 27) := ⟨⟨by decide +kernel, by decide +kernel⟩, List.mem_of_getElem? (i := 640) (by decide +kernel), List.mem_of_getElem? (i := 891) (by decide +kernel), List.mem_of_getElem? (i := 892) (by decide +kernel)⟩
theorem lw_p85 : lw_okq (⟨"SpillQueueModel", "isWord", "(II)Z"⟩, 27) := ⟨⟨by decide +kernel, by decide +kernel⟩, List.mem_of_getElem? (i := 640) (by decide +kernel), List.mem_of_getElem? (i := 911) (by decide +kernel), List.mem_of_getElem? (i := 912) (by decide +kernel)⟩
def lw_privs_6 : List (MethodName × Nat) := [(⟨"SpillQueueModel", "least", "(I)I"⟩, 27), (⟨"SpillQueueModel", "leastInMemory", "()I"⟩, 27), (⟨"SpillQueueModel", "readSuper", "(I)Z"⟩, 27), (⟨"SpillQueueModel", "readRun", "(II)Z"⟩, 27), (⟨"SpillQueueModel", "size0", "()I"⟩, 27), (⟨"SpillQueueModel", "isWord", "(II)Z"⟩, 27)]
theorem lw_r6 : ∀ q ∈ lw_privs_6, lw_okq q := List.forall_mem_cons.mpr ⟨lw_p80, List.forall_mem_cons.mpr ⟨lw_p81, List.forall_mem_cons.mpr ⟨lw_p82, List.forall_mem_cons.mpr ⟨lw_p83, List.forall_mem_cons.mpr ⟨lw_p84, List.forall_mem_cons.mpr ⟨lw_p85, fun _ h => absurd h List.not_mem_nil⟩⟩⟩⟩⟩⟩
def lw_privs : List (MethodName × Nat) := lw_privs_1 ++ (lw_privs_2 ++ (lw_privs_3 ++ (lw_privs_4 ++ (lw_privs_5 ++ (lw_privs_6)))))
def lw_tbl : List Cond := k2_sels lw_privs ++ tables_1
theorem lw_privs_ok : ∀ q ∈ lw_privs, lw_okq q := by
  show ∀ q ∈ lw_privs_1 ++ (lw_privs_2 ++ (lw_privs_3 ++ (lw_privs_4 ++ (lw_privs_5 ++ (lw_privs_6))))), lw_okq q
  exact List.forall_mem_append.mpr ⟨lw_r1, List.forall_mem_append.mpr ⟨lw_r2, List.forall_mem_append.mpr ⟨lw_r3, List.forall_mem_append.mpr ⟨lw_r4, List.forall_mem_append.mpr ⟨lw_r5, lw_r6⟩⟩⟩⟩⟩
end
section
/-! ===== BEGIN words of one list among another's, by their places ===== -/
theorem goodIn_r {big : List Cond} (ws : List Cond) (ps : List Nat) (hp : ws = ps.filterMap (fun i => big[i]?)) (h : ws.all goodWord = true) : GoodIn big ws := by
  intro w hw
  have h1 := List.all_eq_true.mp h w hw
  rw [hp] at hw
  obtain ⟨i, -, hi⟩ := List.mem_filterMap.mp hw
  have hm : w ∈ big := by first | exact List.mem_of_getElem? hi | exact List.getElem?_mem hi
  exact ⟨hm, good_of_word h1⟩
theorem goodIn_app {big a b : List Cond} (ha : GoodIn big a) (hb : GoodIn big b) : GoodIn big (a ++ b) := fun w h => (List.mem_append.mp h).elim (ha w) (hb w)
theorem goodIn_ca {big a b : List Cond} {c : Cond} (ha : GoodIn big (c :: a)) (hb : GoodIn big b) : GoodIn big (c :: (a ++ b)) := fun w h => (List.mem_cons.mp h).elim (fun e => ha w (List.mem_cons.mpr (Or.inl e))) (fun h => (List.mem_append.mp h).elim (fun h => ha w (List.mem_cons.mpr (Or.inr h))) (hb w))
theorem goodIn_sub {big ws : List Cond} (hm : ∀ w ∈ ws, w ∈ big) (h : ws.all goodWord = true) : GoodIn big ws := fun w hw => ⟨hm w hw, good_of_word (List.all_eq_true.mp h w hw)⟩
/-! ===== END ===== -/

/-! ===== BEGIN exceptions that leave a method, and their catching by the caller (launches without stack traces) ===== -/
section VXA
/-! The laws vx_back, vx_callV, vx_callS, vx_callSW, vx_throw0, vx_throwS follow proofs of the library, with one case more: JvmDerived/Free/Laws.lean (Back.of_free), Shelf42/LK1.lean (callV, callS), Shelf/KitTraced.lean (throwNew0V, throwNewS). -/
/-- where a method has thrown q: the class by its name, the cell, what was written, the world -/
def vx_T (XC : String → State → State → Prop) (st : State) (q : Addr) (t : State) (mc ms : Nat) (free : Addr → Prop) : Prop :=
  ∃ (E : String) (ce : Cell) (L : List Loc), XC E st t ∧ t.heap[q]? = some ce ∧ ce.vm = .none ∧ st.vm.findClass E = some ce.cls ∧ st.WarmedH t.vm ∧ st.sameButNew ({ t with vm := st.vm } : State) L mc ms ∧ ∀ z ∈ L, free z.base
def vx_Q (Qc : Array Value → State → Outcome → State → Prop) (XC : String → State → State → Prop) (mc ms : Nat) (free : Addr → Prop) : Array Value → State → Outcome → State → Prop := fun a st o t =>
  (Qc a st o t ∧ ∃ L, FrameEnd st o t L mc ms ∧ ∀ q ∈ L, free q.base) ∨ ∃ q, o = .threw q ∧ vx_T XC st q t mc ms free
/-- a callee that returns or throws -/
def vx_Met (l : Launch) (y : MethodName) (ws : List Cond) (rm : Room) (Pc : Array Value → State → Prop) (Qc : Array Value → State → Outcome → State → Prop) (XC : String → State → State → Prop) (mc ms : Nat) (free : Addr → Prop) : Prop :=
  MetFree l y (headSpec ws rm) Pc (fun _ _ _ _ _ => True) (vx_Q Qc XC mc ms free)
def vx_Post (XC : String → State → State → Prop) (mc ms : Nat) (free : Addr → Prop) : Pt → Array Value → Addr → Pt → Prop := fun A a q B =>
  ∃ (g : JFrame) (mk : MethodId) (t : State) (L : List Loc) (E : String) (ce : Cell), B.U.heap = t.heap ∧ B.U.vm = t.vm ∧ XC E (A.U.calling g mk a) t ∧ t.heap[q]? = some ce ∧ ce.vm = .none ∧ A.U.vm.findClass E = some ce.cls ∧ B.locs = A.locs ++ L ∧ (∀ z ∈ L, free z.base) ∧ B.cells = A.cells + mc ∧ B.slots = A.slots + ms
def vx_Back (l : Launch) (R : Room) (p : Program) (e : Env) (below : List Frame) (s : State) (sargs : Array Value) (y : MethodName) (len W9 : Nat)
    (Pre : Pt → Array Value → Prop) (Post : Pt → Array Value → Option Value → Pt → Prop) (PostX : Pt → Array Value → Addr → Pt → Prop) : Prop :=
  ∀ (m : MethodId) (meth : Method) (c : Code) (A : Pt) (g : JFrame) (ig : Instr) (mk : MethodId) (a : Array Value),
    Stand p l e R s m sargs below meth c A.U A.locs A.cells A.slots → g.method = m → g.locals.size = c.maxLocals → decode c.code g.pc = .ok (ig, len) →
    2 * g.monitorRoom + (g.stack.map fun v => v.category).sum ≤ W9 → A.U.methodNamed? y = some mk → Pre A a →
    (∃ (v : Option Value) (B : Pt), Stand p l e R s m sargs below meth c B.U B.locs B.cells B.slots ∧ Post A a v B ∧
      Steps p.tables e below (doInvoke e (A.U.setTop g) [] mk a).1 (B.U.setTop { g with pc := g.pc + len, stack := v.toList ++ g.stack })) ∨
    (∃ (q : Addr) (B : Pt), Stand p l e R s m sargs below meth c B.U B.locs B.cells B.slots ∧ PostX A a q B ∧
      Steps p.tables e below (doInvoke e (A.U.setTop g) [] mk a).1 ((B.U.setTop g).pushFrame (.throwing q)))
section Payer
variable {l : Launch} {R : Room} {p : Program} {e : Env} {below : List Frame} {s : State} {sargs : Array Value} {y : MethodName} {len W9 : Nat}
theorem vx_back {ws : List Cond} {rm : Room} {Pc : Array Value → State → Prop} {Qc : Array Value → State → Outcome → State → Prop} {XC : String → State → State → Prop} {mc ms : Nat} {free : Addr → Prop} {bytes : ByteArray} {maxL : Nat} {ret : Option FieldType}
    (hM : vx_Met l y ws rm Pc Qc XC mc ms free) (hblind : FrameBlind Pc) (hrc : rm.cells = mc) (hrs : rm.slots = ms)
    (hframes : rm.frames + 1 ≤ R.frames) (hlocals : W9 + (maxL + 11) + rm.locals ≤ R.locals)
    (hws : ∀ w ∈ ws, ∀ a' U, s.WarmedH U.vm → w.before a' U = true) (hcode : Cond.code y bytes maxL ret ∈ ws) (hinit : ∀ a' U, s.WarmedH U.vm → (Cond.initialized y.cls).before a' U = true) :
    vx_Back l R p e below s sargs y len W9 (PreOf R mc ms Pc) (PostOf Qc mc ms free) (vx_Post XC mc ms free) := by
  intro m meth c A g ig mk a X hg hsize hdg hW hn hp
  have h1 : (headSpec ws rm).pre.before a A.U = true := atoms_intro fun w hw => hws w hw _ _ X.warmed
  have h2 : (Cond.code y bytes maxL ret).before a A.U = true := hws _ hcode _ _ X.warmed
  have h3 : (Cond.initialized y.cls).before a A.U = true := hinit _ _ X.warmed
  have h4 : A.cells + (headSpec ws rm).room.cells ≤ R.cells := by rw [show (headSpec ws rm).room.cells = mc from hrc]; exact hp.1
  have h5 : A.slots + (headSpec ws rm).room.slots ≤ R.slots := by rw [show (headSpec ws rm).room.slots = ms from hrs]; exact hp.2.1
  have hPc : Pc a (A.U.calling g mk a) := hblind _ _ _ _ hp.2.2
  obtain ⟨U, Ls, c0, s0⟩ := A
  dsimp only [Pt.U, Pt.locs, Pt.cells, Pt.slots] at h1 h2 h3 h4 h5 X hn hPc ⊢
  obtain ⟨methY, cY, hmY, hcY, -, hlY, -, -, -, -⟩ := Cond.code_spec hn h2
  obtain ⟨kY, hkY, -⟩ := className_of_methodNamed hn
  have hinitY : kY.init = .initialized := Cond.initialized_spec (findClass_of_methodNamed hn) hkY h3
  have h : At U g.method c below := by rw [hg]; exact X.here
  have hlocals9 : W9 + (maxL + 11) + (headSpec ws rm).room.locals ≤ R.locals := hlocals
  have happ : (headSpec ws rm).appliesLoose y e.platform (U.calling g mk a) = true :=
    Spec.appliesLoose_calling (g := g) h hdg hn hkY hinitY
      (X.room_calling (g := g) (R' := (headSpec ws rm).room) hsize hmY hcY hframes (by rw [hlY]; omega) h4 h5) h1
  obtain ⟨mid, hmid⟩ := h.above
  have hfr : (U.setTop g).frames = (.java g :: mid) ++ below := by rw [State.frames_setTop' g h.top, hmid]; rfl
  obtain ⟨o, s₂, hsteps, -, hend, hq⟩ := Steps.callFree hM p X.admits X.cas X.clock (acts := []) hfr happ hPc trivial
  have hq' : vx_Q Qc XC mc ms free a (U.calling g mk a) o s₂ := hq
  rw [State.frames_setTop' g h.top] at hend
  obtain ⟨g₀, hg0⟩ := Option.isSome_iff_exists.mp h.top
  obtain ⟨r, hr⟩ := State.topJava?_eq_some.mp hg0
  have hr' : (({ U with heap := s₂.heap, slotsUsed := s₂.slotsUsed } : State).setVm s₂.vm).frames = .java g₀ :: r := hr
  rcases hq' with ⟨hqc, L, hfe, hL⟩ | ⟨q, rfl, E, ce, L, hx, hce, hcv, hcl, hW₂, hsm, hL⟩
  · obtain ⟨⟨v, rfl⟩, hW₂, e2, q2, q3, q4, q5, q6⟩ := id hfe
    have e3 : s₂ = ({ (U.calling g mk a).setFrames s₂.frames with heap := s₂.heap, slotsUsed := s₂.slotsUsed } : State).setVm s₂.vm := by
      have : s₂ = ({ s₂ with vm := (U.calling g mk a).vm } : State).setVm s₂.vm := rfl
      rw [e2] at this
      exact this
    obtain ⟨c₂, i₂, len₂, hc₂, hd₂, hf₂⟩ := hend
    have hW' : U.WarmedH s₂.vm := hW₂
    have hcc : c₂ = c := by
      have h1 : s₂.code? g.method = U.code? g.method := by
        rw [State.code?_eq, State.code?_eq, hW'.alike.method?]
      exact Option.some.inj (hc₂.symm.trans (h1.trans h.code))
    subst hcc
    have hlen : len₂ = len := by rw [hdg] at hd₂; cases hd₂; rfl
    subst hlen
    have hs₂ : s₂ = (({ U with heap := s₂.heap, slotsUsed := s₂.slotsUsed } : State).setVm s₂.vm).setTop { g with pc := g.pc + len₂, stack := v.toList ++ g.stack } := by
      refine e3.trans ?_
      rw [hf₂, State.calling_eq h.top, State.setFrames_setFrames, State.setTop_of_frames _ hr', hr]
      rfl
    have hsame : U.sameButNew ({ U with heap := s₂.heap, slotsUsed := s₂.slotsUsed } : State) L mc ms := by
      refine ⟨?_, q2, q3, q4, q5, q6⟩
      obtain ⟨t, ht, -⟩ := State.frames_cons hr
      show ({ U with heap := s₂.heap, slotsUsed := s₂.slotsUsed } : State) = { U.setFrames U.frames with heap := s₂.heap, slotsUsed := s₂.slotsUsed }
      rw [State.setFrames_self ht]
    subst hg
    refine Or.inl ⟨v, ⟨(({ U with heap := s₂.heap, slotsUsed := s₂.slotsUsed } : State).setVm s₂.vm), Ls ++ L, c0 + mc, s0 + ms⟩,
      ⟨X.admits, X.cas, X.clock, X.frames, X.room, X.hears, X.method, X.code, (X.here.setHeapUsed s₂.heap s₂.slotsUsed).setVm hW'.alike, X.tail, State.WarmedH.trans X.warmed hW', X.limits, X.bytes, X.same.trans (hsame.setVm s.vm)⟩,
      ⟨g, mk, s₂, L, rfl, rfl, hqc, rfl, hL, rfl, rfl⟩, ?_⟩
    show Steps p.tables e below _ ((({ U with heap := s₂.heap, slotsUsed := s₂.slotsUsed } : State).setVm s₂.vm).setTop { g with pc := g.pc + len₂, stack := v.toList ++ g.stack })
    rw [← hs₂]
    exact hsteps
  · obtain ⟨e2, q2, q3, q4, q5, q6⟩ := id hsm
    have e3 : s₂ = ({ (U.calling g mk a).setFrames s₂.frames with heap := s₂.heap, slotsUsed := s₂.slotsUsed } : State).setVm s₂.vm := by
      have : s₂ = ({ s₂ with vm := (U.calling g mk a).vm } : State).setVm s₂.vm := rfl
      rw [e2] at this
      exact this
    have hf₂ : s₂.frames = .throwing q :: .java g :: U.frames.tail := hend
    have hW' : U.WarmedH s₂.vm := hW₂
    have hs₂ : s₂ = ((({ U with heap := s₂.heap, slotsUsed := s₂.slotsUsed } : State).setVm s₂.vm).setTop g).pushFrame (.throwing q) := by
      refine e3.trans ?_
      rw [hf₂, State.calling_eq h.top, State.setFrames_setFrames, State.pushFrame, State.frames_setTop _ hr', State.setTop_of_frames _ hr', State.setFrames_setFrames, hr]
      rfl
    have hsame : U.sameButNew ({ U with heap := s₂.heap, slotsUsed := s₂.slotsUsed } : State) L mc ms := by
      refine ⟨?_, q2, q3, q4, q5, q6⟩
      obtain ⟨t, ht, -⟩ := State.frames_cons hr
      show ({ U with heap := s₂.heap, slotsUsed := s₂.slotsUsed } : State) = { U.setFrames U.frames with heap := s₂.heap, slotsUsed := s₂.slotsUsed }
      rw [State.setFrames_self ht]
    subst hg
    refine Or.inr ⟨q, ⟨(({ U with heap := s₂.heap, slotsUsed := s₂.slotsUsed } : State).setVm s₂.vm), Ls ++ L, c0 + mc, s0 + ms⟩,
      ⟨X.admits, X.cas, X.clock, X.frames, X.room, X.hears, X.method, X.code, (X.here.setHeapUsed s₂.heap s₂.slotsUsed).setVm hW'.alike, X.tail, State.WarmedH.trans X.warmed hW', X.limits, X.bytes, X.same.trans (hsame.setVm s.vm)⟩,
      ⟨g, mk, s₂, L, E, ce, rfl, rfl, hx, hce, hcv, hcl, rfl, hL, rfl, rfl⟩, ?_⟩
    show Steps p.tables e below _ (((({ U with heap := s₂.heap, slotsUsed := s₂.slotsUsed } : State).setVm s₂.vm).setTop g).pushFrame (.throwing q))
    rw [← hs₂]
    exact hsteps
end Payer
section Calls
variable {p : Program} {l : Launch} {e : Env} {R : Room} {s : State} {m : MethodId} {args : Array Value} {below : List Frame} {meth : Method} {c : Code} {T : State} {locs : List Loc} {cells slots : Nat}
theorem vx_callV (X : Stand p l e R s m args below meth c T locs cells slots) (hexec : p.tables.exec = Jvm.exec) {own C : String} {index : Nat} {y : MethodName} {bytes : ByteArray} {maxL : Nat} {ret : Option FieldType}
    (hown : s.vm.findClass own = some m.cls) (hlink : (Cond.methodLink own index y).before args s = true) (hinst : (Cond.instanceMethod y).before args s = true) (hsel : (Cond.selects C y y).before args s = true)
    (hcode : (Cond.code y bytes maxL ret).before args s = true) (hy : y.cls ≠ "java/lang/invoke/MethodHandle" ∧ y.cls ≠ "java/lang/invoke/VarHandle")
    {W9 : Nat} {Pre : Pt → Array Value → Prop} {Post : Pt → Array Value → Option Value → Pt → Prop} {PostX : Pt → Array Value → Addr → Pt → Prop} (hK : vx_Back l R p e below s args y 3 W9 Pre Post PostX)
    {b : Addr} {cellB : Cell} (hcell : T.heap[b]? = some cellB) (hobj : cellB.vm.isStatics = false) (hcls : s.vm.findClass C = some cellB.cls)
    {g : JFrame} (hg : g.method = m) (hsize : g.locals.size = c.maxLocals) {argsL rest : List Value} (hlen : ∀ sig, parseMethodDescriptor y.desc = some sig → argsL.length = sig.parameters.length)
    (hstack : g.stack = argsL.reverse ++ .ref b :: rest) (hW : 2 * g.monitorRoom + (rest.map fun v => v.category).sum ≤ W9) (hdg : decode c.code g.pc = .ok (.invokevirtual index, 3))
    (hpre : ∀ vm₁, s.WarmedH vm₁ → Pre ⟨T.setVm vm₁, locs, cells, slots⟩ (Value.ref b :: argsL).toArray) :
    (∃ (v : Option Value) (vm₁ : Vm) (B : Pt), s.WarmedH vm₁ ∧ Stand p l e R s m args below meth c B.U B.locs B.cells B.slots ∧ Post ⟨T.setVm vm₁, locs, cells, slots⟩ (Value.ref b :: argsL).toArray v B ∧
      ∀ target, Steps p.tables e below (B.U.setTop { g with pc := g.pc + 3, stack := v.toList ++ rest }) target → Steps p.tables e below (T.setTop g) target) ∨
    (∃ (q : Addr) (vm₁ : Vm) (B : Pt), s.WarmedH vm₁ ∧ Stand p l e R s m args below meth c B.U B.locs B.cells B.slots ∧ PostX ⟨T.setVm vm₁, locs, cells, slots⟩ (Value.ref b :: argsL).toArray q B ∧
      Steps p.tables e below (T.setTop g) ((B.U.setTop { g with stack := rest }).pushFrame (.throwing q))) := by
  obtain ⟨mk, methM, hnamed, hmethM, hstM, habM⟩ := Cond.instanceMethod_spec hinst
  obtain ⟨methM', cM, hmethM', -, -, -, -, -, -, hsigM⟩ := Cond.code_spec hnamed hcode
  cases hmethM.symm.trans hmethM'
  obtain ⟨c2, r2, m2, q1, q2, q3, q4, kP, hkP, hkPi⟩ := Cond.selects_spec hsel
  cases hcls.symm.trans q1
  cases (State.methodFound?_of_named hnamed hy).symm.trans q2
  cases hnamed.symm.trans q3
  have hselP : selectMethod e.platform s.vm cellB.cls mk = .method mk := by rw [Launch.admits_selectMethod X.admits]; exact q4
  obtain ⟨vm₁, X₁, hstep₁⟩ := X.invokevirtual hexec hown hlink hnamed hmethM hstM hkP hkPi hy (a := b) (cell := cellB) hcell
    (fun z h => by rw [h] at hobj; cases hobj) hselP hmethM habM hkP hkPi (g := g) hg (argsL := argsL) (rest := rest) (hlen _ hsigM) hstack hdg
  rcases hK m meth c ⟨T.setVm vm₁, locs, cells, slots⟩ { g with stack := rest } (.invokevirtual index) mk (Value.ref b :: argsL).toArray X₁ hg hsize hdg hW (X₁.named hnamed) (hpre vm₁ X₁.warmed) with ⟨v, B, X', hpost, hsteps⟩ | ⟨q, B, X', hpost, hsteps⟩
  · exact Or.inl ⟨v, vm₁, B, X₁.warmed, X', hpost, fun target h => hstep₁ _ fun acts => by rw [doInvoke_state]; exact hsteps.trans h⟩
  · exact Or.inr ⟨q, vm₁, B, X₁.warmed, X', hpost, hstep₁ _ fun acts => by rw [doInvoke_state]; exact hsteps⟩
theorem vx_callS (X : Stand p l e R s m args below meth c T locs cells slots) (hexec : p.tables.exec = Jvm.exec) {own : String} {index : Nat} {y : MethodName} {bytes : ByteArray} {maxL : Nat} {ret : Option FieldType}
    (hown : s.vm.findClass own = some m.cls) (hlink : (Cond.methodLink own index y).before args s = true) (hstat : (Cond.static y).before args s = true) (hinit : (Cond.initialized y.cls).before args s = true)
    (hcode : (Cond.code y bytes maxL ret).before args s = true) (hy : y.cls ≠ "java/lang/invoke/MethodHandle" ∧ y.cls ≠ "java/lang/invoke/VarHandle")
    {W9 : Nat} {Pre : Pt → Array Value → Prop} {Post : Pt → Array Value → Option Value → Pt → Prop} {PostX : Pt → Array Value → Addr → Pt → Prop} (hK : vx_Back l R p e below s args y 3 W9 Pre Post PostX)
    {g : JFrame} (hg : g.method = m) (hsize : g.locals.size = c.maxLocals) {argsL rest : List Value} (hlen : ∀ sig, parseMethodDescriptor y.desc = some sig → argsL.length = sig.parameters.length)
    (hstack : g.stack = argsL.reverse ++ rest) (hW : 2 * g.monitorRoom + (rest.map fun v => v.category).sum ≤ W9) (hdg : decode c.code g.pc = .ok (.invokestatic index, 3))
    (hpre : ∀ vm₁, s.WarmedH vm₁ → Pre ⟨T.setVm vm₁, locs, cells, slots⟩ argsL.toArray) :
    (∃ (v : Option Value) (vm₁ : Vm) (B : Pt), s.WarmedH vm₁ ∧ Stand p l e R s m args below meth c B.U B.locs B.cells B.slots ∧ Post ⟨T.setVm vm₁, locs, cells, slots⟩ argsL.toArray v B ∧
      ∀ target, Steps p.tables e below (B.U.setTop { g with pc := g.pc + 3, stack := v.toList ++ rest }) target → Steps p.tables e below (T.setTop g) target) ∨
    (∃ (q : Addr) (vm₁ : Vm) (B : Pt), s.WarmedH vm₁ ∧ Stand p l e R s m args below meth c B.U B.locs B.cells B.slots ∧ PostX ⟨T.setVm vm₁, locs, cells, slots⟩ argsL.toArray q B ∧
      Steps p.tables e below (T.setTop g) ((B.U.setTop { g with stack := rest }).pushFrame (.throwing q))) := by
  obtain ⟨mk, hnamed⟩ := Cond.code_named hcode
  obtain ⟨methM, cM, hmethM, -, -, -, -, -, -, hsigM⟩ := Cond.code_spec hnamed hcode
  have hstatic : methM.isStatic = true := Cond.static_spec hnamed hmethM hstat
  obtain ⟨kP, hkP, -⟩ := className_of_methodNamed hnamed
  have hinitP : kP.init = .initialized := Cond.initialized_spec (findClass_of_methodNamed hnamed) hkP hinit
  obtain ⟨vm₁, X₁, hstep₁⟩ := X.invokestatic hexec hown hlink hnamed hmethM hstatic hkP hinitP hy (g := g) hg (argsL := argsL) (rest := rest) (hlen _ hsigM) hstack hdg
  rcases hK m meth c ⟨T.setVm vm₁, locs, cells, slots⟩ { g with stack := rest } (.invokestatic index) mk argsL.toArray X₁ hg hsize hdg hW (X₁.named hnamed) (hpre vm₁ X₁.warmed) with ⟨v, B, X', hpost, hsteps⟩ | ⟨q, B, X', hpost, hsteps⟩
  · exact Or.inl ⟨v, vm₁, B, X₁.warmed, X', hpost, fun target h => hstep₁ _ fun acts => by rw [doInvoke_state]; exact hsteps.trans h⟩
  · exact Or.inr ⟨q, vm₁, B, X₁.warmed, X', hpost, hstep₁ _ fun acts => by rw [doInvoke_state]; exact hsteps⟩
end Calls
theorem vx_cls {s : State} {T : State} {vm₁ : Vm} {E : String} {k : ClassId} (hW : s.WarmedH vm₁) (h : (T.setVm vm₁).vm.findClass E = some k) : s.vm.findClass E = some k := by
  have h1 : vm₁.findClass E = some k := h
  rw [hW.alike.findClass] at h1
  exact h1
/-- the method's frame g, with q thrown over it -/
def vx_W (p : Program) (l : Launch) (e : Env) (R : Room) (s : State) (m : MethodId) (args : Array Value) (below : List Frame) (meth : Method) (c : Code) (H : Heap) (locs : List Loc) (cells slots : Nat) (Q : State → Prop) (g : JFrame) (q : Addr) : Prop :=
  ∀ T : State, T.heap = H → Stand p l e R s m args below meth c T locs cells slots → ∃ t, Steps p.tables e below ((T.setTop g).pushFrame (.throwing q)) t ∧ Q t
def vx_Run (p : Program) (l : Launch) (e : Env) (R : Room) (s : State) (m : MethodId) (args : Array Value) (below : List Frame) (meth : Method) (c : Code) (H : Heap) (locs : List Loc) (cells slots mc ms : Nat) (g : JFrame) (rest : List Value) (Qa : State → Outcome → State → Prop) (XC : String → State → State → Prop) (free : Addr → Prop) : Prop :=
  ∀ T : State, T.heap = H → Stand p l e R s m args below meth c T locs cells slots →
    (∃ (v : Option Value) (st₀ t T' : State) (L : List Loc), st₀.heap = H ∧ Stand p l e R s m args below meth c T' (locs ++ L) (cells + mc) (slots + ms) ∧ (∀ q ∈ L, free q.base) ∧ T'.heap = t.heap ∧ T'.vm = t.vm ∧ Qa st₀ (.returned v) t ∧
      Goes p e below T g T' { g with pc := g.pc + 3, stack := v.toList ++ rest }) ∨
    (∃ (q : Addr) (st₀ t T' : State) (L : List Loc) (E : String) (ce : Cell), st₀.heap = H ∧ Stand p l e R s m args below meth c T' (locs ++ L) (cells + mc) (slots + ms) ∧ (∀ z ∈ L, free z.base) ∧ T'.heap = t.heap ∧ T'.vm = t.vm ∧ XC E st₀ t ∧ t.heap[q]? = some ce ∧ ce.vm = .none ∧ s.vm.findClass E = some ce.cls ∧
      Steps p.tables e below (T.setTop g) ((T'.setTop { g with stack := rest }).pushFrame (.throwing q)))
def vx_X {S : Type} (px : S → Prop) (B : String → S → State → Prop) (A : Nat → Prop) : String → State → State → Prop := fun E st t => ∃ u : S, px u ∧ B E u t ∧ va_F A st t
section Runs
variable {p : Program} {l : Launch} {e : Env} {R : Room} {s : State} {m : MethodId} {args : Array Value} {below : List Frame} {meth : Method} {c : Code} {H : Heap} {locs : List Loc} {cells slots : Nat}
variable {y : MethodName} {bytes cc : ByteArray} {maxL nL mc ms n index : Nat} {ret : Option FieldType} {ws : List Cond} {rm : Room} {Pc : Array Value → State → Prop} {Qc : Array Value → State → Outcome → State → Prop} {XC : String → State → State → Prop} {free : Addr → Prop} {Ts : List Cond} {own C : String} {b : Addr} {As rest : List Value} {g : JFrame}
theorem vx_callBack (cb : CallB R s args own index y bytes maxL ret ws rm mc ms n) (hM : vx_Met l y ws rm Pc Qc XC mc ms free) (hbl : FrameBlind Pc) : vx_Back l R p e below s args y 3 8 (PreOf R mc ms Pc) (PostOf Qc mc ms free) (vx_Post XC mc ms free) := by
  obtain ⟨hrc, hrs, hfr, hlo, hws, hcw, -, hini, -⟩ := cb
  exact vx_back (bytes := bytes) (maxL := maxL) (ret := ret) hM hbl hrc hrs hfr hlo hws hcw (fun a' U hW => word_at hW (Or.inl (by first | rfl | simp [Cond.onTables, Cond.keeps, Cond.steady])) hini)
theorem vx_runV (S : CallFix p m c cc nL s args Ts own) (hM : vx_Met l y ws rm Pc Qc XC mc ms free) (cw : CallW R s args own C index y bytes maxL ret ws rm mc ms n) (hp : PreV s H C b Pc As)
    (hg : g.method = m) (hn : As.length = n) (hsize : g.locals.size = nL) (hstack : g.stack = As.reverse ++ .ref b :: rest) (hW : 2 * g.monitorRoom + (rest.map fun v => v.category).sum ≤ 8) (hdg : decode cc g.pc = .ok (.invokevirtual index, 3)) (hf : cells + mc ≤ R.cells ∧ slots + ms ≤ R.slots) :
    vx_Run p l e R s m args below meth c H locs cells slots mc ms g rest (Qc (Value.ref b :: As).toArray) XC free := by
  have hK : vx_Back l R p e below s args y 3 8 (PreOf R mc ms Pc) (PostOf Qc mc ms free) (vx_Post XC mc ms free) := vx_callBack cw.1 hM hp.1
  obtain ⟨⟨-, -, -, -, -, -, hcode, -, hy, hlen, hl⟩, hin, hse⟩ := cw
  obtain ⟨hx, hb, hml, ho, -⟩ := S
  obtain ⟨-, ⟨cellB, hcB, hoB, hclB⟩, hPc⟩ := hp
  intro T hT X
  rcases vx_callV X hx (C := C) (bytes := bytes) (maxL := maxL) (ret := ret) ho hl hin hse hcode hy hK (by rw [hT]; exact hcB) hoB hclB hg (hsize.trans hml.symm) (argsL := As) (rest := rest) (fun sig h => hn.trans (hlen sig h)) hstack hW (by rw [hb]; exact hdg)
    (fun vm₁ hW₁ => ⟨hf.1, hf.2, hPc (T.setVm vm₁) hT hW₁⟩) with ⟨v, vm₁, ⟨U', l2, c2, s2⟩, hW₁, X', ⟨g', mk, t, L, e1, e2, hq, h1, hL, h2, h3⟩, st⟩ | ⟨q, vm₁, ⟨U', l2, c2, s2⟩, hW₁, X', ⟨g', mk, t, L, E, ce, e1, e2, hq, hce, hcv, hcl, h1, hL, h2, h3⟩, st⟩
  · dsimp only [Pt.U, Pt.locs, Pt.cells, Pt.slots] at X' e1 e2 h1 h2 h3 st
    subst h1; subst h2; subst h3
    exact Or.inl ⟨v, (T.setVm vm₁).calling g' mk (Value.ref b :: As).toArray, t, U', L, hT, X', hL, e1, e2, hq, st⟩
  · dsimp only [Pt.U, Pt.locs, Pt.cells, Pt.slots] at X' e1 e2 h1 h2 h3 st hcl
    subst h1; subst h2; subst h3
    exact Or.inr ⟨q, (T.setVm vm₁).calling g' mk (Value.ref b :: As).toArray, t, U', L, E, ce, hT, X', hL, e1, e2, hq, hce, hcv, vx_cls hW₁ hcl, st⟩
theorem vx_runS (S : CallFix p m c cc nL s args Ts own) (hM : vx_Met l y ws rm Pc Qc XC mc ms free) (cw : CallB R s args own index y bytes maxL ret ws rm mc ms n ∧ (Cond.static y).before args s = true) (hp : PreS s H Pc As)
    (hg : g.method = m) (hn : As.length = n) (hsize : g.locals.size = nL) (hstack : g.stack = As.reverse ++ rest) (hW : 2 * g.monitorRoom + (rest.map fun v => v.category).sum ≤ 8) (hdg : decode cc g.pc = .ok (.invokestatic index, 3)) (hf : cells + mc ≤ R.cells ∧ slots + ms ≤ R.slots) :
    vx_Run p l e R s m args below meth c H locs cells slots mc ms g rest (Qc As.toArray) XC free := by
  have hK : vx_Back l R p e below s args y 3 8 (PreOf R mc ms Pc) (PostOf Qc mc ms free) (vx_Post XC mc ms free) := vx_callBack cw.1 hM hp.1
  obtain ⟨⟨-, -, -, -, -, -, hcode, hini, hy, hlen, hl⟩, hstt⟩ := cw
  obtain ⟨hx, hb, hml, ho, -⟩ := S
  intro T hT X
  rcases vx_callS X hx (bytes := bytes) (maxL := maxL) (ret := ret) ho hl hstt hini hcode hy hK hg (hsize.trans hml.symm) (argsL := As) (rest := rest) (fun sig h => hn.trans (hlen sig h)) hstack hW (by rw [hb]; exact hdg)
    (fun vm₁ hW₁ => ⟨hf.1, hf.2, hp.2 (T.setVm vm₁) hT hW₁⟩) with ⟨v, vm₁, ⟨U', l2, c2, s2⟩, hW₁, X', ⟨g', mk, t, L, e1, e2, hq, h1, hL, h2, h3⟩, st⟩ | ⟨q, vm₁, ⟨U', l2, c2, s2⟩, hW₁, X', ⟨g', mk, t, L, E, ce, e1, e2, hq, hce, hcv, hcl, h1, hL, h2, h3⟩, st⟩
  · dsimp only [Pt.U, Pt.locs, Pt.cells, Pt.slots] at X' e1 e2 h1 h2 h3 st
    subst h1; subst h2; subst h3
    exact Or.inl ⟨v, (T.setVm vm₁).calling g' mk As.toArray, t, U', L, hT, X', hL, e1, e2, hq, st⟩
  · dsimp only [Pt.U, Pt.locs, Pt.cells, Pt.slots] at X' e1 e2 h1 h2 h3 st hcl
    subst h1; subst h2; subst h3
    exact Or.inr ⟨q, (T.setVm vm₁).calling g' mk As.toArray, t, U', L, E, ce, hT, X', hL, e1, e2, hq, hce, hcv, vx_cls hW₁ hcl, st⟩
end Runs
section Rows
variable {p : Program} {l : Launch} {e : Env} {R : Room} {s : State} {m : MethodId} {args : Array Value} {below : List Frame} {meth : Method} {c : Code} {H : Heap} {locs : List Loc} {cells slots : Nat} {Q : State → Prop}
variable {mc ms : Nat} {free : Addr → Prop} {A0 A1 : Nat → Prop} {H0 : Heap} {a : Array Value} {pc : Nat} {ls : Array Slot} {st0 rest : List Value}
theorem vx_keep {st₀ t T' : State} {L : List Loc} (h0 : st₀.heap = H) (e1 : T'.heap = t.heap) (hS : va_S A0 H0 H locs) (hA : ∀ q, q < H.size → A1 q → A0 q) (hf : ∀ q, free q → A0 q) (hL : ∀ q ∈ L, free q.base) (hF : va_F A1 st₀ t) :
    H.size ≤ T'.heap.size ∧ (∀ q : Nat, q < H.size → ¬ A1 q → T'.heap[q]? = H[q]?) ∧ va_S A0 H0 T'.heap (locs ++ L) := by
  obtain ⟨hz, hk⟩ := hF
  rw [h0] at hz hk
  exact ⟨by rw [e1]; exact hz, fun q h1 h2 => by rw [e1]; exact hk q h1 h2,
    ⟨Nat.le_trans hS.1 (by rw [e1]; exact hz), fun q h1 h2 => by rw [e1, hk q (Nat.lt_of_lt_of_le h1 hS.1) (fun z => h2 (hA q (Nat.lt_of_lt_of_le h1 hS.1) z))]; exact hS.2.1 q h1 h2, fun q hq => by
      rcases List.mem_append.mp hq with h | h
      · exact hS.2.2 q h
      · exact hf _ (hL q h)⟩⟩
theorem vx_calli {S SX : Type} {post : Int32 → S → Prop} {px : SX → Prop} {B : S → State → Prop} {BX : String → SX → State → Prop} {AX : Nat → Prop} (hr : vx_Run p l e R s m args below meth c H locs cells slots mc ms (F0 m pc ls st0) rest (va_Qi post B A1 a) (vx_X px BX AX) free) (hS : va_S A0 H0 H locs) (hA : ∀ q, q < H.size → A1 q → A0 q) (hf : ∀ q, free q → A0 q) (hAX : ∀ q, q < H.size → AX q → A0 q)
    (kx : ∀ (E : String) (ce : Cell) (q9 : Addr) (u : SX) (t : State) (H1 : Heap) (locs1 : List Loc), t.heap = H1 → s.vm.Alike t.vm → px u → BX E u t → H.size ≤ H1.size → (∀ q : Nat, q < H.size → ¬ AX q → H1[q]? = H[q]?) → va_S A0 H0 H1 locs1 → H1[q9]? = some ce → ce.vm = .none → s.vm.findClass E = some ce.cls → vx_W p l e R s m args below meth c H1 locs1 (cells + mc) (slots + ms) Q (F0 m pc ls rest) q9)
    (kk : ∀ (r : Int32) (u : S) (t : State) (H1 : Heap) (locs1 : List Loc), t.heap = H1 → s.vm.Alike t.vm → post r u → B u t → H.size ≤ H1.size → (∀ q : Nat, q < H.size → ¬ A1 q → H1[q]? = H[q]?) → va_S A0 H0 H1 locs1 → W p l e R s m args below meth c H1 locs1 (cells + mc) (slots + ms) Q (F0 m (pc + 3) ls (.int r :: rest))) : W p l e R s m args below meth c H locs cells slots Q (F0 m pc ls st0) := by
  intro T hT X
  rcases hr T hT X with ⟨v, st₀, t, T', L, h0, X', hL, e1, e2, ⟨⟨r, u, hv, hp, hb⟩, hF⟩, st⟩ | ⟨q, st₀, t, T', L, E, ce, h0, X', hL, e1, e2, ⟨u, hp, hb, hF⟩, hce, hcv, hcl, st⟩
  · cases hv
    obtain ⟨k1, k2, k3⟩ := vx_keep h0 e1 hS hA hf hL hF
    obtain ⟨t2, a1, b1⟩ := kk r u t T'.heap (locs ++ L) e1.symm (by rw [← e2]; exact X'.warmed.alike) hp hb k1 k2 k3 T' rfl X'
    exact ⟨t2, st t2 a1, b1⟩
  · obtain ⟨k1, k2, k3⟩ := vx_keep h0 e1 hS hAX hf hL hF
    obtain ⟨t2, a1, b1⟩ := kx E ce q u t T'.heap (locs ++ L) e1.symm (by rw [← e2]; exact X'.warmed.alike) hp hb k1 k2 k3 (by rw [e1]; exact hce) hcv hcl T' rfl X'
    exact ⟨t2, st.trans a1, b1⟩
theorem vx_calll {S SX : Type} {post : Int64 → S → Prop} {px : SX → Prop} {B : S → State → Prop} {BX : String → SX → State → Prop} {AX : Nat → Prop} (hr : vx_Run p l e R s m args below meth c H locs cells slots mc ms (F0 m pc ls st0) rest (va_Ql post B A1 a) (vx_X px BX AX) free) (hS : va_S A0 H0 H locs) (hA : ∀ q, q < H.size → A1 q → A0 q) (hf : ∀ q, free q → A0 q) (hAX : ∀ q, q < H.size → AX q → A0 q)
    (kx : ∀ (E : String) (ce : Cell) (q9 : Addr) (u : SX) (t : State) (H1 : Heap) (locs1 : List Loc), t.heap = H1 → s.vm.Alike t.vm → px u → BX E u t → H.size ≤ H1.size → (∀ q : Nat, q < H.size → ¬ AX q → H1[q]? = H[q]?) → va_S A0 H0 H1 locs1 → H1[q9]? = some ce → ce.vm = .none → s.vm.findClass E = some ce.cls → vx_W p l e R s m args below meth c H1 locs1 (cells + mc) (slots + ms) Q (F0 m pc ls rest) q9)
    (kk : ∀ (r : Int64) (u : S) (t : State) (H1 : Heap) (locs1 : List Loc), t.heap = H1 → s.vm.Alike t.vm → post r u → B u t → H.size ≤ H1.size → (∀ q : Nat, q < H.size → ¬ A1 q → H1[q]? = H[q]?) → va_S A0 H0 H1 locs1 → W p l e R s m args below meth c H1 locs1 (cells + mc) (slots + ms) Q (F0 m (pc + 3) ls (.long r :: rest))) : W p l e R s m args below meth c H locs cells slots Q (F0 m pc ls st0) := by
  intro T hT X
  rcases hr T hT X with ⟨v, st₀, t, T', L, h0, X', hL, e1, e2, ⟨⟨r, u, hv, hp, hb⟩, hF⟩, st⟩ | ⟨q, st₀, t, T', L, E, ce, h0, X', hL, e1, e2, ⟨u, hp, hb, hF⟩, hce, hcv, hcl, st⟩
  · cases hv
    obtain ⟨k1, k2, k3⟩ := vx_keep h0 e1 hS hA hf hL hF
    obtain ⟨t2, a1, b1⟩ := kk r u t T'.heap (locs ++ L) e1.symm (by rw [← e2]; exact X'.warmed.alike) hp hb k1 k2 k3 T' rfl X'
    exact ⟨t2, st t2 a1, b1⟩
  · obtain ⟨k1, k2, k3⟩ := vx_keep h0 e1 hS hAX hf hL hF
    obtain ⟨t2, a1, b1⟩ := kx E ce q u t T'.heap (locs ++ L) e1.symm (by rw [← e2]; exact X'.warmed.alike) hp hb k1 k2 k3 (by rw [e1]; exact hce) hcv hcl T' rfl X'
    exact ⟨t2, st.trans a1, b1⟩
theorem vx_callf {S SX : Type} {post : UInt32 → S → Prop} {px : SX → Prop} {B : S → State → Prop} {BX : String → SX → State → Prop} {AX : Nat → Prop} (hr : vx_Run p l e R s m args below meth c H locs cells slots mc ms (F0 m pc ls st0) rest (va_Qf post B A1 a) (vx_X px BX AX) free) (hS : va_S A0 H0 H locs) (hA : ∀ q, q < H.size → A1 q → A0 q) (hf : ∀ q, free q → A0 q) (hAX : ∀ q, q < H.size → AX q → A0 q)
    (kx : ∀ (E : String) (ce : Cell) (q9 : Addr) (u : SX) (t : State) (H1 : Heap) (locs1 : List Loc), t.heap = H1 → s.vm.Alike t.vm → px u → BX E u t → H.size ≤ H1.size → (∀ q : Nat, q < H.size → ¬ AX q → H1[q]? = H[q]?) → va_S A0 H0 H1 locs1 → H1[q9]? = some ce → ce.vm = .none → s.vm.findClass E = some ce.cls → vx_W p l e R s m args below meth c H1 locs1 (cells + mc) (slots + ms) Q (F0 m pc ls rest) q9)
    (kk : ∀ (r : UInt32) (u : S) (t : State) (H1 : Heap) (locs1 : List Loc), t.heap = H1 → s.vm.Alike t.vm → post r u → B u t → H.size ≤ H1.size → (∀ q : Nat, q < H.size → ¬ A1 q → H1[q]? = H[q]?) → va_S A0 H0 H1 locs1 → W p l e R s m args below meth c H1 locs1 (cells + mc) (slots + ms) Q (F0 m (pc + 3) ls (.float r :: rest))) : W p l e R s m args below meth c H locs cells slots Q (F0 m pc ls st0) := by
  intro T hT X
  rcases hr T hT X with ⟨v, st₀, t, T', L, h0, X', hL, e1, e2, ⟨⟨r, u, hv, hp, hb⟩, hF⟩, st⟩ | ⟨q, st₀, t, T', L, E, ce, h0, X', hL, e1, e2, ⟨u, hp, hb, hF⟩, hce, hcv, hcl, st⟩
  · cases hv
    obtain ⟨k1, k2, k3⟩ := vx_keep h0 e1 hS hA hf hL hF
    obtain ⟨t2, a1, b1⟩ := kk r u t T'.heap (locs ++ L) e1.symm (by rw [← e2]; exact X'.warmed.alike) hp hb k1 k2 k3 T' rfl X'
    exact ⟨t2, st t2 a1, b1⟩
  · obtain ⟨k1, k2, k3⟩ := vx_keep h0 e1 hS hAX hf hL hF
    obtain ⟨t2, a1, b1⟩ := kx E ce q u t T'.heap (locs ++ L) e1.symm (by rw [← e2]; exact X'.warmed.alike) hp hb k1 k2 k3 (by rw [e1]; exact hce) hcv hcl T' rfl X'
    exact ⟨t2, st.trans a1, b1⟩
theorem vx_calld {S SX : Type} {post : UInt64 → S → Prop} {px : SX → Prop} {B : S → State → Prop} {BX : String → SX → State → Prop} {AX : Nat → Prop} (hr : vx_Run p l e R s m args below meth c H locs cells slots mc ms (F0 m pc ls st0) rest (va_Qd post B A1 a) (vx_X px BX AX) free) (hS : va_S A0 H0 H locs) (hA : ∀ q, q < H.size → A1 q → A0 q) (hf : ∀ q, free q → A0 q) (hAX : ∀ q, q < H.size → AX q → A0 q)
    (kx : ∀ (E : String) (ce : Cell) (q9 : Addr) (u : SX) (t : State) (H1 : Heap) (locs1 : List Loc), t.heap = H1 → s.vm.Alike t.vm → px u → BX E u t → H.size ≤ H1.size → (∀ q : Nat, q < H.size → ¬ AX q → H1[q]? = H[q]?) → va_S A0 H0 H1 locs1 → H1[q9]? = some ce → ce.vm = .none → s.vm.findClass E = some ce.cls → vx_W p l e R s m args below meth c H1 locs1 (cells + mc) (slots + ms) Q (F0 m pc ls rest) q9)
    (kk : ∀ (r : UInt64) (u : S) (t : State) (H1 : Heap) (locs1 : List Loc), t.heap = H1 → s.vm.Alike t.vm → post r u → B u t → H.size ≤ H1.size → (∀ q : Nat, q < H.size → ¬ A1 q → H1[q]? = H[q]?) → va_S A0 H0 H1 locs1 → W p l e R s m args below meth c H1 locs1 (cells + mc) (slots + ms) Q (F0 m (pc + 3) ls (.double r :: rest))) : W p l e R s m args below meth c H locs cells slots Q (F0 m pc ls st0) := by
  intro T hT X
  rcases hr T hT X with ⟨v, st₀, t, T', L, h0, X', hL, e1, e2, ⟨⟨r, u, hv, hp, hb⟩, hF⟩, st⟩ | ⟨q, st₀, t, T', L, E, ce, h0, X', hL, e1, e2, ⟨u, hp, hb, hF⟩, hce, hcv, hcl, st⟩
  · cases hv
    obtain ⟨k1, k2, k3⟩ := vx_keep h0 e1 hS hA hf hL hF
    obtain ⟨t2, a1, b1⟩ := kk r u t T'.heap (locs ++ L) e1.symm (by rw [← e2]; exact X'.warmed.alike) hp hb k1 k2 k3 T' rfl X'
    exact ⟨t2, st t2 a1, b1⟩
  · obtain ⟨k1, k2, k3⟩ := vx_keep h0 e1 hS hAX hf hL hF
    obtain ⟨t2, a1, b1⟩ := kx E ce q u t T'.heap (locs ++ L) e1.symm (by rw [← e2]; exact X'.warmed.alike) hp hb k1 k2 k3 (by rw [e1]; exact hce) hcv hcl T' rfl X'
    exact ⟨t2, st.trans a1, b1⟩
theorem vx_callv {S SX : Type} {post : S → Prop} {px : SX → Prop} {B : S → State → Prop} {BX : String → SX → State → Prop} {AX : Nat → Prop} (hr : vx_Run p l e R s m args below meth c H locs cells slots mc ms (F0 m pc ls st0) rest (va_Qv post B A1 a) (vx_X px BX AX) free) (hS : va_S A0 H0 H locs) (hA : ∀ q, q < H.size → A1 q → A0 q) (hf : ∀ q, free q → A0 q) (hAX : ∀ q, q < H.size → AX q → A0 q)
    (kx : ∀ (E : String) (ce : Cell) (q9 : Addr) (u : SX) (t : State) (H1 : Heap) (locs1 : List Loc), t.heap = H1 → s.vm.Alike t.vm → px u → BX E u t → H.size ≤ H1.size → (∀ q : Nat, q < H.size → ¬ AX q → H1[q]? = H[q]?) → va_S A0 H0 H1 locs1 → H1[q9]? = some ce → ce.vm = .none → s.vm.findClass E = some ce.cls → vx_W p l e R s m args below meth c H1 locs1 (cells + mc) (slots + ms) Q (F0 m pc ls rest) q9)
    (kk : ∀ (u : S) (t : State) (H1 : Heap) (locs1 : List Loc), t.heap = H1 → s.vm.Alike t.vm → post u → B u t → H.size ≤ H1.size → (∀ q : Nat, q < H.size → ¬ A1 q → H1[q]? = H[q]?) → va_S A0 H0 H1 locs1 → W p l e R s m args below meth c H1 locs1 (cells + mc) (slots + ms) Q (F0 m (pc + 3) ls (rest))) : W p l e R s m args below meth c H locs cells slots Q (F0 m pc ls st0) := by
  intro T hT X
  rcases hr T hT X with ⟨v, st₀, t, T', L, h0, X', hL, e1, e2, ⟨⟨u, hv, hp, hb⟩, hF⟩, st⟩ | ⟨q, st₀, t, T', L, E, ce, h0, X', hL, e1, e2, ⟨u, hp, hb, hF⟩, hce, hcv, hcl, st⟩
  · cases hv
    obtain ⟨k1, k2, k3⟩ := vx_keep h0 e1 hS hA hf hL hF
    obtain ⟨t2, a1, b1⟩ := kk u t T'.heap (locs ++ L) e1.symm (by rw [← e2]; exact X'.warmed.alike) hp hb k1 k2 k3 T' rfl X'
    exact ⟨t2, st t2 a1, b1⟩
  · obtain ⟨k1, k2, k3⟩ := vx_keep h0 e1 hS hAX hf hL hF
    obtain ⟨t2, a1, b1⟩ := kx E ce q u t T'.heap (locs ++ L) e1.symm (by rw [← e2]; exact X'.warmed.alike) hp hb k1 k2 k3 (by rw [e1]; exact hce) hcv hcl T' rfl X'
    exact ⟨t2, st.trans a1, b1⟩
/-- caught by the row x of this method's table; the rows ahead don't take it -/
theorem vx_catch {own name : String} {E : String} {ce : Cell} {q : Addr} (hown : s.vm.findClass own = some m.cls) (pre : List ExceptionTableEntry) (x : ExceptionTableEntry) (suf : List ExceptionTableEntry) (hsplit : c.exceptionTable.toList = pre ++ x :: suf)
    (hpass : ∀ z ∈ pre, covers z pc = false ∨ (z.catchType ≠ 0 ∧ ∃ nm : String, (Cond.classLink own z.catchType nm).before args s = true ∧ va_Nc E nm s)) (hx : covers x pc = true) (h0 : x.catchType ≠ 0)
    (hlink : (Cond.classLink own x.catchType name).before args s = true) (hcast : (Cond.castable E name).before args s = true) (hcell : H[q]? = some ce) (hv : ce.vm = .none) (hcl : s.vm.findClass E = some ce.cls)
    (kk : W p l e R s m args below meth c H locs cells slots Q (F0 m x.handlerPc ls [.ref q])) : vx_W p l e R s m args below meth c H locs cells slots Q (F0 m pc ls rest) q := by
  intro T hT X
  have hpl : e.platform.magicAccessors = ({} : Platform).magicAccessors := by rw [X.admits.platform]
  obtain ⟨c3, c4, hc3, hc4, hasg⟩ := Cond.castable_spec hcast
  cases Option.some.inj (hc3.symm.trans hcl)
  obtain ⟨c5, hc5, hcl5⟩ := Cond.classLink_spec hown hlink e.platform hpl
  cases Option.some.inj (hc4.symm.trans hc5)
  obtain ⟨vm', X', st⟩ := X.thenCaughtThrough q (g := F0 m pc ls rest) rfl (Steps.refl _) (by rw [hT]; exact hcell) (by rw [hv]; rfl) (by obtain ⟨k9, h9, -⟩ := Vm.findClass_spec hcl; exact ⟨k9, h9⟩) pre x suf hsplit
    (fun z hz => by
      rcases hpass z hz with h | ⟨hz0, nm, hl1, hn1⟩
      · exact Or.inl h
      · obtain ⟨c6, hc6, hcl6⟩ := Cond.classLink_spec hown hl1 e.platform hpl
        obtain ⟨a8, b8, h1, h2, h3⟩ := hn1
        cases Option.some.inj (h1.symm.trans hcl)
        cases Option.some.inj (h2.symm.trans hc6)
        exact Or.inr ⟨hz0, _, hcl6, h3⟩) hx (Or.inr ⟨h0, c4, hcl5, hasg⟩)
  obtain ⟨t, a1, b1⟩ := kk (T.setVm vm') hT X'
  exact ⟨t, st.trans a1, b1⟩
end Rows
section Ends
variable {p : Program} {l : Launch} {e : Env} {R : Room} {s : State} {m : MethodId} {args : Array Value} {below : List Frame} {meth : Method} {c : Code} {H : Heap} {locs : List Loc} {cells slots : Nat} {Q : State → Prop}
variable {mc ms : Nat} {free : Addr → Prop} {A0 A1 : Nat → Prop} {H0 : Heap} {a : Array Value} {ls : Array Slot} {st0 rest : List Value}
variable {Qc : Array Value → State → Outcome → State → Prop} {XC : String → State → State → Prop}
/-- what a body that may throw owes at its end -/
def vx_MQ (below : List Frame) (Qc : Array Value → State → Outcome → State → Prop) (XC : String → State → State → Prop) (a : Array Value) (s : State) (mc ms : Nat) (free : Addr → Prop) : State → Prop := fun t =>
  ∃ o, t.status = .running ∧ Ended t below o ∧ vx_Q Qc XC mc ms free a s o t
theorem vx_ret {g : JFrame} {mc ms : Nat} (k : W p l e R s m args below meth c H locs cells slots (MQ below Qc args s mc ms free) g) : W p l e R s m args below meth c H locs cells slots (vx_MQ below Qc XC args s mc ms free) g := by
  intro T hT X
  obtain ⟨t, a1, o, b1, b2, b3, b4⟩ := k T hT X
  exact ⟨t, a1, o, b1, b2, Or.inl ⟨b3, b4⟩⟩
/-- not caught here: it goes on to the caller -/
theorem vx_widen {g : JFrame} {q : Addr} {k n : Nat} (h1 : cells ≤ k) (h2 : slots ≤ n) (kk : vx_W p l e R s m args below meth c H locs k n Q g q) : vx_W p l e R s m args below meth c H locs cells slots Q g q := fun T hT X => kk T hT (stand_widen X h1 h2)
theorem vx_out {pc : Nat} {E : String} {ce : Cell} {q : Addr} {mc ms : Nat} (hout : ∀ x ∈ c.exceptionTable.toList, covers x pc = false) (hlocks : meth.locks = false) (hcell : H[q]? = some ce) (hv : ce.vm = .none) (hcl : s.vm.findClass E = some ce.cls)
    (hx : ∀ t : State, t.heap = H → s.vm.Alike t.vm → XC E s t) (hf : ∀ z ∈ locs, free z.base) (hc : cells ≤ mc) (hs : slots ≤ ms) :
    vx_W p l e R s m args below meth c H locs cells slots (vx_MQ below Qc XC args s mc ms free) (F0 m pc ls rest) q := by
  intro T hT X
  obtain ⟨st1, hrun, hend, hW, hsm⟩ := X.leaveThrown q (g := F0 m pc ls rest) rfl rfl rfl hout hlocks
  have hcell9 : (T.setFrames (.throwing q :: below)).heap[q]? = some ce := by
    show T.heap[q]? = some ce
    rw [hT]; exact hcell
  exact ⟨_, st1, .threw q, hrun, hend, Or.inr ⟨q, rfl, E, ce, locs, hx _ hT hW.alike, hcell9, hv, hcl, hW, hsm.mono hc hs, hf⟩⟩
theorem vx_frame {U : State} {k n : Nat} (h : s.sameButNew ({ U with vm := s.vm } : State) locs k n) : s.heap.size ≤ U.heap.size ∧ ∀ q : Nat, q < s.heap.size → (∀ z ∈ locs, z.base ≠ q) → U.heap[q]? = s.heap[q]? := by
  obtain ⟨-, h2, -, -, -, h6⟩ := h
  refine ⟨h2, fun q hq hz => ?_⟩
  obtain ⟨c9, e1, e2, e3, e4⟩ := h6 q _ (Array.getElem?_eq_getElem hq)
  have hs : c9.slots = (s.heap[q]).slots := Array.ext_getElem? fun i => e4 i fun hm => hz _ hm rfl
  have h9 : c9 = s.heap[q] := by
    rw [hs] at e2
    exact e2
  have e5 : U.heap[q]? = some c9 := e1
  rw [e5, h9, Array.getElem?_eq_getElem hq]
/-- the words of a throw but the four that speak of the heap -/
def vx_no (w : Cond) : Bool := decide (w ≠ .isRef (.static Bundle.tN "UNASSIGNED_STACK" Bundle.steD)) && decide (w ≠ .isRef (.static Bundle.tN "SUPPRESSED_SENTINEL" Bundle.listD)) && decide (w ≠ .laysStatic Bundle.tN "UNASSIGNED_STACK" Bundle.steD) && decide (w ≠ .laysStatic Bundle.tN "SUPPRESSED_SENTINEL" Bundle.listD)
def vx_at0 (own : String) (ic : Nat) (X : String) (names : List String) : List Cond := (Bundle.ownAtoms0 own ic X names).filter vx_no
def vx_atS (own : String) (ic : Nat) (X : String) (names : List String) : List Cond := (Bundle.ownAtoms own ic X names).filter vx_no
/-- a word that the tables alone decide, or a good one -/
def vx_ot (w : Cond) : Bool := w.onTables || goodWord w
theorem vx_ot_at {args a' : Array Value} {s U : State} {w : Cond} (hW : s.WarmedH U.vm) (hvm : s.vm = U.vm) (hg : vx_ot w = true) (h : w.before args s = true) : w.before a' U = true := by
  simp only [vx_ot, Bool.or_eq_true] at hg
  rcases hg with hg | hg
  · exact va_tabs hg hvm h
  · exact word_at hW (good_of_word hg) h
/-- a list's words: the good ones out of the method's own list, the others by premises of their own -/
theorem vx_hat {args : Array Value} {s : State} {L B : List Cond} (h1 : ∀ w ∈ L.filter goodWord, w.before args s = true) (h2 : ∀ w ∈ L.filter (fun w => !goodWord w), w ∈ B) (h3 : ∀ w ∈ B, w.before args s = true) : ∀ w ∈ L, w.before args s = true := by
  intro w hw
  by_cases g : goodWord w = true
  · exact h1 w (List.mem_filter.mpr ⟨hw, g⟩)
  · refine h3 w (h2 w (List.mem_filter.mpr ⟨hw, ?_⟩))
    show (!goodWord w) = true
    cases hgw : goodWord w
    · rfl
    · exact absurd hgw g
theorem vx_c {args : Array Value} {s : State} {w : Cond} {B : List Cond} (h : w.before args s = true) (t : ∀ w ∈ B, w.before args s = true) : ∀ w' ∈ w :: B, w'.before args s = true := fun w' h' => (List.mem_cons.mp h').elim (fun e => by rw [e]; exact h) (t w')
theorem vx_n {args : Array Value} {s : State} : ∀ w ∈ ([] : List Cond), w.before args s = true := fun _ h => nomatch h
theorem vx_own {args : Array Value} {s : State} {L : List Cond} (h1 : ∀ w ∈ L.filter vx_no, w.before args s = true)
    (hU : (Cond.isRef (.static Bundle.tN "UNASSIGNED_STACK" Bundle.steD)).before args s = true) (hN : (Cond.isRef (.static Bundle.tN "SUPPRESSED_SENTINEL" Bundle.listD)).before args s = true)
    (lU : (Cond.laysStatic Bundle.tN "UNASSIGNED_STACK" Bundle.steD).before args s = true) (lN : (Cond.laysStatic Bundle.tN "SUPPRESSED_SENTINEL" Bundle.listD).before args s = true) : ∀ w ∈ L, w.before args s = true := by
  intro w hw
  by_cases e1 : w = .isRef (.static Bundle.tN "UNASSIGNED_STACK" Bundle.steD)
  · rw [e1]; exact hU
  · by_cases e2 : w = .isRef (.static Bundle.tN "SUPPRESSED_SENTINEL" Bundle.listD)
    · rw [e2]; exact hN
    · by_cases e3 : w = .laysStatic Bundle.tN "UNASSIGNED_STACK" Bundle.steD
      · rw [e3]; exact lU
      · by_cases e4 : w = .laysStatic Bundle.tN "SUPPRESSED_SENTINEL" Bundle.listD
        · rw [e4]; exact lN
        · exact h1 w (List.mem_filter.mpr ⟨hw, by unfold vx_no; rw [decide_eq_true e1, decide_eq_true e2, decide_eq_true e3, decide_eq_true e4]; rfl⟩)
/-- where a static field lies, its class's statics cell in H -/
def vx_L (C n d : String) (A : Nat → Prop) (U : State) (H : Heap) : Prop := ∃ (c : ClassId) (k : Class) (i : Nat) (f : Field) (a : Nat) (cell : Cell), U.vm.findClass C = some c ∧ U.fieldFound? C n d = some (c, k, i, f) ∧ f.isStatic = true ∧ k.statics = some a ∧ H[a]? = some cell ∧ cell.vm.isStatics = true ∧ cell.cls = c ∧ f.slot < cell.slots.size ∧ k.staticTypes[f.slot]? = some f.type ∧ ¬ A a
theorem vx_L.moved {C n d : String} {A : Nat → Prop} {u U : State} {H : Heap} (hvm : u.vm.Alike U.vm) (h : vx_L C n d A u H) : vx_L C n d A U H := by
  obtain ⟨c, k, i, f, a, cell, h1, h2, h3, h4, h5, h6, h7, h8, h9, h10⟩ := h
  obtain ⟨k', hi', he⟩ := State.fieldFound?_setVm hvm h2
  exact ⟨c, k', i, f, a, cell, by rw [hvm.findClass]; exact h1, hi', h3, by rw [he]; exact h4, h5, h6, h7, h8, by rw [he]; exact h9, h10⟩
theorem vx_L.kept {C n d : String} {A : Nat → Prop} {U : State} {H H1 : Heap} (h : vx_L C n d A U H) (hq : ∀ a : Nat, a < H.size → ¬ A a → H1[a]? = H[a]?) : vx_L C n d A U H1 := by
  obtain ⟨c, k, i, f, a, cell, h1, h2, h3, h4, h5, h6, h7, h8, h9, h10⟩ := h
  exact ⟨c, k, i, f, a, cell, h1, h2, h3, h4, by rw [hq a (Array.getElem?_eq_some_iff.mp h5).1 h10]; exact h5, h6, h7, h8, h9, h10⟩
theorem vx_L.narrow {C n d : String} {A B : Nat → Prop} {U : State} {H : Heap} (h : vx_L C n d A U H) (hAB : ∀ q, B q → A q) : vx_L C n d B U H := by
  obtain ⟨c, k, i, f, a, cell, h1, h2, h3, h4, h5, h6, h7, h8, h9, h10⟩ := h
  exact ⟨c, k, i, f, a, cell, h1, h2, h3, h4, h5, h6, h7, h8, h9, fun z => h10 (hAB _ z)⟩
theorem vx_L.word {C n d : String} {A : Nat → Prop} {s : State} {args : Array Value} (h : vx_L C n d A s s.heap) : (Cond.laysStatic C n d).before args s = true := by
  obtain ⟨c, k, i, f, a, cell, h1, h2, h3, h4, h5, h6, h7, h8, h9, -⟩ := h
  show (Cond.laysStatic C n d).holds args s none s [] = true
  exact Cond.laysStatic_of h1 h2 h3 h4 h5 h6 h7 h8 h9
/-- .. and what it holds: null or some reference -/
def vx_Zq (C n d : String) (A : Nat → Prop) (U : State) (H : Heap) : Prop := va_Zq C n d A U H ∧ vx_L C n d A U H
theorem vx_Zq.moved {C n d : String} {A : Nat → Prop} {u U : State} {H : Heap} (hvm : u.vm.Alike U.vm) (h : vx_Zq C n d A u H) : vx_Zq C n d A U H := ⟨va_Zq.moved hvm h.1, vx_L.moved hvm h.2⟩
theorem vx_Zq.kept {C n d : String} {A : Nat → Prop} {U : State} {H H1 : Heap} (h : vx_Zq C n d A U H) (hq : ∀ a : Nat, a < H.size → ¬ A a → H1[a]? = H[a]?) : vx_Zq C n d A U H1 := ⟨va_Zq.kept h.1 hq, vx_L.kept h.2 hq⟩
theorem vx_Zq.narrow {C n d : String} {A B : Nat → Prop} {U : State} {H : Heap} (h : vx_Zq C n d A U H) (hAB : ∀ q, B q → A q) : vx_Zq C n d B U H := ⟨va_Zq.narrow h.1 hAB, vx_L.narrow h.2 hAB⟩
theorem vx_Zqof {args : Array Value} {s : State} {C n d : String} {A : Nat → Prop} (hl : (Cond.laysStatic C n d).before args s = true) (hini : (Cond.initialized C).before args s = true) (h : (Cond.isRef (.static C n d)).before args s = true) (hA : ∀ a : Nat, a < s.heap.size → ¬ A a) : vx_Zq C n d A s s.heap := by
  refine ⟨va_Zqof hl hini h hA, ?_⟩
  obtain ⟨c, k, i, f, a, cell, h1, h2, h3, h4, h5, h6, h7, h8, h9⟩ := Cond.laysStatic_spec hl
  exact ⟨c, k, i, f, a, cell, h1, h2, h3, h4, h5, h6, h7, h8, h9, hA a (Array.getElem?_eq_some_iff.mp h5).1⟩
theorem vx_isRef {C n d : String} {v : Value} {A : Nat → Prop} {s : State} {args : Array Value} (h : va_Z C n d v A s s.heap) (hv : v.isRef = true) : (Cond.isRef (.static C n d)).before args s = true := by
  obtain ⟨cf, kf, fi, f, a, cell, h1, h2, h3, h4, h5, h6, h7, -⟩ := h
  have he : (Term.static C n d).eval args s none [] s = some v := by
    simp [Term.eval, State.fieldNamed?, h1, h2, h4, h5, h6, h7]
  simp only [Cond.before, Cond.holds, Cond.value, he]
  cases v <;> simp_all [Value.isRef]
theorem vx_isRefq {C n d : String} {A : Nat → Prop} {s : State} {args : Array Value} (h : va_Zq C n d A s s.heap) : (Cond.isRef (.static C n d)).before args s = true := by
  rcases h with h | ⟨t, h⟩
  · exact vx_isRef h rfl
  · exact vx_isRef h rfl
/-- the same frame, seen from here: as if the method were called anew in this heap -/
theorem vx_rebase {T : State} (X : Stand p l e R s m args below meth c T locs cells slots) {R' : Room} (hf : R'.frames ≤ R.frames) (hl : R'.locals ≤ R.locals) (hc : cells + R'.cells ≤ R.cells) (hs : slots + R'.slots ≤ R.slots) :
    Stand p l e R' ((T.setVm s.vm).setFrames (.invoking m args :: below)) m args below meth c T [] 0 0 := by
  have htop : (T.setVm s.vm).topJava?.isSome := X.here.top
  have hF : ((T.setVm s.vm).setFrames (.invoking m args :: below)).frames = .invoking m args :: below := State.frames_setFrames _ (State.cur_lt_of_top htop)
  obtain ⟨g₀, hg0⟩ := Option.isSome_iff_exists.mp htop
  obtain ⟨r, hr⟩ := State.topJava?_eq_some.mp hg0
  have hl9 : e.platform.stackLimits (T.setVm s.vm).me = e.platform.stackLimits s.me := X.limits
  have hb9 : (T.setVm s.vm).me.stackBytes = s.me.stackBytes := X.bytes
  refine ⟨X.admits, X.cas, X.clock, hF, ?_, X.hears, X.method, X.code, X.here, X.tail, X.warmed, ?_, ?_, ?_⟩
  · have h := X.room
    have hU : ((T.setVm s.vm).setFrames (.invoking m args :: below)).localsInUse = s.localsInUse := by
      rw [State.localsInUse_invoking hF (meth := meth) (c := c) X.method X.code, State.localsInUse_invoking X.frames X.method X.code]
    simp only [State.hasRoom, Bool.and_eq_true, decide_eq_true_eq] at h ⊢
    obtain ⟨⟨⟨⟨h1, h2, h3, h4, h5, h6⟩, h7⟩, h8⟩, h9⟩ := h
    rw [X.frames, List.length_cons] at h2 h3
    have q1 := X.heapSize
    have q2 := X.used
    simp only [hF, hU, List.length_cons, State.stackLimits_setFrames, State.stackBytes_setFrames, hl9, hb9]
    refine ⟨⟨⟨⟨by omega, by omega, by omega, by omega, by omega, h6⟩, ?_⟩, ?_⟩, X.book⟩
    · show T.heap.size + R'.cells ≤ e.platform.maxCells
      omega
    · show T.slotsUsed + R'.slots ≤ e.platform.maxSlots
      omega
  · rw [State.stackLimits_setFrames]; rfl
  · rw [State.stackBytes_setFrames]; rfl
  · refine ⟨?_, Nat.le_refl _, Nat.le_refl _, ?_, ?_, fun a c9 h9 => ⟨c9, h9, rfl, rfl, fun _ _ => rfl⟩⟩
    · obtain ⟨t, ht, -⟩ := State.frames_cons hr
      show T.setVm s.vm = { ((T.setVm s.vm).setFrames (.invoking m args :: below)).setFrames (T.setVm s.vm).frames with heap := T.heap, slotsUsed := T.slotsUsed }
      rw [State.setFrames_setFrames, State.setFrames_self ht]
      rfl
    · show T.slotsUsed = T.slotsUsed + ((T.heap.toList.drop T.heap.size).map (·.slots.size)).sum
      rw [List.drop_eq_nil_of_le (Nat.le_of_eq Array.length_toList)]
      rfl
    · show ((T.heap.toList.drop T.heap.size).map (·.slots.size)).sum ≤ 0
      rw [List.drop_eq_nil_of_le (Nat.le_of_eq Array.length_toList)]
      exact Nat.le_refl _
/-- 'throw new E()': new; dup; invokespecial; athrow -/
theorem vx_throw0 {cc : ByteArray} {pc : Nat} (hexec : p.tables.exec = Jvm.exec) (hb : c.code = cc) (hl : l.stackTraces = false) {own cls : String} {names : List String} {ik ic mc ms : Nat} {A : Nat → Prop}
    (hown : s.vm.findClass own = some m.cls) (hcls : Bundle.fit cls = true) (hnames : ∀ n ∈ names, Bundle.fit n = true)
    (hk : (Cond.classLink own ik cls).before args s = true) (hini : (Cond.initialized cls).before args s = true) (hat : ∀ w ∈ vx_at0 own ic cls names, w.before args s = true)
    (hgood : ∀ w ∈ Cond.classLink own ik cls :: Cond.initialized cls :: vx_at0 own ic cls names, vx_ot w = true)
    (hU : vx_Zq Bundle.tN "UNASSIGNED_STACK" Bundle.steD A s s.heap) (hN : vx_Zq Bundle.tN "SUPPRESSED_SENTINEL" Bundle.listD A s s.heap) (hS : va_S A s.heap H locs) (hsize : ls.size = c.maxLocals)
    (d0 : decode cc pc = .ok (.new ik, 3)) (d3 : decode cc (pc + 3) = .ok (.dup, 1)) (d4 : decode cc (pc + 4) = .ok (.invokespecial ic, 3)) (d7 : decode cc (pc + 7) = .ok (.athrow, 1))
    (hout : ∀ x ∈ c.exceptionTable.toList, covers x (pc + 7) = false)
    (hRframes : names.length + 3 < R.frames) (hRlocals : (rest.map fun v => v.category).sum + (13 * (names.length + 1) + 42) ≤ R.locals) (hRcells : cells + 1 ≤ R.cells) (hRslots : slots + 6 ≤ R.slots) (hlocks : meth.locks = false)
    (hx : ∀ t : State, s.vm.Alike t.vm → H.size ≤ t.heap.size → (∀ q : Nat, q < H.size → t.heap[q]? = H[q]?) → XC cls s t)
    (hf : ∀ z ∈ locs, free z.base) (hc : cells + 1 ≤ mc) (hs : slots + 6 ≤ ms) :
    W p l e R s m args below meth c H locs cells slots (vx_MQ below Qc XC args s mc ms free) (F0 m pc ls rest) := by
  intro T hT X
  have htr : e.platform.stackTraces = false := (show e.platform.stackTraces = l.stackTraces by rw [X.admits.platform]).trans hl
  have Y := vx_rebase X (R' := { frames := R.frames, locals := R.locals, cells := 1, slots := 6 }) (Nat.le_refl _) (Nat.le_refl _) hRcells hRslots
  obtain ⟨s', hA⟩ : ∃ z, z = (T.setVm s.vm).setFrames (.invoking m args :: below) := ⟨_, rfl⟩
  rw [← hA] at Y
  have hvm : s'.vm = s.vm := by rw [hA]; rfl
  have hhp : s'.heap = H := by rw [hA]; exact hT
  have hW0 : s.WarmedH s'.vm := by rw [hvm]; exact State.WarmedH.refl s
  have hat' : ∀ w ∈ vx_at0 own ic cls names, w.before args s' = true := fun w hw => vx_ot_at hW0 hvm.symm (hgood w (List.mem_cons_of_mem _ (List.mem_cons_of_mem _ hw))) (hat w hw)
  have hk' : (Cond.classLink own ik cls).before args s' = true := vx_ot_at hW0 hvm.symm (hgood _ List.mem_cons_self) hk
  have hini' : (Cond.initialized cls).before args s' = true := vx_ot_at hW0 hvm.symm (hgood _ (List.mem_cons_of_mem _ List.mem_cons_self)) hini
  have hU' : vx_Zq Bundle.tN "UNASSIGNED_STACK" Bundle.steD A s' s'.heap := by rw [hhp]; exact vx_Zq.moved hW0.alike (hU.kept hS.2.1)
  have hN' : vx_Zq Bundle.tN "SUPPRESSED_SENTINEL" Bundle.listD A s' s'.heap := by rw [hhp]; exact vx_Zq.moved hW0.alike (hN.kept hS.2.1)
  have h : ∀ w ∈ Bundle.ownAtoms0 own ic cls names, w.before args s' = true := vx_own hat' (vx_isRefq hU'.1) (vx_isRefq hN'.1) hU'.2.word hN'.2.word
  have hown' : s'.vm.findClass own = some m.cls := by rw [hvm]; exact hown
  have hins : (Cond.instantiable cls 6).before args s' = true := h _ (by simp [Bundle.ownAtoms0])
  obtain ⟨vm₁, cX, kX, hfX, hkX, -, -, X₁, st1⟩ := Y.newCold hexec (own := own) (C := cls) (index := ik) (n := 6) hown' hk' hins hini'
    (g := F0 m pc ls rest) rfl (by rw [hb]; exact d0) (Nat.le_refl _) (Nat.le_refl _)
  generalize hT1 : (T.setVm vm₁).pushCell { cls := cX, slots := kX.instanceTypes.map defaultValue, vm := .none } = T1 at X₁ st1
  have hcat : (Value.ref T.heap.size).category = 1 := rfl
  have hcellA : T1.heap[T.heap.size]? = some (freshCell cX kX) := by rw [← hT1]; exact State.heap_pushCell_size _ _
  have d3' : decode c.code (pc + 3) = .ok (.dup, 1) := by rw [hb]; exact d3
  obtain ⟨U, hsteps, hrun, hend, hW, hsame, ce, hce, hO⟩ := X₁.ctorThrow0 hexec htr (own := own) (cls := cls) (names := names) (ic := ic) hown' hcls hnames h (fun x hx => nomatch hx) hfX hkX hcellA (by rw [hhp, hT]; exact Nat.le_refl _)
    (g := { method := m, pc := pc + 4, locals := ls, stack := .ref T.heap.size :: .ref T.heap.size :: rest, locked := none }) rfl hsize rfl rfl (rest := rest) rfl
    (by rw [hb]; exact d4) (by rw [hb]; exact d7) hout hRframes (by simp only [List.map_cons, List.sum_cons, hcat]; omega) hlocks
  obtain ⟨f1, f2⟩ := vx_frame hsame
  rw [hhp] at f1 f2
  have hWs : s.WarmedH U.vm := State.WarmedH.trans hW0 hW
  have hcl : s.vm.findClass cls = some ce.cls := by
    have h9 := hO.cls
    rw [hvm] at h9
    exact h9
  have hall : s.sameButNew ({ U with vm := s.vm } : State) locs mc ms := by
    subst hA
    obtain ⟨e1, e2⟩ := hsame
    rw [State.setFrames_setFrames] at e1
    have h2 : (T.setVm s.vm).sameButNew ({ U with vm := s.vm } : State) [] (0 + 1) (0 + 6) := ⟨e1, e2⟩
    have h3 := X.same.trans h2
    rw [List.append_nil] at h3
    exact h3.mono hc hs
  refine ⟨U, ?_, .threw T.heap.size, hrun, hend, Or.inr ⟨T.heap.size, rfl, cls, ce, locs, hx U hWs.alike f1 (fun q hq => f2 q hq (fun z hz => nomatch hz)), hce, hO.vm, hcl, hWs, hall, hf⟩⟩
  refine st1 _ ?_
  show Steps p.tables e below (T1.setTop { method := m, pc := pc + 3, locals := ls, stack := .ref T.heap.size :: rest, locked := none }) _
  jvm_step X₁.here [X₁.here.top, hexec, d3', Value.category]
  exact hsteps
/-- 'throw new E("text")': new; dup; ldc; invokespecial; athrow -/
theorem vx_throwS {cc : ByteArray} {pc : Nat} (hexec : p.tables.exec = Jvm.exec) (hb : c.code = cc) (hl : l.stackTraces = false) {own cls text : String} {names : List String} {ik is ic mc ms sa : Nat} {A : Nat → Prop}
    (hown : s.vm.findClass own = some m.cls) (hcls : Bundle.fit cls = true) (hnames : ∀ n ∈ names, Bundle.fit n = true)
    (hk : (Cond.classLink own ik cls).before args s = true) (hini : (Cond.initialized cls).before args s = true) (hstr : vk_R own is text sa s) (hat : ∀ w ∈ vx_atS own ic cls names, w.before args s = true)
    (hgood : ∀ w ∈ Cond.classLink own ik cls :: Cond.initialized cls :: vx_atS own ic cls names, vx_ot w = true)
    (hU : vx_Zq Bundle.tN "UNASSIGNED_STACK" Bundle.steD A s s.heap) (hN : vx_Zq Bundle.tN "SUPPRESSED_SENTINEL" Bundle.listD A s s.heap) (hS : va_S A s.heap H locs) (hsize : ls.size = c.maxLocals)
    (d0 : decode cc pc = .ok (.new ik, 3)) (d3 : decode cc (pc + 3) = .ok (.dup, 1)) (d4 : decode cc (pc + 4) = .ok (.ldc is, 2)) (d6 : decode cc (pc + 6) = .ok (.invokespecial ic, 3)) (d9 : decode cc (pc + 9) = .ok (.athrow, 1))
    (hout : ∀ x ∈ c.exceptionTable.toList, covers x (pc + 9) = false)
    (hRframes : names.length + 3 < R.frames) (hRlocals : (rest.map fun v => v.category).sum + (13 * (names.length + 1) + 43) ≤ R.locals) (hRcells : cells + 1 ≤ R.cells) (hRslots : slots + 6 ≤ R.slots) (hlocks : meth.locks = false)
    (hx : ∀ t : State, s.vm.Alike t.vm → H.size ≤ t.heap.size → (∀ q : Nat, q < H.size → t.heap[q]? = H[q]?) → XC cls s t)
    (hf : ∀ z ∈ locs, free z.base) (hc : cells + 1 ≤ mc) (hs : slots + 6 ≤ ms) :
    W p l e R s m args below meth c H locs cells slots (vx_MQ below Qc XC args s mc ms free) (F0 m pc ls rest) := by
  intro T hT X
  have htr : e.platform.stackTraces = false := (show e.platform.stackTraces = l.stackTraces by rw [X.admits.platform]).trans hl
  have Y := vx_rebase X (R' := { frames := R.frames, locals := R.locals, cells := 1, slots := 6 }) (Nat.le_refl _) (Nat.le_refl _) hRcells hRslots
  obtain ⟨s', hA⟩ : ∃ z, z = (T.setVm s.vm).setFrames (.invoking m args :: below) := ⟨_, rfl⟩
  rw [← hA] at Y
  have hvm : s'.vm = s.vm := by rw [hA]; rfl
  have hhp : s'.heap = H := by rw [hA]; exact hT
  have hW0 : s.WarmedH s'.vm := by rw [hvm]; exact State.WarmedH.refl s
  have hat' : ∀ w ∈ vx_atS own ic cls names, w.before args s' = true := fun w hw => vx_ot_at hW0 hvm.symm (hgood w (List.mem_cons_of_mem _ (List.mem_cons_of_mem _ hw))) (hat w hw)
  have hk' : (Cond.classLink own ik cls).before args s' = true := vx_ot_at hW0 hvm.symm (hgood _ List.mem_cons_self) hk
  have hini' : (Cond.initialized cls).before args s' = true := vx_ot_at hW0 hvm.symm (hgood _ (List.mem_cons_of_mem _ List.mem_cons_self)) hini
  have hU' : vx_Zq Bundle.tN "UNASSIGNED_STACK" Bundle.steD A s' s'.heap := by rw [hhp]; exact vx_Zq.moved hW0.alike (hU.kept hS.2.1)
  have hN' : vx_Zq Bundle.tN "SUPPRESSED_SENTINEL" Bundle.listD A s' s'.heap := by rw [hhp]; exact vx_Zq.moved hW0.alike (hN.kept hS.2.1)
  have h : ∀ w ∈ Bundle.ownAtoms own ic cls names, w.before args s' = true := vx_own hat' (vx_isRefq hU'.1) (vx_isRefq hN'.1) hU'.2.word hN'.2.word
  have hown' : s'.vm.findClass own = some m.cls := by rw [hvm]; exact hown
  have hins : (Cond.instantiable cls 6).before args s' = true := h _ (by simp [Bundle.ownAtoms])
  obtain ⟨vm₁, cX, kX, hfX, hkX, -, -, X₁, st1⟩ := Y.newCold hexec (own := own) (C := cls) (index := ik) (n := 6) hown' hk' hins hini'
    (g := F0 m pc ls rest) rfl (by rw [hb]; exact d0) (Nat.le_refl _) (Nat.le_refl _)
  generalize hT1 : (T.setVm vm₁).pushCell { cls := cX, slots := kX.instanceTypes.map defaultValue, vm := .none } = T1 at X₁ st1
  have hcat : (Value.ref T.heap.size).category = 1 := rfl
  have hcellA : T1.heap[T.heap.size]? = some (freshCell cX kX) := by rw [← hT1]; exact State.heap_pushCell_size _ _
  have d3' : decode c.code (pc + 3) = .ok (.dup, 1) := by rw [hb]; exact d3
  have d4' : decode c.code (pc + 4) = .ok (.ldc is, 2) := by rw [hb]; exact d4
  have hstr' : vk_R own is text sa s' := vk_R.warm hW0 hstr
  obtain ⟨U, hsteps, hrun, hend, hW, hsame, ce, hce, hO⟩ := X₁.ctorThrowS hexec htr (own := own) (cls := cls) (names := names) (ic := ic) hown' hcls hnames h (fun x hx => nomatch hx) hfX hkX hcellA (by rw [hhp, hT]; exact Nat.le_refl _) (msg := .ref sa) rfl
    (g := { method := m, pc := pc + 6, locals := ls, stack := .ref sa :: .ref T.heap.size :: .ref T.heap.size :: rest, locked := none }) rfl hsize rfl rfl (rest := rest) rfl
    (by rw [hb]; exact d6) (by rw [hb]; exact d9) hout hRframes (by simp only [List.map_cons, List.sum_cons, hcat]; omega) hlocks
  obtain ⟨f1, f2⟩ := vx_frame hsame
  rw [hhp] at f1 f2
  have hWs : s.WarmedH U.vm := State.WarmedH.trans hW0 hW
  have hcl : s.vm.findClass cls = some ce.cls := by
    have h9 := hO.cls
    rw [hvm] at h9
    exact h9
  have hall : s.sameButNew ({ U with vm := s.vm } : State) locs mc ms := by
    subst hA
    obtain ⟨e1, e2⟩ := hsame
    rw [State.setFrames_setFrames] at e1
    have h2 : (T.setVm s.vm).sameButNew ({ U with vm := s.vm } : State) [] (0 + 1) (0 + 6) := ⟨e1, e2⟩
    have h3 := X.same.trans h2
    rw [List.append_nil] at h3
    exact h3.mono hc hs
  refine ⟨U, ?_, .threw T.heap.size, hrun, hend, Or.inr ⟨T.heap.size, rfl, cls, ce, locs, hx U hWs.alike f1 (fun q hq => f2 q hq (fun z hz => nomatch hz)), hce, hO.vm, hcl, hWs, hall, hf⟩⟩
  refine st1 _ ?_
  show Steps p.tables e below (T1.setTop { method := m, pc := pc + 3, locals := ls, stack := .ref T.heap.size :: rest, locked := none }) _
  jvm_step X₁.here [X₁.here.top, hexec, d3', Value.category]
  exact X₁.ldcString hexec (own := own) (text := text) (index := is) (a := sa) hown' hstr'.1 hstr'.2
    (g := { method := m, pc := pc + 4, locals := ls, stack := .ref T.heap.size :: .ref T.heap.size :: rest, locked := none }) rfl d4' _ hsteps
/-- 'throw new E("text")', the text by a wide index -/
theorem vx_throwSW {cc : ByteArray} {pc : Nat} (hexec : p.tables.exec = Jvm.exec) (hb : c.code = cc) (hl : l.stackTraces = false) {own cls text : String} {names : List String} {ik is ic mc ms sa : Nat} {A : Nat → Prop}
    (hown : s.vm.findClass own = some m.cls) (hcls : Bundle.fit cls = true) (hnames : ∀ n ∈ names, Bundle.fit n = true)
    (hk : (Cond.classLink own ik cls).before args s = true) (hini : (Cond.initialized cls).before args s = true) (hstr : vk_R own is text sa s) (hat : ∀ w ∈ vx_atS own ic cls names, w.before args s = true)
    (hgood : ∀ w ∈ Cond.classLink own ik cls :: Cond.initialized cls :: vx_atS own ic cls names, vx_ot w = true)
    (hU : vx_Zq Bundle.tN "UNASSIGNED_STACK" Bundle.steD A s s.heap) (hN : vx_Zq Bundle.tN "SUPPRESSED_SENTINEL" Bundle.listD A s s.heap) (hS : va_S A s.heap H locs) (hsize : ls.size = c.maxLocals)
    (d0 : decode cc pc = .ok (.new ik, 3)) (d3 : decode cc (pc + 3) = .ok (.dup, 1)) (d4 : decode cc (pc + 4) = .ok (.ldc_w is, 3)) (d7 : decode cc (pc + 7) = .ok (.invokespecial ic, 3)) (d10 : decode cc (pc + 10) = .ok (.athrow, 1))
    (hout : ∀ x ∈ c.exceptionTable.toList, covers x (pc + 10) = false)
    (hRframes : names.length + 3 < R.frames) (hRlocals : (rest.map fun v => v.category).sum + (13 * (names.length + 1) + 43) ≤ R.locals) (hRcells : cells + 1 ≤ R.cells) (hRslots : slots + 6 ≤ R.slots) (hlocks : meth.locks = false)
    (hx : ∀ t : State, s.vm.Alike t.vm → H.size ≤ t.heap.size → (∀ q : Nat, q < H.size → t.heap[q]? = H[q]?) → XC cls s t)
    (hf : ∀ z ∈ locs, free z.base) (hc : cells + 1 ≤ mc) (hs : slots + 6 ≤ ms) :
    W p l e R s m args below meth c H locs cells slots (vx_MQ below Qc XC args s mc ms free) (F0 m pc ls rest) := by
  intro T hT X
  have htr : e.platform.stackTraces = false := (show e.platform.stackTraces = l.stackTraces by rw [X.admits.platform]).trans hl
  have Y := vx_rebase X (R' := { frames := R.frames, locals := R.locals, cells := 1, slots := 6 }) (Nat.le_refl _) (Nat.le_refl _) hRcells hRslots
  obtain ⟨s', hA⟩ : ∃ z, z = (T.setVm s.vm).setFrames (.invoking m args :: below) := ⟨_, rfl⟩
  rw [← hA] at Y
  have hvm : s'.vm = s.vm := by rw [hA]; rfl
  have hhp : s'.heap = H := by rw [hA]; exact hT
  have hW0 : s.WarmedH s'.vm := by rw [hvm]; exact State.WarmedH.refl s
  have hat' : ∀ w ∈ vx_atS own ic cls names, w.before args s' = true := fun w hw => vx_ot_at hW0 hvm.symm (hgood w (List.mem_cons_of_mem _ (List.mem_cons_of_mem _ hw))) (hat w hw)
  have hk' : (Cond.classLink own ik cls).before args s' = true := vx_ot_at hW0 hvm.symm (hgood _ List.mem_cons_self) hk
  have hini' : (Cond.initialized cls).before args s' = true := vx_ot_at hW0 hvm.symm (hgood _ (List.mem_cons_of_mem _ List.mem_cons_self)) hini
  have hU' : vx_Zq Bundle.tN "UNASSIGNED_STACK" Bundle.steD A s' s'.heap := by rw [hhp]; exact vx_Zq.moved hW0.alike (hU.kept hS.2.1)
  have hN' : vx_Zq Bundle.tN "SUPPRESSED_SENTINEL" Bundle.listD A s' s'.heap := by rw [hhp]; exact vx_Zq.moved hW0.alike (hN.kept hS.2.1)
  have h : ∀ w ∈ Bundle.ownAtoms own ic cls names, w.before args s' = true := vx_own hat' (vx_isRefq hU'.1) (vx_isRefq hN'.1) hU'.2.word hN'.2.word
  have hown' : s'.vm.findClass own = some m.cls := by rw [hvm]; exact hown
  have hins : (Cond.instantiable cls 6).before args s' = true := h _ (by simp [Bundle.ownAtoms])
  obtain ⟨vm₁, cX, kX, hfX, hkX, -, -, X₁, st1⟩ := Y.newCold hexec (own := own) (C := cls) (index := ik) (n := 6) hown' hk' hins hini'
    (g := F0 m pc ls rest) rfl (by rw [hb]; exact d0) (Nat.le_refl _) (Nat.le_refl _)
  generalize hT1 : (T.setVm vm₁).pushCell { cls := cX, slots := kX.instanceTypes.map defaultValue, vm := .none } = T1 at X₁ st1
  have hcat : (Value.ref T.heap.size).category = 1 := rfl
  have hcellA : T1.heap[T.heap.size]? = some (freshCell cX kX) := by rw [← hT1]; exact State.heap_pushCell_size _ _
  have d3' : decode c.code (pc + 3) = .ok (.dup, 1) := by rw [hb]; exact d3
  have d4' : decode c.code (pc + 4) = .ok (.ldc_w is, 3) := by rw [hb]; exact d4
  have hstr' : vk_R own is text sa s' := vk_R.warm hW0 hstr
  obtain ⟨U, hsteps, hrun, hend, hW, hsame, ce, hce, hO⟩ := X₁.ctorThrowS hexec htr (own := own) (cls := cls) (names := names) (ic := ic) hown' hcls hnames h (fun x hx => nomatch hx) hfX hkX hcellA (by rw [hhp, hT]; exact Nat.le_refl _) (msg := .ref sa) rfl
    (g := { method := m, pc := pc + 7, locals := ls, stack := .ref sa :: .ref T.heap.size :: .ref T.heap.size :: rest, locked := none }) rfl hsize rfl rfl (rest := rest) rfl
    (by rw [hb]; exact d7) (by rw [hb]; exact d10) hout hRframes (by simp only [List.map_cons, List.sum_cons, hcat]; omega) hlocks
  obtain ⟨f1, f2⟩ := vx_frame hsame
  rw [hhp] at f1 f2
  have hWs : s.WarmedH U.vm := State.WarmedH.trans hW0 hW
  have hcl : s.vm.findClass cls = some ce.cls := by
    have h9 := hO.cls
    rw [hvm] at h9
    exact h9
  have hall : s.sameButNew ({ U with vm := s.vm } : State) locs mc ms := by
    subst hA
    obtain ⟨e1, e2⟩ := hsame
    rw [State.setFrames_setFrames] at e1
    have h2 : (T.setVm s.vm).sameButNew ({ U with vm := s.vm } : State) [] (0 + 1) (0 + 6) := ⟨e1, e2⟩
    have h3 := X.same.trans h2
    rw [List.append_nil] at h3
    exact h3.mono hc hs
  refine ⟨U, ?_, .threw T.heap.size, hrun, hend, Or.inr ⟨T.heap.size, rfl, cls, ce, locs, hx U hWs.alike f1 (fun q hq => f2 q hq (fun z hz => nomatch hz)), hce, hO.vm, hcl, hWs, hall, hf⟩⟩
  refine st1 _ ?_
  show Steps p.tables e below (T1.setTop { method := m, pc := pc + 3, locals := ls, stack := .ref T.heap.size :: rest, locked := none }) _
  jvm_step X₁.here [X₁.here.top, hexec, d3', Value.category]
  exact X₁.ldcStringW hexec (own := own) (text := text) (index := is) (a := sa) hown' hstr'.1 hstr'.2
    (g := { method := m, pc := pc + 4, locals := ls, stack := .ref T.heap.size :: .ref T.heap.size :: rest, locked := none }) rfl d4' _ hsteps
end Ends
section Bodies
variable {l : Launch}
theorem vx_ofW {y : MethodName} {ws ws' : List Cond} {rm : Room} {Pc : Array Value → State → Prop} {Qc : Array Value → State → Outcome → State → Prop} {XC : String → State → State → Prop} {mc ms : Nat} {free : Addr → Prop} {cc : ByteArray} {maxL : Nat} {ret : Option FieldType}
    (hy : plainName y.cls = true) (hw : ws = Cond.code y cc maxL ret :: ws')
    (body : ∀ p e s m args below meth c s₁, BodyLoose p l y (headSpec ws rm) cc maxL ret e s m args below meth c s₁ → c.maxLocals = maxL → (∀ x ∈ c.exceptionTable.toList, False) → Pc args s →
      W p l e (headSpec ws rm).room s m args below meth c s.heap [] 0 0 (vx_MQ below Qc XC args s mc ms free) (entryFrame m args maxL)) : vx_Met l y ws rm Pc Qc XC mc ms free := by
  refine MetFree.of_bodyS (code := cc) (maxLocals := maxL) (ret := ret) hy ?_ ?_
  · intro args s m h hn
    obtain ⟨meth, c, h1, h2, h3, h4, h5, h6, -, -⟩ := Cond.code_spec hn (atoms_spec (ws := ws) h _ (by rw [hw]; exact List.mem_cons_self))
    exact ⟨meth, c, h1, h2, h3, h4, h5, h6⟩
  · intro p e s m args below meth c s₁ B hml hP _
    have hh0 : s₁.heap = s.heap := by rw [B.state]; rfl
    have ht : ∀ x ∈ c.exceptionTable.toList, False := by
      obtain ⟨meth9, c9, h1, h2, -, -, -, -, h7, -⟩ := Cond.code_spec B.named (atoms_spec (ws := ws) B.pre _ (by rw [hw]; exact List.mem_cons_self))
      cases Option.some.inj (h1.symm.trans B.method)
      cases Option.some.inj (h2.symm.trans (Stand.of_body B).code)
      intro x hx
      rw [Array.isEmpty_iff.mp h7] at hx
      cases hx
    obtain ⟨t, a1, o, b1, b2, b3⟩ := body p e s m args below meth c s₁ B hml ht hP s₁ hh0 (Stand.of_body B)
    exact ⟨t, o, a1, b1, b2, b3⟩
/-- the table of a body with handlers -/
theorem vx_table {p : Program} {x y : MethodName} {S : Spec} {cc bytes : ByteArray} {maxL maxL' : Nat} {ret ret' : Option FieldType} {e : Env} {s s₁ : State} {m : MethodId} {args : Array Value} {below : List Frame} {meth : Method} {c : Code} {hh : List (Nat × Nat × Nat × Nat)}
    (B : BodyLoose p l y S cc maxL ret e s m args below meth c s₁) (h : (Cond.codeWith y bytes maxL' ret' hh).before args s = true) : c.exceptionTable.toList = tableOf hh := by
  obtain ⟨m9, meth9, c9, hn9, h1, h2, -, -, h6, -⟩ := Cond.codeWith_spec h
  cases Option.some.inj (hn9.symm.trans B.named)
  cases Option.some.inj (h1.symm.trans B.method)
  cases Option.some.inj (h2.symm.trans (Stand.of_body B).code)
  rw [← h6, table_eq]
end Bodies
end VXA
/-! ===== END ===== -/
/-! ===== BEGIN a static call of a method with an exception table ===== -/
section VXS
variable {p : Program} {l : Launch} {e : Env} {R : Room} {s : State} {m : MethodId} {args : Array Value} {below : List Frame} {meth : Method} {c : Code} {T : State} {H : Heap} {locs : List Loc} {cells slots : Nat}
abbrev vx_CSW (R : Room) (s : State) (args : Array Value) (own : String) (index : Nat) (y : MethodName) (bytes : ByteArray) (maxL : Nat) (ret : Option FieldType) (hh : List (Nat × Nat × Nat × Nat)) (ws : List Cond) (rm : Room) (mc ms n : Nat) : Prop :=
  (rm.cells = mc ∧ rm.slots = ms ∧ rm.frames + 1 ≤ R.frames ∧ 8 + (maxL + 11) + rm.locals ≤ R.locals ∧ (∀ w ∈ ws, ∀ (a' : Array Value) (U : State), s.WarmedH U.vm → w.before a' U = true) ∧ Cond.codeWith y bytes maxL ret hh ∈ ws) ∧
  (Cond.codeWith y bytes maxL ret hh).before args s = true ∧ (Cond.initialized y.cls).before args s = true ∧ (y.cls ≠ "java/lang/invoke/MethodHandle" ∧ y.cls ≠ "java/lang/invoke/VarHandle") ∧
  (∀ sig, parseMethodDescriptor y.desc = some sig → n = sig.parameters.length) ∧ (Cond.methodLink own index y).before args s = true ∧ (Cond.static y).before args s = true
theorem vx_cwSW {own : String} {index maxL mc ms : Nat} {y : MethodName} {bytes : ByteArray} {ret : Option FieldType} {hh : List (Nat × Nat × Nat × Nat)} {Ts ws ws' : List Cond} {rm : Room} (n : Nat) (ht : ∀ w ∈ Ts, w.before args s = true) (hT : GoodIn Ts (va_wsS own index y ws)) (hw : ws = Cond.codeWith y bytes maxL ret hh :: ws') (hrc : rm.cells = mc) (hrs : rm.slots = ms)
    (hd : y.cls ≠ "java/lang/invoke/MethodHandle" ∧ y.cls ≠ "java/lang/invoke/VarHandle" ∧ (parseMethodDescriptor y.desc).map (fun d => d.parameters.length) = some n) (hR : rm.frames + 1 ≤ R.frames ∧ 8 + (maxL + 11) + rm.locals ≤ R.locals) :
    vx_CSW R s args own index y bytes maxL ret hh ws rm mc ms n := by
  have ok : ∀ w ∈ va_wsS own index y ws, w.before args s = true := fun w h => ht w (hT w h).1
  have hG : GoodIn Ts ws := fun w h => hT w (by unfold va_wsS; exact List.mem_append_right _ h)
  have hc : Cond.codeWith y bytes maxL ret hh ∈ ws := by rw [hw]; exact List.mem_cons_self
  refine ⟨⟨hrc, hrs, hR.1, hR.2, pay_in ht hG, hc⟩, ht _ (hG _ hc).1, ok _ (by simp [va_wsS]), ⟨hd.1, hd.2.1⟩, fun sig h => ?_, ok _ (by simp [va_wsS]), ok _ (by simp [va_wsS])⟩
  have h2 := hd.2.2
  rw [h] at h2
  exact (Option.some.inj h2).symm
theorem vx_callSW (X : Stand p l e R s m args below meth c T locs cells slots) (hexec : p.tables.exec = Jvm.exec) {own : String} {index : Nat} {y : MethodName} {bytes : ByteArray} {maxL : Nat} {ret : Option FieldType} {hh : List (Nat × Nat × Nat × Nat)}
    (hown : s.vm.findClass own = some m.cls) (hlink : (Cond.methodLink own index y).before args s = true) (hstat : (Cond.static y).before args s = true) (hinit : (Cond.initialized y.cls).before args s = true)
    (hcode : (Cond.codeWith y bytes maxL ret hh).before args s = true) (hy : y.cls ≠ "java/lang/invoke/MethodHandle" ∧ y.cls ≠ "java/lang/invoke/VarHandle")
    {W9 : Nat} {Pre : Pt → Array Value → Prop} {Post : Pt → Array Value → Option Value → Pt → Prop} (hK : Back l R p e below s args y 3 W9 Pre Post)
    {g : JFrame} (hg : g.method = m) (hsize : g.locals.size = c.maxLocals) {argsL rest : List Value} (hlen : ∀ sig, parseMethodDescriptor y.desc = some sig → argsL.length = sig.parameters.length)
    (hstack : g.stack = argsL.reverse ++ rest) (hW : 2 * g.monitorRoom + (rest.map fun v => v.category).sum ≤ W9) (hdg : decode c.code g.pc = .ok (.invokestatic index, 3))
    (hpre : ∀ vm₁, s.WarmedH vm₁ → Pre ⟨T.setVm vm₁, locs, cells, slots⟩ argsL.toArray) :
    ∃ (v : Option Value) (vm₁ : Vm) (B : Pt), s.WarmedH vm₁ ∧ Stand p l e R s m args below meth c B.U B.locs B.cells B.slots ∧ Post ⟨T.setVm vm₁, locs, cells, slots⟩ argsL.toArray v B ∧
      ∀ target, Steps p.tables e below (B.U.setTop { g with pc := g.pc + 3, stack := v.toList ++ rest }) target → Steps p.tables e below (T.setTop g) target := by
  obtain ⟨mk, methM, cM, hnamed, hmethM, -, -, -, -, -, -, hsigM⟩ := Cond.codeWith_spec hcode
  have hstatic : methM.isStatic = true := Cond.static_spec hnamed hmethM hstat
  obtain ⟨kP, hkP, -⟩ := className_of_methodNamed hnamed
  have hinitP : kP.init = .initialized := Cond.initialized_spec (findClass_of_methodNamed hnamed) hkP hinit
  obtain ⟨vm₁, X₁, hstep₁⟩ := X.invokestatic hexec hown hlink hnamed hmethM hstatic hkP hinitP hy (g := g) hg (argsL := argsL) (rest := rest) (hlen _ hsigM) hstack hdg
  obtain ⟨v, B, X', hpost, hsteps⟩ := hK m meth c ⟨T.setVm vm₁, locs, cells, slots⟩ { g with stack := rest } (.invokestatic index) mk argsL.toArray X₁ hg hsize hdg hW (X₁.named hnamed) (hpre vm₁ X₁.warmed)
  exact ⟨v, vm₁, B, X₁.warmed, X', hpost, fun target h => hstep₁ _ fun acts => by rw [doInvoke_state]; exact hsteps.trans h⟩
theorem vx_runSW {y : MethodName} {bytes cc : ByteArray} {maxL nL mc ms n index : Nat} {ret : Option FieldType} {hh : List (Nat × Nat × Nat × Nat)} {ws : List Cond} {rm : Room} {Pc : Array Value → State → Prop} {Qc : Array Value → State → Outcome → State → Prop} {free : Addr → Prop} {Ts : List Cond} {own : String} {As rest : List Value} {g : JFrame}
    (S : CallFix p m c cc nL s args Ts own) (hM : Met l y ws rm Pc Qc mc ms free) (cw : vx_CSW R s args own index y bytes maxL ret hh ws rm mc ms n) (hp : PreS s H Pc As)
    (hg : g.method = m) (hn : As.length = n) (hsize : g.locals.size = nL) (hstack : g.stack = As.reverse ++ rest) (hW : 2 * g.monitorRoom + (rest.map fun v => v.category).sum ≤ 8) (hdg : decode cc g.pc = .ok (.invokestatic index, 3)) (hf : cells + mc ≤ R.cells ∧ slots + ms ≤ R.slots) :
    va_Run p l e R s m args below meth c H locs cells slots mc ms g rest (Qc As.toArray) (free) := by
  obtain ⟨⟨hrc, hrs, hfr, hlo, hws, hcw⟩, hcode, hini, hy, hlen, hl, hstt⟩ := cw
  have hK : Back l R p e below s args y 3 8 (PreOf R mc ms Pc) (PostOf Qc mc ms free) := va_backW (hh := hh) (bytes := bytes) (maxL := maxL) (ret := ret) hM hp.1 hrc hrs hfr hlo hws hcw (fun a' U hW => word_at hW (Or.inl (by first | rfl | simp [Cond.onTables, Cond.keeps, Cond.steady])) hini)
  obtain ⟨hx, hb, hml, ho, -⟩ := S
  intro T hT X
  obtain ⟨v, vm₁, ⟨U', l2, c2, s2⟩, hW₁, X', ⟨g', mk, t, L, e1, e2, hq, h1, hL, h2, h3⟩, st⟩ := vx_callSW X hx (hh := hh) (bytes := bytes) (maxL := maxL) (ret := ret) ho hl hstt hini hcode hy hK hg (hsize.trans hml.symm) (argsL := As) (rest := rest) (fun sig h => hn.trans (hlen sig h)) hstack hW (by rw [hb]; exact hdg)
    (fun vm₁ hW₁ => ⟨hf.1, hf.2, hp.2 (T.setVm vm₁) hT hW₁⟩)
  dsimp only [Pt.U, Pt.locs, Pt.cells, Pt.slots] at X' e1 e2 h1 h2 h3 st
  subst h1; subst h2; subst h3
  exact ⟨v, (T.setVm vm₁).calling g' mk As.toArray, t, U', L, hT, X', hL, e1, e2, hq, st⟩
/-- not caught here, past rows that name other classes: it goes on to the caller -/
theorem vx_outP {p : Program} {l : Launch} {e : Env} {R : Room} {s : State} {m : MethodId} {args : Array Value} {below : List Frame} {meth : Method} {c : Code} {H : Heap} {locs : List Loc} {cells slots : Nat} {free : Addr → Prop} {ls : Array Slot} {rest : List Value} {Qc : Array Value → State → Outcome → State → Prop} {XC : String → State → State → Prop}
    {pc : Nat} {own E : String} {ce : Cell} {q : Addr} {mc ms : Nat} (hown : s.vm.findClass own = some m.cls) (hlocks : meth.locks = false)
    (hpass : ∀ z ∈ c.exceptionTable.toList, covers z pc = false ∨ (z.catchType ≠ 0 ∧ ∃ nm : String, (Cond.classLink own z.catchType nm).before args s = true ∧ va_Nc E nm s)) (hcell : H[q]? = some ce) (hv : ce.vm = .none) (hcl : s.vm.findClass E = some ce.cls)
    (hx : ∀ t : State, t.heap = H → s.vm.Alike t.vm → XC E s t) (hf : ∀ z ∈ locs, free z.base) (hc : cells ≤ mc) (hs : slots ≤ ms) :
    vx_W p l e R s m args below meth c H locs cells slots (vx_MQ below Qc XC args s mc ms free) (F0 m pc ls rest) q := by
  intro T hT X
  have hpl : e.platform.magicAccessors = ({} : Platform).magicAccessors := by rw [X.admits.platform]
  obtain ⟨vm', hW', X', st⟩ := X.outThrough hlocks q (g := F0 m pc ls rest) rfl rfl rfl (cell := ce) (by rw [hT]; exact hcell) (by rw [hv]; rfl)
    (by obtain ⟨k9, h9, -⟩ := Vm.findClass_spec hcl; exact ⟨k9, h9⟩) (fun z hz => by
      rcases hpass z hz with h | ⟨hz0, nm, hl1, hn1⟩
      · exact Or.inl h
      · obtain ⟨c6, hc6, hcl6⟩ := Cond.classLink_spec hown hl1 e.platform hpl
        obtain ⟨a8, b8, h1, h2, h3⟩ := hn1
        cases Option.some.inj (h1.symm.trans hcl)
        cases Option.some.inj (h2.symm.trans hc6)
        exact Or.inr ⟨hz0, _, hcl6, h3⟩)
  obtain ⟨g₀, hfr⟩ := X'.frames_eq
  have hcell9 : ((T.setVm vm').setFrames (.throwing q :: below)).heap[q]? = some ce := by
    show T.heap[q]? = some ce
    rw [hT]; exact hcell
  have hend : Ended ((T.setVm vm').setFrames (.throwing q :: below)) below (.threw q) := State.frames_setFrames _ (State.cur_lt_of_frames hfr)
  refine ⟨(T.setVm vm').setFrames (.throwing q :: below), ?_, .threw q, X'.here.running, hend, Or.inr ⟨q, rfl, E, ce, locs, hx _ hT (X'.ends _).1.alike, hcell9, hv, hcl, (X'.ends _).1, (X'.ends _).2.mono hc hs, hf⟩⟩
  rw [X.pushThrowing_eq]
  exact st
/-- a thing of a world lies in the heap -/
theorem vx_lt {D : va_G} {cl : List vw_C} {ws : va_W} {H1 : Heap} (h : va_P D cl ws H1) {k : Nat} {q : Nat × va_E} (hk : ws[k]? = some q) : q.1 < H1.size := (h k q hk).lt
end VXS
/-! ===== END ===== -/
/-! ===== BEGIN methods with a table of their own: called by a name, returning or throwing ===== -/
section VXH
/-! vx_backW, vx_callVX, vx_callSX, vx_callVW, vx_runVW, vx_runVX, vx_runSX, vx_ofWH follow the same proofs as their sisters above (Free/Laws.lean, Shelf42/LK1.lean); vx_outP calls Shelf42/NT130.lean (outThrough). -/
section
variable {l : Launch} {R : Room} {p : Program} {e : Env} {below : List Frame} {s : State} {sargs : Array Value} {y : MethodName} {len W9 : Nat}
theorem vx_backW {ws : List Cond} {rm : Room} {Pc : Array Value → State → Prop} {Qc : Array Value → State → Outcome → State → Prop} {XC : String → State → State → Prop} {mc ms : Nat} {free : Addr → Prop} {bytes : ByteArray} {maxL : Nat} {ret : Option FieldType} {hh : List (Nat × Nat × Nat × Nat)}
    (hM : vx_Met l y ws rm Pc Qc XC mc ms free) (hblind : FrameBlind Pc) (hrc : rm.cells = mc) (hrs : rm.slots = ms)
    (hframes : rm.frames + 1 ≤ R.frames) (hlocals : W9 + (maxL + 11) + rm.locals ≤ R.locals)
    (hws : ∀ w ∈ ws, ∀ a' U, s.WarmedH U.vm → w.before a' U = true) (hcode : Cond.codeWith y bytes maxL ret hh ∈ ws) (hinit : ∀ a' U, s.WarmedH U.vm → (Cond.initialized y.cls).before a' U = true) :
    vx_Back l R p e below s sargs y len W9 (PreOf R mc ms Pc) (PostOf Qc mc ms free) (vx_Post XC mc ms free) := by
  intro m meth c A g ig mk a X hg hsize hdg hW hn hp
  have h1 : (headSpec ws rm).pre.before a A.U = true := atoms_intro fun w hw => hws w hw _ _ X.warmed
  have h2 : (Cond.codeWith y bytes maxL ret hh).before a A.U = true := hws _ hcode _ _ X.warmed
  have h3 : (Cond.initialized y.cls).before a A.U = true := hinit _ _ X.warmed
  have h4 : A.cells + (headSpec ws rm).room.cells ≤ R.cells := by rw [show (headSpec ws rm).room.cells = mc from hrc]; exact hp.1
  have h5 : A.slots + (headSpec ws rm).room.slots ≤ R.slots := by rw [show (headSpec ws rm).room.slots = ms from hrs]; exact hp.2.1
  have hPc : Pc a (A.U.calling g mk a) := hblind _ _ _ _ hp.2.2
  obtain ⟨U, Ls, c0, s0⟩ := A
  dsimp only [Pt.U, Pt.locs, Pt.cells, Pt.slots] at h1 h2 h3 h4 h5 X hn hPc ⊢
  obtain ⟨m9, methY, cY, hn9, hmY, hcY, -, hlY, -⟩ := Cond.codeWith_spec h2
  cases Option.some.inj (hn9.symm.trans hn)
  obtain ⟨kY, hkY, -⟩ := className_of_methodNamed hn
  have hinitY : kY.init = .initialized := Cond.initialized_spec (findClass_of_methodNamed hn) hkY h3
  have h : At U g.method c below := by rw [hg]; exact X.here
  have hlocals9 : W9 + (maxL + 11) + (headSpec ws rm).room.locals ≤ R.locals := hlocals
  have happ : (headSpec ws rm).appliesLoose y e.platform (U.calling g mk a) = true :=
    Spec.appliesLoose_calling (g := g) h hdg hn hkY hinitY
      (X.room_calling (g := g) (R' := (headSpec ws rm).room) hsize hmY hcY hframes (by rw [hlY]; omega) h4 h5) h1
  obtain ⟨mid, hmid⟩ := h.above
  have hfr : (U.setTop g).frames = (.java g :: mid) ++ below := by rw [State.frames_setTop' g h.top, hmid]; rfl
  obtain ⟨o, s₂, hsteps, -, hend, hq⟩ := Steps.callFree hM p X.admits X.cas X.clock (acts := []) hfr happ hPc trivial
  have hq' : vx_Q Qc XC mc ms free a (U.calling g mk a) o s₂ := hq
  rw [State.frames_setTop' g h.top] at hend
  obtain ⟨g₀, hg0⟩ := Option.isSome_iff_exists.mp h.top
  obtain ⟨r, hr⟩ := State.topJava?_eq_some.mp hg0
  have hr' : (({ U with heap := s₂.heap, slotsUsed := s₂.slotsUsed } : State).setVm s₂.vm).frames = .java g₀ :: r := hr
  rcases hq' with ⟨hqc, L, hfe, hL⟩ | ⟨q, rfl, E, ce, L, hx, hce, hcv, hcl, hW₂, hsm, hL⟩
  · obtain ⟨⟨v, rfl⟩, hW₂, e2, q2, q3, q4, q5, q6⟩ := id hfe
    have e3 : s₂ = ({ (U.calling g mk a).setFrames s₂.frames with heap := s₂.heap, slotsUsed := s₂.slotsUsed } : State).setVm s₂.vm := by
      have : s₂ = ({ s₂ with vm := (U.calling g mk a).vm } : State).setVm s₂.vm := rfl
      rw [e2] at this
      exact this
    obtain ⟨c₂, i₂, len₂, hc₂, hd₂, hf₂⟩ := hend
    have hW' : U.WarmedH s₂.vm := hW₂
    have hcc : c₂ = c := by
      have h1 : s₂.code? g.method = U.code? g.method := by
        rw [State.code?_eq, State.code?_eq, hW'.alike.method?]
      exact Option.some.inj (hc₂.symm.trans (h1.trans h.code))
    subst hcc
    have hlen : len₂ = len := by rw [hdg] at hd₂; cases hd₂; rfl
    subst hlen
    have hs₂ : s₂ = (({ U with heap := s₂.heap, slotsUsed := s₂.slotsUsed } : State).setVm s₂.vm).setTop { g with pc := g.pc + len₂, stack := v.toList ++ g.stack } := by
      refine e3.trans ?_
      rw [hf₂, State.calling_eq h.top, State.setFrames_setFrames, State.setTop_of_frames _ hr', hr]
      rfl
    have hsame : U.sameButNew ({ U with heap := s₂.heap, slotsUsed := s₂.slotsUsed } : State) L mc ms := by
      refine ⟨?_, q2, q3, q4, q5, q6⟩
      obtain ⟨t, ht, -⟩ := State.frames_cons hr
      show ({ U with heap := s₂.heap, slotsUsed := s₂.slotsUsed } : State) = { U.setFrames U.frames with heap := s₂.heap, slotsUsed := s₂.slotsUsed }
      rw [State.setFrames_self ht]
    subst hg
    refine Or.inl ⟨v, ⟨(({ U with heap := s₂.heap, slotsUsed := s₂.slotsUsed } : State).setVm s₂.vm), Ls ++ L, c0 + mc, s0 + ms⟩,
      ⟨X.admits, X.cas, X.clock, X.frames, X.room, X.hears, X.method, X.code, (X.here.setHeapUsed s₂.heap s₂.slotsUsed).setVm hW'.alike, X.tail, State.WarmedH.trans X.warmed hW', X.limits, X.bytes, X.same.trans (hsame.setVm s.vm)⟩,
      ⟨g, mk, s₂, L, rfl, rfl, hqc, rfl, hL, rfl, rfl⟩, ?_⟩
    show Steps p.tables e below _ ((({ U with heap := s₂.heap, slotsUsed := s₂.slotsUsed } : State).setVm s₂.vm).setTop { g with pc := g.pc + len₂, stack := v.toList ++ g.stack })
    rw [← hs₂]
    exact hsteps
  · obtain ⟨e2, q2, q3, q4, q5, q6⟩ := id hsm
    have e3 : s₂ = ({ (U.calling g mk a).setFrames s₂.frames with heap := s₂.heap, slotsUsed := s₂.slotsUsed } : State).setVm s₂.vm := by
      have : s₂ = ({ s₂ with vm := (U.calling g mk a).vm } : State).setVm s₂.vm := rfl
      rw [e2] at this
      exact this
    have hf₂ : s₂.frames = .throwing q :: .java g :: U.frames.tail := hend
    have hW' : U.WarmedH s₂.vm := hW₂
    have hs₂ : s₂ = ((({ U with heap := s₂.heap, slotsUsed := s₂.slotsUsed } : State).setVm s₂.vm).setTop g).pushFrame (.throwing q) := by
      refine e3.trans ?_
      rw [hf₂, State.calling_eq h.top, State.setFrames_setFrames, State.pushFrame, State.frames_setTop _ hr', State.setTop_of_frames _ hr', State.setFrames_setFrames, hr]
      rfl
    have hsame : U.sameButNew ({ U with heap := s₂.heap, slotsUsed := s₂.slotsUsed } : State) L mc ms := by
      refine ⟨?_, q2, q3, q4, q5, q6⟩
      obtain ⟨t, ht, -⟩ := State.frames_cons hr
      show ({ U with heap := s₂.heap, slotsUsed := s₂.slotsUsed } : State) = { U.setFrames U.frames with heap := s₂.heap, slotsUsed := s₂.slotsUsed }
      rw [State.setFrames_self ht]
    subst hg
    refine Or.inr ⟨q, ⟨(({ U with heap := s₂.heap, slotsUsed := s₂.slotsUsed } : State).setVm s₂.vm), Ls ++ L, c0 + mc, s0 + ms⟩,
      ⟨X.admits, X.cas, X.clock, X.frames, X.room, X.hears, X.method, X.code, (X.here.setHeapUsed s₂.heap s₂.slotsUsed).setVm hW'.alike, X.tail, State.WarmedH.trans X.warmed hW', X.limits, X.bytes, X.same.trans (hsame.setVm s.vm)⟩,
      ⟨g, mk, s₂, L, E, ce, rfl, rfl, hx, hce, hcv, hcl, rfl, hL, rfl, rfl⟩, ?_⟩
    show Steps p.tables e below _ (((({ U with heap := s₂.heap, slotsUsed := s₂.slotsUsed } : State).setVm s₂.vm).setTop g).pushFrame (.throwing q))
    rw [← hs₂]
    exact hsteps
end
variable {p : Program} {l : Launch} {e : Env} {R : Room} {s : State} {m : MethodId} {args : Array Value} {below : List Frame} {meth : Method} {c : Code} {T : State} {H : Heap} {locs : List Loc} {cells slots : Nat}
theorem vx_callVX (X : Stand p l e R s m args below meth c T locs cells slots) (hexec : p.tables.exec = Jvm.exec) {own C : String} {index : Nat} {y : MethodName} {bytes : ByteArray} {maxL : Nat} {ret : Option FieldType} {hh : List (Nat × Nat × Nat × Nat)}
    (hown : s.vm.findClass own = some m.cls) (hlink : (Cond.methodLink own index y).before args s = true) (hinst : (Cond.instanceMethod y).before args s = true) (hsel : (Cond.selects C y y).before args s = true)
    (hcode : (Cond.codeWith y bytes maxL ret hh).before args s = true) (hy : y.cls ≠ "java/lang/invoke/MethodHandle" ∧ y.cls ≠ "java/lang/invoke/VarHandle")
    {W9 : Nat} {Pre : Pt → Array Value → Prop} {Post : Pt → Array Value → Option Value → Pt → Prop} {PostX : Pt → Array Value → Addr → Pt → Prop} (hK : vx_Back l R p e below s args y 3 W9 Pre Post PostX)
    {b : Addr} {cellB : Cell} (hcell : T.heap[b]? = some cellB) (hobj : cellB.vm.isStatics = false) (hcls : s.vm.findClass C = some cellB.cls)
    {g : JFrame} (hg : g.method = m) (hsize : g.locals.size = c.maxLocals) {argsL rest : List Value} (hlen : ∀ sig, parseMethodDescriptor y.desc = some sig → argsL.length = sig.parameters.length)
    (hstack : g.stack = argsL.reverse ++ .ref b :: rest) (hW : 2 * g.monitorRoom + (rest.map fun v => v.category).sum ≤ W9) (hdg : decode c.code g.pc = .ok (.invokevirtual index, 3))
    (hpre : ∀ vm₁, s.WarmedH vm₁ → Pre ⟨T.setVm vm₁, locs, cells, slots⟩ (Value.ref b :: argsL).toArray) :
    (∃ (v : Option Value) (vm₁ : Vm) (B : Pt), s.WarmedH vm₁ ∧ Stand p l e R s m args below meth c B.U B.locs B.cells B.slots ∧ Post ⟨T.setVm vm₁, locs, cells, slots⟩ (Value.ref b :: argsL).toArray v B ∧
      ∀ target, Steps p.tables e below (B.U.setTop { g with pc := g.pc + 3, stack := v.toList ++ rest }) target → Steps p.tables e below (T.setTop g) target) ∨
    (∃ (q : Addr) (vm₁ : Vm) (B : Pt), s.WarmedH vm₁ ∧ Stand p l e R s m args below meth c B.U B.locs B.cells B.slots ∧ PostX ⟨T.setVm vm₁, locs, cells, slots⟩ (Value.ref b :: argsL).toArray q B ∧
      Steps p.tables e below (T.setTop g) ((B.U.setTop { g with stack := rest }).pushFrame (.throwing q))) := by
  obtain ⟨mk, methM, hnamed, hmethM, hstM, habM⟩ := Cond.instanceMethod_spec hinst
  obtain ⟨m8, methM', cM, hn8, hmethM', -, -, -, -, -, -, hsigM⟩ := Cond.codeWith_spec hcode
  cases Option.some.inj (hn8.symm.trans hnamed)
  cases hmethM.symm.trans hmethM'
  obtain ⟨c2, r2, m2, q1, q2, q3, q4, kP, hkP, hkPi⟩ := Cond.selects_spec hsel
  cases hcls.symm.trans q1
  cases (State.methodFound?_of_named hnamed hy).symm.trans q2
  cases hnamed.symm.trans q3
  have hselP : selectMethod e.platform s.vm cellB.cls mk = .method mk := by rw [Launch.admits_selectMethod X.admits]; exact q4
  obtain ⟨vm₁, X₁, hstep₁⟩ := X.invokevirtual hexec hown hlink hnamed hmethM hstM hkP hkPi hy (a := b) (cell := cellB) hcell
    (fun z h => by rw [h] at hobj; cases hobj) hselP hmethM habM hkP hkPi (g := g) hg (argsL := argsL) (rest := rest) (hlen _ hsigM) hstack hdg
  rcases hK m meth c ⟨T.setVm vm₁, locs, cells, slots⟩ { g with stack := rest } (.invokevirtual index) mk (Value.ref b :: argsL).toArray X₁ hg hsize hdg hW (X₁.named hnamed) (hpre vm₁ X₁.warmed) with ⟨v, B, X', hpost, hsteps⟩ | ⟨q, B, X', hpost, hsteps⟩
  · exact Or.inl ⟨v, vm₁, B, X₁.warmed, X', hpost, fun target h => hstep₁ _ fun acts => by rw [doInvoke_state]; exact hsteps.trans h⟩
  · exact Or.inr ⟨q, vm₁, B, X₁.warmed, X', hpost, hstep₁ _ fun acts => by rw [doInvoke_state]; exact hsteps⟩
theorem vx_callSX (X : Stand p l e R s m args below meth c T locs cells slots) (hexec : p.tables.exec = Jvm.exec) {own : String} {index : Nat} {y : MethodName} {bytes : ByteArray} {maxL : Nat} {ret : Option FieldType} {hh : List (Nat × Nat × Nat × Nat)}
    (hown : s.vm.findClass own = some m.cls) (hlink : (Cond.methodLink own index y).before args s = true) (hstat : (Cond.static y).before args s = true) (hinit : (Cond.initialized y.cls).before args s = true)
    (hcode : (Cond.codeWith y bytes maxL ret hh).before args s = true) (hy : y.cls ≠ "java/lang/invoke/MethodHandle" ∧ y.cls ≠ "java/lang/invoke/VarHandle")
    {W9 : Nat} {Pre : Pt → Array Value → Prop} {Post : Pt → Array Value → Option Value → Pt → Prop} {PostX : Pt → Array Value → Addr → Pt → Prop} (hK : vx_Back l R p e below s args y 3 W9 Pre Post PostX)
    {g : JFrame} (hg : g.method = m) (hsize : g.locals.size = c.maxLocals) {argsL rest : List Value} (hlen : ∀ sig, parseMethodDescriptor y.desc = some sig → argsL.length = sig.parameters.length)
    (hstack : g.stack = argsL.reverse ++ rest) (hW : 2 * g.monitorRoom + (rest.map fun v => v.category).sum ≤ W9) (hdg : decode c.code g.pc = .ok (.invokestatic index, 3))
    (hpre : ∀ vm₁, s.WarmedH vm₁ → Pre ⟨T.setVm vm₁, locs, cells, slots⟩ argsL.toArray) :
    (∃ (v : Option Value) (vm₁ : Vm) (B : Pt), s.WarmedH vm₁ ∧ Stand p l e R s m args below meth c B.U B.locs B.cells B.slots ∧ Post ⟨T.setVm vm₁, locs, cells, slots⟩ argsL.toArray v B ∧
      ∀ target, Steps p.tables e below (B.U.setTop { g with pc := g.pc + 3, stack := v.toList ++ rest }) target → Steps p.tables e below (T.setTop g) target) ∨
    (∃ (q : Addr) (vm₁ : Vm) (B : Pt), s.WarmedH vm₁ ∧ Stand p l e R s m args below meth c B.U B.locs B.cells B.slots ∧ PostX ⟨T.setVm vm₁, locs, cells, slots⟩ argsL.toArray q B ∧
      Steps p.tables e below (T.setTop g) ((B.U.setTop { g with stack := rest }).pushFrame (.throwing q))) := by
  obtain ⟨mk, methM, cM, hnamed, hmethM, -, -, -, -, -, -, hsigM⟩ := Cond.codeWith_spec hcode
  have hstatic : methM.isStatic = true := Cond.static_spec hnamed hmethM hstat
  obtain ⟨kP, hkP, -⟩ := className_of_methodNamed hnamed
  have hinitP : kP.init = .initialized := Cond.initialized_spec (findClass_of_methodNamed hnamed) hkP hinit
  obtain ⟨vm₁, X₁, hstep₁⟩ := X.invokestatic hexec hown hlink hnamed hmethM hstatic hkP hinitP hy (g := g) hg (argsL := argsL) (rest := rest) (hlen _ hsigM) hstack hdg
  rcases hK m meth c ⟨T.setVm vm₁, locs, cells, slots⟩ { g with stack := rest } (.invokestatic index) mk argsL.toArray X₁ hg hsize hdg hW (X₁.named hnamed) (hpre vm₁ X₁.warmed) with ⟨v, B, X', hpost, hsteps⟩ | ⟨q, B, X', hpost, hsteps⟩
  · exact Or.inl ⟨v, vm₁, B, X₁.warmed, X', hpost, fun target h => hstep₁ _ fun acts => by rw [doInvoke_state]; exact hsteps.trans h⟩
  · exact Or.inr ⟨q, vm₁, B, X₁.warmed, X', hpost, hstep₁ _ fun acts => by rw [doInvoke_state]; exact hsteps⟩
theorem vx_callVW (X : Stand p l e R s m args below meth c T locs cells slots) (hexec : p.tables.exec = Jvm.exec) {own C : String} {index : Nat} {y : MethodName} {bytes : ByteArray} {maxL : Nat} {ret : Option FieldType} {hh : List (Nat × Nat × Nat × Nat)}
    (hown : s.vm.findClass own = some m.cls) (hlink : (Cond.methodLink own index y).before args s = true) (hinst : (Cond.instanceMethod y).before args s = true) (hsel : (Cond.selects C y y).before args s = true)
    (hcode : (Cond.codeWith y bytes maxL ret hh).before args s = true) (hy : y.cls ≠ "java/lang/invoke/MethodHandle" ∧ y.cls ≠ "java/lang/invoke/VarHandle")
    {W9 : Nat} {Pre : Pt → Array Value → Prop} {Post : Pt → Array Value → Option Value → Pt → Prop} (hK : Back l R p e below s args y 3 W9 Pre Post)
    {b : Addr} {cellB : Cell} (hcell : T.heap[b]? = some cellB) (hobj : cellB.vm.isStatics = false) (hcls : s.vm.findClass C = some cellB.cls)
    {g : JFrame} (hg : g.method = m) (hsize : g.locals.size = c.maxLocals) {argsL rest : List Value} (hlen : ∀ sig, parseMethodDescriptor y.desc = some sig → argsL.length = sig.parameters.length)
    (hstack : g.stack = argsL.reverse ++ .ref b :: rest) (hW : 2 * g.monitorRoom + (rest.map fun v => v.category).sum ≤ W9) (hdg : decode c.code g.pc = .ok (.invokevirtual index, 3))
    (hpre : ∀ vm₁, s.WarmedH vm₁ → Pre ⟨T.setVm vm₁, locs, cells, slots⟩ (Value.ref b :: argsL).toArray) :
    ∃ (v : Option Value) (vm₁ : Vm) (B : Pt), s.WarmedH vm₁ ∧ Stand p l e R s m args below meth c B.U B.locs B.cells B.slots ∧ Post ⟨T.setVm vm₁, locs, cells, slots⟩ (Value.ref b :: argsL).toArray v B ∧
      ∀ target, Steps p.tables e below (B.U.setTop { g with pc := g.pc + 3, stack := v.toList ++ rest }) target → Steps p.tables e below (T.setTop g) target := by
  obtain ⟨mk, methM, hnamed, hmethM, hstM, habM⟩ := Cond.instanceMethod_spec hinst
  obtain ⟨m8, methM', cM, hn8, hmethM', -, -, -, -, -, -, hsigM⟩ := Cond.codeWith_spec hcode
  cases Option.some.inj (hn8.symm.trans hnamed)
  cases hmethM.symm.trans hmethM'
  obtain ⟨c2, r2, m2, q1, q2, q3, q4, kP, hkP, hkPi⟩ := Cond.selects_spec hsel
  cases hcls.symm.trans q1
  cases (State.methodFound?_of_named hnamed hy).symm.trans q2
  cases hnamed.symm.trans q3
  have hselP : selectMethod e.platform s.vm cellB.cls mk = .method mk := by rw [Launch.admits_selectMethod X.admits]; exact q4
  obtain ⟨vm₁, X₁, hstep₁⟩ := X.invokevirtual hexec hown hlink hnamed hmethM hstM hkP hkPi hy (a := b) (cell := cellB) hcell
    (fun z h => by rw [h] at hobj; cases hobj) hselP hmethM habM hkP hkPi (g := g) hg (argsL := argsL) (rest := rest) (hlen _ hsigM) hstack hdg
  obtain ⟨v, B, X', hpost, hsteps⟩ := hK m meth c ⟨T.setVm vm₁, locs, cells, slots⟩ { g with stack := rest } (.invokevirtual index) mk (Value.ref b :: argsL).toArray X₁ hg hsize hdg hW (X₁.named hnamed) (hpre vm₁ X₁.warmed)
  exact ⟨v, vm₁, B, X₁.warmed, X', hpost, fun target h => hstep₁ _ fun acts => by rw [doInvoke_state]; exact hsteps.trans h⟩
abbrev vx_CVW (R : Room) (s : State) (args : Array Value) (own C : String) (index : Nat) (y : MethodName) (bytes : ByteArray) (maxL : Nat) (ret : Option FieldType) (hh : List (Nat × Nat × Nat × Nat)) (ws : List Cond) (rm : Room) (mc ms n : Nat) : Prop :=
  (rm.cells = mc ∧ rm.slots = ms ∧ rm.frames + 1 ≤ R.frames ∧ 8 + (maxL + 11) + rm.locals ≤ R.locals ∧ (∀ w ∈ ws, ∀ (a' : Array Value) (U : State), s.WarmedH U.vm → w.before a' U = true) ∧ Cond.codeWith y bytes maxL ret hh ∈ ws) ∧
  (Cond.codeWith y bytes maxL ret hh).before args s = true ∧ (Cond.initialized y.cls).before args s = true ∧ (y.cls ≠ "java/lang/invoke/MethodHandle" ∧ y.cls ≠ "java/lang/invoke/VarHandle") ∧
  (∀ sig, parseMethodDescriptor y.desc = some sig → n = sig.parameters.length) ∧ (Cond.methodLink own index y).before args s = true ∧ (Cond.instanceMethod y).before args s = true ∧ (Cond.selects C y y).before args s = true
theorem vx_cwVW {own C : String} {index maxL mc ms : Nat} {y : MethodName} {bytes : ByteArray} {ret : Option FieldType} {hh : List (Nat × Nat × Nat × Nat)} {Ts ws ws' : List Cond} {rm : Room} (n : Nat) (ht : ∀ w ∈ Ts, w.before args s = true) (hT : GoodIn Ts (wsV own index C y ws)) (hw : ws = Cond.codeWith y bytes maxL ret hh :: ws') (hrc : rm.cells = mc) (hrs : rm.slots = ms)
    (hd : y.cls = C ∧ y.cls ≠ "java/lang/invoke/MethodHandle" ∧ y.cls ≠ "java/lang/invoke/VarHandle" ∧ (parseMethodDescriptor y.desc).map (fun d => d.parameters.length) = some n) (hR : rm.frames + 1 ≤ R.frames ∧ 8 + (maxL + 11) + rm.locals ≤ R.locals) :
    vx_CVW R s args own C index y bytes maxL ret hh ws rm mc ms n := by
  obtain ⟨hC, hd⟩ := hd
  subst hC
  have ok : ∀ w ∈ wsV own index y.cls y ws, w.before args s = true := fun w h => ht w (hT w h).1
  have hG : GoodIn Ts ws := fun w h => hT w (by unfold wsV; exact List.mem_append_right _ h)
  have hc : Cond.codeWith y bytes maxL ret hh ∈ ws := by rw [hw]; exact List.mem_cons_self
  refine ⟨⟨hrc, hrs, hR.1, hR.2, pay_in ht hG, hc⟩, ht _ (hG _ hc).1, ok _ (by simp [wsV]), ⟨hd.1, hd.2.1⟩, fun sig h => ?_, ok _ (by simp [wsV]), ok _ (by simp [wsV]), ok _ (by simp [wsV])⟩
  have h2 := hd.2.2
  rw [h] at h2
  exact (Option.some.inj h2).symm
theorem vx_runVW {y : MethodName} {bytes cc : ByteArray} {maxL nL mc ms n index : Nat} {ret : Option FieldType} {hh : List (Nat × Nat × Nat × Nat)} {ws : List Cond} {rm : Room} {Pc : Array Value → State → Prop} {Qc : Array Value → State → Outcome → State → Prop} {free : Addr → Prop} {Ts : List Cond} {own C : String} {b : Addr} {As rest : List Value} {g : JFrame}
    (S : CallFix p m c cc nL s args Ts own) (hM : Met l y ws rm Pc Qc mc ms free) (cw : vx_CVW R s args own C index y bytes maxL ret hh ws rm mc ms n) (hp : PreV s H C b Pc As)
    (hg : g.method = m) (hn : As.length = n) (hsize : g.locals.size = nL) (hstack : g.stack = As.reverse ++ .ref b :: rest) (hW : 2 * g.monitorRoom + (rest.map fun v => v.category).sum ≤ 8) (hdg : decode cc g.pc = .ok (.invokevirtual index, 3)) (hf : cells + mc ≤ R.cells ∧ slots + ms ≤ R.slots) :
    va_Run p l e R s m args below meth c H locs cells slots mc ms g rest (Qc (Value.ref b :: As).toArray) free := by
  obtain ⟨⟨hrc, hrs, hfr, hlo, hws, hcw⟩, hcode, hini, hy, hlen, hl, hin, hse⟩ := cw
  have hK : Back l R p e below s args y 3 8 (PreOf R mc ms Pc) (PostOf Qc mc ms free) := va_backW (hh := hh) (bytes := bytes) (maxL := maxL) (ret := ret) hM hp.1 hrc hrs hfr hlo hws hcw (fun a' U hW => word_at hW (Or.inl (by first | rfl | simp [Cond.onTables, Cond.keeps, Cond.steady])) hini)
  obtain ⟨hx, hb, hml, ho, -⟩ := S
  obtain ⟨-, ⟨cellB, hcB, hoB, hclB⟩, hPc⟩ := hp
  intro T hT X
  obtain ⟨v, vm₁, ⟨U', l2, c2, s2⟩, hW₁, X', ⟨g', mk, t, L, e1, e2, hq, h1, hL, h2, h3⟩, st⟩ := vx_callVW X hx (C := C) (hh := hh) (bytes := bytes) (maxL := maxL) (ret := ret) ho hl hin hse hcode hy hK (by rw [hT]; exact hcB) hoB hclB hg (hsize.trans hml.symm) (argsL := As) (rest := rest) (fun sig h => hn.trans (hlen sig h)) hstack hW (by rw [hb]; exact hdg)
    (fun vm₁ hW₁ => ⟨hf.1, hf.2, hPc (T.setVm vm₁) hT hW₁⟩)
  dsimp only [Pt.U, Pt.locs, Pt.cells, Pt.slots] at X' e1 e2 h1 h2 h3 st
  subst h1; subst h2; subst h3
  exact ⟨v, (T.setVm vm₁).calling g' mk (Value.ref b :: As).toArray, t, U', L, hT, X', hL, e1, e2, hq, st⟩
section
variable {y : MethodName} {bytes cc : ByteArray} {maxL nL mc ms n index : Nat} {ret : Option FieldType} {ws : List Cond} {rm : Room} {Pc : Array Value → State → Prop} {Qc : Array Value → State → Outcome → State → Prop} {XC : String → State → State → Prop} {free : Addr → Prop} {Ts : List Cond} {own C : String} {b : Addr} {As rest : List Value} {g : JFrame}
theorem vx_runVX {hh : List (Nat × Nat × Nat × Nat)} (S : CallFix p m c cc nL s args Ts own) (hM : vx_Met l y ws rm Pc Qc XC mc ms free) (cw : vx_CVW R s args own C index y bytes maxL ret hh ws rm mc ms n) (hp : PreV s H C b Pc As)
    (hg : g.method = m) (hn : As.length = n) (hsize : g.locals.size = nL) (hstack : g.stack = As.reverse ++ .ref b :: rest) (hW : 2 * g.monitorRoom + (rest.map fun v => v.category).sum ≤ 8) (hdg : decode cc g.pc = .ok (.invokevirtual index, 3)) (hf : cells + mc ≤ R.cells ∧ slots + ms ≤ R.slots) :
    vx_Run p l e R s m args below meth c H locs cells slots mc ms g rest (Qc (Value.ref b :: As).toArray) XC free := by
  obtain ⟨⟨hrc, hrs, hfr, hlo, hws, hcw⟩, hcode, hini, hy, hlen, hl, hin, hse⟩ := cw
  have hK : vx_Back l R p e below s args y 3 8 (PreOf R mc ms Pc) (PostOf Qc mc ms free) (vx_Post XC mc ms free) := vx_backW (hh := hh) (bytes := bytes) (maxL := maxL) (ret := ret) hM hp.1 hrc hrs hfr hlo hws hcw (fun a' U hW => word_at hW (Or.inl (by first | rfl | simp [Cond.onTables, Cond.keeps, Cond.steady])) hini)
  obtain ⟨hx, hb, hml, ho, -⟩ := S
  obtain ⟨-, ⟨cellB, hcB, hoB, hclB⟩, hPc⟩ := hp
  intro T hT X
  rcases vx_callVX X hx (C := C) (hh := hh) (bytes := bytes) (maxL := maxL) (ret := ret) ho hl hin hse hcode hy hK (by rw [hT]; exact hcB) hoB hclB hg (hsize.trans hml.symm) (argsL := As) (rest := rest) (fun sig h => hn.trans (hlen sig h)) hstack hW (by rw [hb]; exact hdg)
    (fun vm₁ hW₁ => ⟨hf.1, hf.2, hPc (T.setVm vm₁) hT hW₁⟩) with ⟨v, vm₁, ⟨U', l2, c2, s2⟩, hW₁, X', ⟨g', mk, t, L, e1, e2, hq, h1, hL, h2, h3⟩, st⟩ | ⟨q, vm₁, ⟨U', l2, c2, s2⟩, hW₁, X', ⟨g', mk, t, L, E, ce, e1, e2, hq, hce, hcv, hcl, h1, hL, h2, h3⟩, st⟩
  · dsimp only [Pt.U, Pt.locs, Pt.cells, Pt.slots] at X' e1 e2 h1 h2 h3 st
    subst h1; subst h2; subst h3
    exact Or.inl ⟨v, (T.setVm vm₁).calling g' mk (Value.ref b :: As).toArray, t, U', L, hT, X', hL, e1, e2, hq, st⟩
  · dsimp only [Pt.U, Pt.locs, Pt.cells, Pt.slots] at X' e1 e2 h1 h2 h3 st hcl
    subst h1; subst h2; subst h3
    exact Or.inr ⟨q, (T.setVm vm₁).calling g' mk (Value.ref b :: As).toArray, t, U', L, E, ce, hT, X', hL, e1, e2, hq, hce, hcv, vx_cls hW₁ hcl, st⟩
theorem vx_runSX {hh : List (Nat × Nat × Nat × Nat)} (S : CallFix p m c cc nL s args Ts own) (hM : vx_Met l y ws rm Pc Qc XC mc ms free) (cw : vx_CSW R s args own index y bytes maxL ret hh ws rm mc ms n) (hp : PreS s H Pc As)
    (hg : g.method = m) (hn : As.length = n) (hsize : g.locals.size = nL) (hstack : g.stack = As.reverse ++ rest) (hW : 2 * g.monitorRoom + (rest.map fun v => v.category).sum ≤ 8) (hdg : decode cc g.pc = .ok (.invokestatic index, 3)) (hf : cells + mc ≤ R.cells ∧ slots + ms ≤ R.slots) :
    vx_Run p l e R s m args below meth c H locs cells slots mc ms g rest (Qc As.toArray) XC free := by
  obtain ⟨⟨hrc, hrs, hfr, hlo, hws, hcw⟩, hcode, hini, hy, hlen, hl, hstt⟩ := cw
  have hK : vx_Back l R p e below s args y 3 8 (PreOf R mc ms Pc) (PostOf Qc mc ms free) (vx_Post XC mc ms free) := vx_backW (hh := hh) (bytes := bytes) (maxL := maxL) (ret := ret) hM hp.1 hrc hrs hfr hlo hws hcw (fun a' U hW => word_at hW (Or.inl (by first | rfl | simp [Cond.onTables, Cond.keeps, Cond.steady])) hini)
  obtain ⟨hx, hb, hml, ho, -⟩ := S
  intro T hT X
  rcases vx_callSX X hx (hh := hh) (bytes := bytes) (maxL := maxL) (ret := ret) ho hl hstt hini hcode hy hK hg (hsize.trans hml.symm) (argsL := As) (rest := rest) (fun sig h => hn.trans (hlen sig h)) hstack hW (by rw [hb]; exact hdg)
    (fun vm₁ hW₁ => ⟨hf.1, hf.2, hp.2 (T.setVm vm₁) hT hW₁⟩) with ⟨v, vm₁, ⟨U', l2, c2, s2⟩, hW₁, X', ⟨g', mk, t, L, e1, e2, hq, h1, hL, h2, h3⟩, st⟩ | ⟨q, vm₁, ⟨U', l2, c2, s2⟩, hW₁, X', ⟨g', mk, t, L, E, ce, e1, e2, hq, hce, hcv, hcl, h1, hL, h2, h3⟩, st⟩
  · dsimp only [Pt.U, Pt.locs, Pt.cells, Pt.slots] at X' e1 e2 h1 h2 h3 st
    subst h1; subst h2; subst h3
    exact Or.inl ⟨v, (T.setVm vm₁).calling g' mk As.toArray, t, U', L, hT, X', hL, e1, e2, hq, st⟩
  · dsimp only [Pt.U, Pt.locs, Pt.cells, Pt.slots] at X' e1 e2 h1 h2 h3 st hcl
    subst h1; subst h2; subst h3
    exact Or.inr ⟨q, (T.setVm vm₁).calling g' mk As.toArray, t, U', L, E, ce, hT, X', hL, e1, e2, hq, hce, hcv, vx_cls hW₁ hcl, st⟩
end
end VXH
theorem vx_ofWH {l : Launch} {y : MethodName} {ws ws' : List Cond} {rm : Room} {Pc : Array Value → State → Prop} {Qc : Array Value → State → Outcome → State → Prop} {XC : String → State → State → Prop} {mc ms : Nat} {free : Addr → Prop} {cc : ByteArray} {maxL : Nat} {ret : Option FieldType} {hh : List (Nat × Nat × Nat × Nat)}
    (hy : plainName y.cls = true) (hw : ws = Cond.codeWith y cc maxL ret hh :: ws')
    (body : ∀ p e s m args below meth c s₁, BodyLoose p l y (headSpec ws rm) cc maxL ret e s m args below meth c s₁ → c.maxLocals = maxL → Pc args s →
      W p l e (headSpec ws rm).room s m args below meth c s.heap [] 0 0 (vx_MQ below Qc XC args s mc ms free) (entryFrame m args maxL)) : vx_Met l y ws rm Pc Qc XC mc ms free := by
  refine MetFree.of_bodyS (code := cc) (maxLocals := maxL) (ret := ret) hy ?_ ?_
  · intro args s m h hn
    obtain ⟨m9, meth, c, hn9, h1, h2, h3, h4, -, h5, h6, -⟩ := Cond.codeWith_spec (atoms_spec (ws := ws) h _ (by rw [hw]; exact List.mem_cons_self))
    cases hn.symm.trans hn9
    exact ⟨meth, c, h1, h2, h3, h4, h5, h6⟩
  · intro p e s m args below meth c s₁ B hml hP _
    have hh0 : s₁.heap = s.heap := by rw [B.state]; rfl
    obtain ⟨t, a1, o, b1, b2, b3⟩ := body p e s m args below meth c s₁ B hml hP s₁ hh0 (Stand.of_body B)
    exact ⟨t, o, a1, b1, b2, b3⟩
/-! ===== END ===== -/
end
section
/-! Names of the classes and methods, by my own program out of the claim's tables. -/
def R_BS : String := "SpillQueue$BlockSet"
def R_DK : String := "SpillQueue$Disk"
def R_ME : String := "SpillQueue$Memory"
def R_RU : String := "SpillQueue$Runs"
def R_SB : String := "SpillQueue$Superblocks"
def R_SQ : String := "SpillQueue"
def R_MO : String := "SpillQueueModel"
def R_KE : String := "SpillQueue$Keys"
def R_AR : String := "java/util/Arrays"
def R_LA : String := "SpillQueueLaw"
def T_BS : u_T := fun k => match k with
  | _ => ("SpillQueue$BlockSet", "in", "[Z", true)
def ty_BS : Nat → FieldType := fun k => match k with
  | _ => .array .boolean
theorem nm_BS : ∀ a, a < 1 → ∀ b, b < 1 → a ≠ b → (T_BS a).2.1 ≠ (T_BS b).2.1 := by decide +kernel
theorem tyok_BS : ∀ k, k < 1 → parseFieldDescriptor (T_BS k).2.2.1 = some (ty_BS k) := by decide +kernel
def T_DK : u_T := fun k => match k with
  | 0 => ("SpillQueue$Disk", "cells", "[I", true)
  | 1 => ("SpillQueue$Disk", "row", "[I", true)
  | 2 => ("SpillQueue$Disk", "blocks", "I", false)
  | 3 => ("SpillQueue$Disk", "words", "I", false)
  | 4 => ("SpillQueue$Disk", "writes", "I", false)
  | _ => ("SpillQueue$Disk", "cutIn", "I", false)
def ty_DK : Nat → FieldType := fun k => match k with
  | 0 => .array .int
  | 1 => .array .int
  | 2 => .int
  | 3 => .int
  | 4 => .int
  | _ => .int
theorem nm_DK : ∀ a, a < 6 → ∀ b, b < 6 → a ≠ b → (T_DK a).2.1 ≠ (T_DK b).2.1 := by decide +kernel
theorem tyok_DK : ∀ k, k < 6 → parseFieldDescriptor (T_DK k).2.2.1 = some (ty_DK k) := by decide +kernel
def T_ME : u_T := fun k => match k with
  | 0 => ("SpillQueue$Memory", "keys", "[I", true)
  | 1 => ("SpillQueue$Memory", "count", "I", false)
  | _ => ("SpillQueue$Memory", "most", "I", false)
def ty_ME : Nat → FieldType := fun k => match k with
  | 0 => .array .int
  | 1 => .int
  | _ => .int
theorem nm_ME : ∀ a, a < 3 → ∀ b, b < 3 → a ≠ b → (T_ME a).2.1 ≠ (T_ME b).2.1 := by decide +kernel
theorem tyok_ME : ∀ k, k < 3 → parseFieldDescriptor (T_ME k).2.2.1 = some (ty_ME k) := by decide +kernel
def T_RU : u_T := fun k => match k with
  | 0 => ("SpillQueue$Runs", "disk", "LSpillQueue$Disk;", true)
  | 1 => ("SpillQueue$Runs", "first", "[I", true)
  | 2 => ("SpillQueue$Runs", "begin", "[I", true)
  | 3 => ("SpillQueue$Runs", "count", "[I", true)
  | 4 => ("SpillQueue$Runs", "level", "[I", true)
  | 5 => ("SpillQueue$Runs", "head", "[I", true)
  | 6 => ("SpillQueue$Runs", "chosen", "[Z", true)
  | _ => ("SpillQueue$Runs", "number", "I", false)
def ty_RU : Nat → FieldType := fun k => match k with
  | 0 => .object "SpillQueue$Disk"
  | 1 => .array .int
  | 2 => .array .int
  | 3 => .array .int
  | 4 => .array .int
  | 5 => .array .int
  | 6 => .array .boolean
  | _ => .int
theorem nm_RU : ∀ a, a < 8 → ∀ b, b < 8 → a ≠ b → (T_RU a).2.1 ≠ (T_RU b).2.1 := by decide +kernel
theorem tyok_RU : ∀ k, k < 8 → parseFieldDescriptor (T_RU k).2.2.1 = some (ty_RU k) := by decide +kernel
def T_SB : u_T := fun k => match k with
  | 0 => ("SpillQueue$Superblocks", "disk", "LSpillQueue$Disk;", true)
  | _ => ("SpillQueue$Superblocks", "seen", "LSpillQueue$BlockSet;", true)
def ty_SB : Nat → FieldType := fun k => match k with
  | 0 => .object "SpillQueue$Disk"
  | _ => .object "SpillQueue$BlockSet"
theorem nm_SB : ∀ a, a < 2 → ∀ b, b < 2 → a ≠ b → (T_SB a).2.1 ≠ (T_SB b).2.1 := by decide +kernel
theorem tyok_SB : ∀ k, k < 2 → parseFieldDescriptor (T_SB k).2.2.1 = some (ty_SB k) := by decide +kernel
def T_SQ : u_T := fun k => match k with
  | 0 => ("SpillQueue", "disk", "LSpillQueue$Disk;", true)
  | 1 => ("SpillQueue", "memory", "LSpillQueue$Memory;", true)
  | 2 => ("SpillQueue", "runs", "LSpillQueue$Runs;", true)
  | 3 => ("SpillQueue", "superblocks", "LSpillQueue$Superblocks;", true)
  | 4 => ("SpillQueue", "synced", "LSpillQueue$BlockSet;", true)
  | 5 => ("SpillQueue", "used", "LSpillQueue$BlockSet;", true)
  | 6 => ("SpillQueue", "free", "[I", true)
  | 7 => ("SpillQueue", "fan", "I", false)
  | 8 => ("SpillQueue", "epoch", "I", false)
  | _ => ("SpillQueue", "live", "Z", false)
def ty_SQ : Nat → FieldType := fun k => match k with
  | 0 => .object "SpillQueue$Disk"
  | 1 => .object "SpillQueue$Memory"
  | 2 => .object "SpillQueue$Runs"
  | 3 => .object "SpillQueue$Superblocks"
  | 4 => .object "SpillQueue$BlockSet"
  | 5 => .object "SpillQueue$BlockSet"
  | 6 => .array .int
  | 7 => .int
  | 8 => .int
  | _ => .boolean
theorem nm_SQ : ∀ a, a < 10 → ∀ b, b < 10 → a ≠ b → (T_SQ a).2.1 ≠ (T_SQ b).2.1 := by decide +kernel
theorem tyok_SQ : ∀ k, k < 10 → parseFieldDescriptor (T_SQ k).2.2.1 = some (ty_SQ k) := by decide +kernel
def T_MO : u_T := fun k => match k with
  | 0 => ("SpillQueueModel", "thrown", "I", false)
  | 1 => ("SpillQueueModel", "isDisk", "Z", false)
  | 2 => ("SpillQueueModel", "blocks", "I", false)
  | 3 => ("SpillQueueModel", "words", "I", false)
  | 4 => ("SpillQueueModel", "mem", "I", false)
  | 5 => ("SpillQueueModel", "fan", "I", false)
  | 6 => ("SpillQueueModel", "disk", "[I", true)
  | 7 => ("SpillQueueModel", "writes", "I", false)
  | 8 => ("SpillQueueModel", "left", "I", false)
  | 9 => ("SpillQueueModel", "live", "Z", false)
  | 10 => ("SpillQueueModel", "off", "Z", false)
  | 11 => ("SpillQueueModel", "memory", "I", false)
  | 12 => ("SpillQueueModel", "keys", "[I", true)
  | 13 => ("SpillQueueModel", "epoch", "I", false)
  | 14 => ("SpillQueueModel", "runs", "I", false)
  | 15 => ("SpillQueueModel", "first", "[I", true)
  | 16 => ("SpillQueueModel", "begin", "[I", true)
  | 17 => ("SpillQueueModel", "count", "[I", true)
  | 18 => ("SpillQueueModel", "level", "[I", true)
  | 19 => ("SpillQueueModel", "synced", "[Z", true)
  | 20 => ("SpillQueueModel", "taken", "[Z", true)
  | 21 => ("SpillQueueModel", "row", "[I", true)
  | 22 => ("SpillQueueModel", "chosen", "[I", true)
  | 23 => ("SpillQueueModel", "atBlock", "[I", true)
  | 24 => ("SpillQueueModel", "atPlace", "[I", true)
  | 25 => ("SpillQueueModel", "keysLeft", "[I", true)
  | _ => ("SpillQueueModel", "merged", "[Z", true)
def ty_MO : Nat → FieldType := fun k => match k with
  | 0 => .int
  | 1 => .boolean
  | 2 => .int
  | 3 => .int
  | 4 => .int
  | 5 => .int
  | 6 => .array .int
  | 7 => .int
  | 8 => .int
  | 9 => .boolean
  | 10 => .boolean
  | 11 => .int
  | 12 => .array .int
  | 13 => .int
  | 14 => .int
  | 15 => .array .int
  | 16 => .array .int
  | 17 => .array .int
  | 18 => .array .int
  | 19 => .array .boolean
  | 20 => .array .boolean
  | 21 => .array .int
  | 22 => .array .int
  | 23 => .array .int
  | 24 => .array .int
  | 25 => .array .int
  | _ => .array .boolean
theorem nm_MO : ∀ a, a < 27 → ∀ b, b < 27 → a ≠ b → (T_MO a).2.1 ≠ (T_MO b).2.1 := by decide +kernel
theorem tyok_MO : ∀ k, k < 27 → parseFieldDescriptor (T_MO k).2.2.1 = some (ty_MO k) := by decide +kernel
abbrev vwCl : List vw_C := [(R_BS, T_BS, 1), (R_DK, T_DK, 6), (R_ME, T_ME, 3), (R_RU, T_RU, 8), (R_SB, T_SB, 2), (R_SQ, T_SQ, 10), (R_MO, T_MO, 27)]
def gTs : List Cond := lw_tbl.filter goodWord
def gNok : Cond → Bool
  | .fieldLinkNest .. => true
  | .methodLinkNest .. => true
  | .declares .. => true
  | _ => false
def gNl : List Cond := lw_tbl.filter gNok
theorem gt {w : Cond} (i : Nat) (h : lw_tbl[i]? = some w) (hg : goodWord w = true) : w ∈ gTs := List.mem_filter.mpr ⟨List.mem_of_getElem? h, hg⟩
theorem gn {w : Cond} (i : Nat) (h : lw_tbl[i]? = some w) (hg : gNok w = true) : w ∈ gNl := List.mem_filter.mpr ⟨List.mem_of_getElem? h, hg⟩
theorem gTs_good : ∀ w ∈ gTs, ((w.onTables && w.keeps) = true ∨ ∃ ty, w = .arrayClass ty) := fun w h => good_of_word (List.mem_filter.mp h).2
theorem gNl_ok : ∀ w ∈ gNl, gNok w = true := fun w h => (List.mem_filter.mp h).2
theorem iw_BS : ∀ w ∈ u_ws R_BS T_BS 1, w ∈ gTs := by
  intro w h
  simp only [u_ws, List.mem_map, List.mem_range] at h
  obtain ⟨k, hk, rfl⟩ := h
  match k, hk with
  | 0, _ => exact gt 217 (by decide +kernel) (by decide +kernel)
  | k + 1, hk => exact absurd hk (by omega)
theorem iw_DK : ∀ w ∈ u_ws R_DK T_DK 6, w ∈ gTs := by
  intro w h
  simp only [u_ws, List.mem_map, List.mem_range] at h
  obtain ⟨k, hk, rfl⟩ := h
  match k, hk with
  | 0, _ => exact gt 128 (by decide +kernel) (by decide +kernel)
  | 1, _ => exact gt 130 (by decide +kernel) (by decide +kernel)
  | 2, _ => exact gt 132 (by decide +kernel) (by decide +kernel)
  | 3, _ => exact gt 134 (by decide +kernel) (by decide +kernel)
  | 4, _ => exact gt 136 (by decide +kernel) (by decide +kernel)
  | 5, _ => exact gt 138 (by decide +kernel) (by decide +kernel)
  | k + 6, hk => exact absurd hk (by omega)
theorem iw_ME : ∀ w ∈ u_ws R_ME T_ME 3, w ∈ gTs := by
  intro w h
  simp only [u_ws, List.mem_map, List.mem_range] at h
  obtain ⟨k, hk, rfl⟩ := h
  match k, hk with
  | 0, _ => exact gt 155 (by decide +kernel) (by decide +kernel)
  | 1, _ => exact gt 157 (by decide +kernel) (by decide +kernel)
  | 2, _ => exact gt 159 (by decide +kernel) (by decide +kernel)
  | k + 3, hk => exact absurd hk (by omega)
theorem iw_RU : ∀ w ∈ u_ws R_RU T_RU 8, w ∈ gTs := by
  intro w h
  simp only [u_ws, List.mem_map, List.mem_range] at h
  obtain ⟨k, hk, rfl⟩ := h
  match k, hk with
  | 0, _ => exact gt 186 (by decide +kernel) (by decide +kernel)
  | 1, _ => exact gt 188 (by decide +kernel) (by decide +kernel)
  | 2, _ => exact gt 190 (by decide +kernel) (by decide +kernel)
  | 3, _ => exact gt 192 (by decide +kernel) (by decide +kernel)
  | 4, _ => exact gt 194 (by decide +kernel) (by decide +kernel)
  | 5, _ => exact gt 196 (by decide +kernel) (by decide +kernel)
  | 6, _ => exact gt 198 (by decide +kernel) (by decide +kernel)
  | 7, _ => exact gt 200 (by decide +kernel) (by decide +kernel)
  | k + 8, hk => exact absurd hk (by omega)
theorem iw_SB : ∀ w ∈ u_ws R_SB T_SB 2, w ∈ gTs := by
  intro w h
  simp only [u_ws, List.mem_map, List.mem_range] at h
  obtain ⟨k, hk, rfl⟩ := h
  match k, hk with
  | 0, _ => exact gt 222 (by decide +kernel) (by decide +kernel)
  | 1, _ => exact gt 224 (by decide +kernel) (by decide +kernel)
  | k + 2, hk => exact absurd hk (by omega)
theorem iw_SQ : ∀ w ∈ u_ws R_SQ T_SQ 10, w ∈ gTs := by
  intro w h
  simp only [u_ws, List.mem_map, List.mem_range] at h
  obtain ⟨k, hk, rfl⟩ := h
  match k, hk with
  | 0, _ => exact gt 239 (by decide +kernel) (by decide +kernel)
  | 1, _ => exact gt 241 (by decide +kernel) (by decide +kernel)
  | 2, _ => exact gt 243 (by decide +kernel) (by decide +kernel)
  | 3, _ => exact gt 245 (by decide +kernel) (by decide +kernel)
  | 4, _ => exact gt 247 (by decide +kernel) (by decide +kernel)
  | 5, _ => exact gt 249 (by decide +kernel) (by decide +kernel)
  | 6, _ => exact gt 251 (by decide +kernel) (by decide +kernel)
  | 7, _ => exact gt 253 (by decide +kernel) (by decide +kernel)
  | 8, _ => exact gt 255 (by decide +kernel) (by decide +kernel)
  | 9, _ => exact gt 257 (by decide +kernel) (by decide +kernel)
  | k + 10, hk => exact absurd hk (by omega)
theorem iw_MO : ∀ w ∈ u_ws R_MO T_MO 27, w ∈ gTs := by
  intro w h
  simp only [u_ws, List.mem_map, List.mem_range] at h
  obtain ⟨k, hk, rfl⟩ := h
  match k, hk with
  | 0, _ => exact gt 758 (by decide +kernel) (by decide +kernel)
  | 1, _ => exact gt 760 (by decide +kernel) (by decide +kernel)
  | 2, _ => exact gt 762 (by decide +kernel) (by decide +kernel)
  | 3, _ => exact gt 764 (by decide +kernel) (by decide +kernel)
  | 4, _ => exact gt 766 (by decide +kernel) (by decide +kernel)
  | 5, _ => exact gt 768 (by decide +kernel) (by decide +kernel)
  | 6, _ => exact gt 770 (by decide +kernel) (by decide +kernel)
  | 7, _ => exact gt 772 (by decide +kernel) (by decide +kernel)
  | 8, _ => exact gt 774 (by decide +kernel) (by decide +kernel)
  | 9, _ => exact gt 776 (by decide +kernel) (by decide +kernel)
  | 10, _ => exact gt 778 (by decide +kernel) (by decide +kernel)
  | 11, _ => exact gt 780 (by decide +kernel) (by decide +kernel)
  | 12, _ => exact gt 782 (by decide +kernel) (by decide +kernel)
  | 13, _ => exact gt 784 (by decide +kernel) (by decide +kernel)
  | 14, _ => exact gt 786 (by decide +kernel) (by decide +kernel)
  | 15, _ => exact gt 788 (by decide +kernel) (by decide +kernel)
  | 16, _ => exact gt 790 (by decide +kernel) (by decide +kernel)
  | 17, _ => exact gt 792 (by decide +kernel) (by decide +kernel)
  | 18, _ => exact gt 794 (by decide +kernel) (by decide +kernel)
  | 19, _ => exact gt 796 (by decide +kernel) (by decide +kernel)
  | 20, _ => exact gt 798 (by decide +kernel) (by decide +kernel)
  | 21, _ => exact gt 800 (by decide +kernel) (by decide +kernel)
  | 22, _ => exact gt 802 (by decide +kernel) (by decide +kernel)
  | 23, _ => exact gt 804 (by decide +kernel) (by decide +kernel)
  | 24, _ => exact gt 806 (by decide +kernel) (by decide +kernel)
  | 25, _ => exact gt 808 (by decide +kernel) (by decide +kernel)
  | 26, _ => exact gt 810 (by decide +kernel) (by decide +kernel)
  | k + 27, hk => exact absurd hk (by omega)
/-- what a call asks of the callee's words -/
def gCb (y : MethodName) (C0 : String) (bytes : ByteArray) (maxL : Nat) (ret : Option FieldType) (n : Nat) : Prop := (Cond.instanceMethod y ∈ gTs ∧ Cond.selects C0 y y ∈ gTs ∧ Cond.initialized y.cls ∈ gTs ∧ Cond.code y bytes maxL ret ∈ gTs) ∧ (y.cls ≠ "java/lang/invoke/MethodHandle" ∧ y.cls ≠ "java/lang/invoke/VarHandle" ∧ (parseMethodDescriptor y.desc).map (fun d => d.parameters.length) = some n)
def gSb (y : MethodName) (bytes : ByteArray) (maxL : Nat) (ret : Option FieldType) (n : Nat) : Prop := (Cond.static y ∈ gTs ∧ Cond.initialized y.cls ∈ gTs ∧ Cond.code y bytes maxL ret ∈ gTs) ∧ (y.cls ≠ "java/lang/invoke/MethodHandle" ∧ y.cls ≠ "java/lang/invoke/VarHandle" ∧ (parseMethodDescriptor y.desc).map (fun d => d.parameters.length) = some n)
abbrev b_BS_init : ByteArray := prog_2_method_1_code
def y_BS_init : MethodName := ⟨R_BS, "<init>", "()V"⟩
abbrev b_BS_clear : ByteArray := prog_2_method_2_code
def y_BS_clear : MethodName := ⟨R_BS, "clear", "()V"⟩
set_option maxRecDepth 20000 in
theorem cb_BS_clear : gCb y_BS_clear R_BS b_BS_clear 2 none 0 := ⟨⟨gt 365 (by decide +kernel) rfl, gt 5 (by decide +kernel) rfl, gt 93 (by decide +kernel) rfl, gt 366 rfl rfl⟩, by decide +kernel⟩
abbrev b_BS_copyOf : ByteArray := prog_2_method_3_code
def y_BS_copyOf : MethodName := ⟨R_BS, "copyOf", "(LSpillQueue$BlockSet;)V"⟩
set_option maxRecDepth 20000 in
theorem cb_BS_copyOf : gCb y_BS_copyOf R_BS b_BS_copyOf 3 none 1 := ⟨⟨gt 490 (by decide +kernel) rfl, gt 26 (by decide +kernel) rfl, gt 93 (by decide +kernel) rfl, gt 491 rfl rfl⟩, by decide +kernel⟩
abbrev b_BS_add : ByteArray := prog_2_method_4_code
def y_BS_add : MethodName := ⟨R_BS, "add", "(I)V"⟩
set_option maxRecDepth 20000 in
theorem cb_BS_add : gCb y_BS_add R_BS b_BS_add 2 none 1 := ⟨⟨gt 407 (by decide +kernel) rfl, gt 14 (by decide +kernel) rfl, gt 93 (by decide +kernel) rfl, gt 408 rfl rfl⟩, by decide +kernel⟩
abbrev b_BS_has : ByteArray := prog_2_method_5_code
def y_BS_has : MethodName := ⟨R_BS, "has", "(I)Z"⟩
set_option maxRecDepth 20000 in
theorem cb_BS_has : gCb y_BS_has R_BS b_BS_has 2 (some .boolean) 1 := ⟨⟨gt 494 (by decide +kernel) rfl, gt 27 (by decide +kernel) rfl, gt 93 (by decide +kernel) rfl, gt 495 rfl rfl⟩, by decide +kernel⟩
abbrev b_DK_init : ByteArray := prog_3_method_1_code
def y_DK_init : MethodName := ⟨R_DK, "<init>", "()V"⟩
abbrev b_DK_renew : ByteArray := prog_3_method_2_code
def y_DK_renew : MethodName := ⟨R_DK, "renew", "(II)V"⟩
set_option maxRecDepth 20000 in
theorem cb_DK_renew : gCb y_DK_renew R_DK b_DK_renew 3 none 2 := ⟨⟨gt 369 (by decide +kernel) rfl, gt 6 (by decide +kernel) rfl, gt 88 (by decide +kernel) rfl, gt 370 rfl rfl⟩, by decide +kernel⟩
abbrev b_DK_has : ByteArray := prog_3_method_3_code
def y_DK_has : MethodName := ⟨R_DK, "has", "(II)Z"⟩
set_option maxRecDepth 20000 in
theorem cb_DK_has : gCb y_DK_has R_DK b_DK_has 3 (some .boolean) 2 := ⟨⟨gt 708 (by decide +kernel) rfl, gt 51 (by decide +kernel) rfl, gt 88 (by decide +kernel) rfl, gt 709 rfl rfl⟩, by decide +kernel⟩
abbrev b_DK_get : ByteArray := prog_3_method_4_code
def y_DK_get : MethodName := ⟨R_DK, "get", "(II)I"⟩
set_option maxRecDepth 20000 in
theorem cb_DK_get : gCb y_DK_get R_DK b_DK_get 3 (some .int) 2 := ⟨⟨gt 411 (by decide +kernel) rfl, gt 15 (by decide +kernel) rfl, gt 88 (by decide +kernel) rfl, gt 412 rfl rfl⟩, by decide +kernel⟩
abbrev b_DK_turnOver : ByteArray := prog_3_method_5_code
def y_DK_turnOver : MethodName := ⟨R_DK, "turnOver", "(III)V"⟩
set_option maxRecDepth 20000 in
theorem cb_DK_turnOver : gCb y_DK_turnOver R_DK b_DK_turnOver 4 none 3 := ⟨⟨gt 722 (by decide +kernel) rfl, gt 52 (by decide +kernel) rfl, gt 88 (by decide +kernel) rfl, gt 723 rfl rfl⟩, by decide +kernel⟩
abbrev b_DK_keysPerBlock : ByteArray := prog_3_method_6_code
def y_DK_keysPerBlock : MethodName := ⟨R_DK, "keysPerBlock", "()I"⟩
set_option maxRecDepth 20000 in
theorem cb_DK_keysPerBlock : gCb y_DK_keysPerBlock R_DK b_DK_keysPerBlock 1 (some .int) 0 := ⟨⟨gt 482 (by decide +kernel) rfl, gt 24 (by decide +kernel) rfl, gt 88 (by decide +kernel) rfl, gt 483 rfl rfl⟩, by decide +kernel⟩
abbrev b_DK_mostRuns : ByteArray := prog_3_method_7_code
def y_DK_mostRuns : MethodName := ⟨R_DK, "mostRuns", "()I"⟩
set_option maxRecDepth 20000 in
theorem cb_DK_mostRuns : gCb y_DK_mostRuns R_DK b_DK_mostRuns 1 (some .int) 0 := ⟨⟨gt 452 (by decide +kernel) rfl, gt 19 (by decide +kernel) rfl, gt 88 (by decide +kernel) rfl, gt 453 rfl rfl⟩, by decide +kernel⟩
abbrev b_DK_blocksFor : ByteArray := prog_3_method_8_code
def y_DK_blocksFor : MethodName := ⟨R_DK, "blocksFor", "(I)I"⟩
set_option maxRecDepth 20000 in
theorem cb_DK_blocksFor : gCb y_DK_blocksFor R_DK b_DK_blocksFor 3 (some .int) 1 := ⟨⟨gt 478 (by decide +kernel) rfl, gt 23 (by decide +kernel) rfl, gt 88 (by decide +kernel) rfl, gt 479 rfl rfl⟩, by decide +kernel⟩
abbrev b_DK_clearRow : ByteArray := prog_3_method_9_code
def y_DK_clearRow : MethodName := ⟨R_DK, "clearRow", "()V"⟩
set_option maxRecDepth 20000 in
theorem cb_DK_clearRow : gCb y_DK_clearRow R_DK b_DK_clearRow 1 none 0 := ⟨⟨gt 384 (by decide +kernel) rfl, gt 9 (by decide +kernel) rfl, gt 88 (by decide +kernel) rfl, gt 385 rfl rfl⟩, by decide +kernel⟩
abbrev b_DK_setRow : ByteArray := prog_3_method_10_code
def y_DK_setRow : MethodName := ⟨R_DK, "setRow", "(II)V"⟩
set_option maxRecDepth 20000 in
theorem cb_DK_setRow : gCb y_DK_setRow R_DK b_DK_setRow 3 none 2 := ⟨⟨gt 388 (by decide +kernel) rfl, gt 10 (by decide +kernel) rfl, gt 88 (by decide +kernel) rfl, gt 389 rfl rfl⟩, by decide +kernel⟩
abbrev b_DK_writeRow : ByteArray := prog_3_method_11_code
def y_DK_writeRow : MethodName := ⟨R_DK, "writeRow", "(I)Z"⟩
set_option maxRecDepth 20000 in
theorem cb_DK_writeRow : gCb y_DK_writeRow R_DK b_DK_writeRow 2 (some .boolean) 1 := ⟨⟨gt 392 (by decide +kernel) rfl, gt 11 (by decide +kernel) rfl, gt 88 (by decide +kernel) rfl, gt 393 rfl rfl⟩, by decide +kernel⟩
abbrev b_DK_sumOf : ByteArray := prog_3_method_12_code
def y_DK_sumOf : MethodName := ⟨R_DK, "sumOf", "(I)I"⟩
set_option maxRecDepth 20000 in
theorem cb_DK_sumOf : gCb y_DK_sumOf R_DK b_DK_sumOf 5 (some .int) 1 := ⟨⟨gt 399 (by decide +kernel) rfl, gt 12 (by decide +kernel) rfl, gt 88 (by decide +kernel) rfl, gt 400 rfl rfl⟩, by decide +kernel⟩
abbrev b_ME_init : ByteArray := prog_5_method_1_code
def y_ME_init : MethodName := ⟨R_ME, "<init>", "()V"⟩
abbrev b_ME_clear : ByteArray := prog_5_method_2_code
def y_ME_clear : MethodName := ⟨R_ME, "clear", "()V"⟩
set_option maxRecDepth 20000 in
theorem cb_ME_clear : gCb y_ME_clear R_ME b_ME_clear 1 none 0 := ⟨⟨gt 357 (by decide +kernel) rfl, gt 3 (by decide +kernel) rfl, gt 90 (by decide +kernel) rfl, gt 358 rfl rfl⟩, by decide +kernel⟩
abbrev b_ME_isFull : ByteArray := prog_5_method_3_code
def y_ME_isFull : MethodName := ⟨R_ME, "isFull", "()Z"⟩
set_option maxRecDepth 20000 in
theorem cb_ME_isFull : gCb y_ME_isFull R_ME b_ME_isFull 1 (some .boolean) 0 := ⟨⟨gt 444 (by decide +kernel) rfl, gt 17 (by decide +kernel) rfl, gt 90 (by decide +kernel) rfl, gt 445 rfl rfl⟩, by decide +kernel⟩
abbrev b_ME_add : ByteArray := prog_5_method_4_code
def y_ME_add : MethodName := ⟨R_ME, "add", "(I)V"⟩
set_option maxRecDepth 20000 in
theorem cb_ME_add : gCb y_ME_add R_ME b_ME_add 3 none 1 := ⟨⟨gt 556 (by decide +kernel) rfl, gt 38 (by decide +kernel) rfl, gt 90 (by decide +kernel) rfl, gt 557 rfl rfl⟩, by decide +kernel⟩
abbrev b_ME_least : ByteArray := prog_5_method_5_code
def y_ME_least : MethodName := ⟨R_ME, "least", "()I"⟩
set_option maxRecDepth 20000 in
theorem cb_ME_least : gCb y_ME_least R_ME b_ME_least 1 (some .int) 0 := ⟨⟨gt 511 (by decide +kernel) rfl, gt 28 (by decide +kernel) rfl, gt 90 (by decide +kernel) rfl, gt 512 rfl rfl⟩, by decide +kernel⟩
abbrev b_ME_howMany : ByteArray := prog_5_method_6_code
def y_ME_howMany : MethodName := ⟨R_ME, "howMany", "()I"⟩
set_option maxRecDepth 20000 in
theorem cb_ME_howMany : gCb y_ME_howMany R_ME b_ME_howMany 1 (some .int) 0 := ⟨⟨gt 265 (by decide +kernel) rfl, gt 266 (by decide +kernel) rfl, gt 90 (by decide +kernel) rfl, gt 267 rfl rfl⟩, by decide +kernel⟩
abbrev b_ME_takeLeast : ByteArray := prog_5_method_7_code
def y_ME_takeLeast : MethodName := ⟨R_ME, "takeLeast", "()I"⟩
set_option maxRecDepth 20000 in
theorem cb_ME_takeLeast : gCb y_ME_takeLeast R_ME b_ME_takeLeast 2 (some .int) 0 := ⟨⟨gt 507 (by decide +kernel) rfl, gt 1006 (by decide +kernel) rfl, gt 90 (by decide +kernel) rfl, gt 508 rfl rfl⟩, by decide +kernel⟩
abbrev b_RU_init : ByteArray := prog_6_method_1_code
def y_RU_init : MethodName := ⟨R_RU, "<init>", "(LSpillQueue$Disk;)V"⟩
abbrev b_RU_clear : ByteArray := prog_6_method_2_code
def y_RU_clear : MethodName := ⟨R_RU, "clear", "()V"⟩
set_option maxRecDepth 20000 in
theorem cb_RU_clear : gCb y_RU_clear R_RU b_RU_clear 1 none 0 := ⟨⟨gt 361 (by decide +kernel) rfl, gt 4 (by decide +kernel) rfl, gt 91 (by decide +kernel) rfl, gt 362 rfl rfl⟩, by decide +kernel⟩
abbrev b_RU_has : ByteArray := prog_6_method_3_code
def y_RU_has : MethodName := ⟨R_RU, "has", "(I)Z"⟩
set_option maxRecDepth 20000 in
theorem cb_RU_has : gCb y_RU_has R_RU b_RU_has 2 (some .boolean) 1 := ⟨⟨gt 526 (by decide +kernel) rfl, gt 31 (by decide +kernel) rfl, gt 91 (by decide +kernel) rfl, gt 527 rfl rfl⟩, by decide +kernel⟩
abbrev b_RU_add : ByteArray := prog_6_method_4_code
def y_RU_add : MethodName := ⟨R_RU, "add", "(IIII)V"⟩
set_option maxRecDepth 20000 in
theorem cb_RU_add : gCb y_RU_add R_RU b_RU_add 5 none 4 := ⟨⟨gt 536 (by decide +kernel) rfl, gt 33 (by decide +kernel) rfl, gt 91 (by decide +kernel) rfl, gt 537 rfl rfl⟩, by decide +kernel⟩
abbrev b_RU_dropEmpty : ByteArray := prog_6_method_5_code
def y_RU_dropEmpty : MethodName := ⟨R_RU, "dropEmpty", "()V"⟩
set_option maxRecDepth 20000 in
theorem cb_RU_dropEmpty : gCb y_RU_dropEmpty R_RU b_RU_dropEmpty 3 none 0 := ⟨⟨gt 532 (by decide +kernel) rfl, gt 32 (by decide +kernel) rfl, gt 91 (by decide +kernel) rfl, gt 533 rfl rfl⟩, by decide +kernel⟩
abbrev b_RU_headOf : ByteArray := prog_6_method_6_code
def y_RU_headOf : MethodName := ⟨R_RU, "headOf", "(I)I"⟩
set_option maxRecDepth 20000 in
theorem cb_RU_headOf : gCb y_RU_headOf R_RU b_RU_headOf 2 (some .int) 1 := ⟨⟨gt 573 (by decide +kernel) rfl, gt 40 (by decide +kernel) rfl, gt 91 (by decide +kernel) rfl, gt 574 rfl rfl⟩, by decide +kernel⟩
abbrev b_RU_leastAt : ByteArray := prog_6_method_7_code
def y_RU_leastAt : MethodName := ⟨R_RU, "leastAt", "(Z)I"⟩
set_option maxRecDepth 20000 in
theorem cb_RU_leastAt : gCb y_RU_leastAt R_RU b_RU_leastAt 5 (some .int) 1 := ⟨⟨gt 518 (by decide +kernel) rfl, gt 29 (by decide +kernel) rfl, gt 91 (by decide +kernel) rfl, gt 519 rfl rfl⟩, by decide +kernel⟩
abbrev b_RU_takeFrom : ByteArray := prog_6_method_8_code
def y_RU_takeFrom : MethodName := ⟨R_RU, "takeFrom", "(I)I"⟩
set_option maxRecDepth 20000 in
theorem cb_RU_takeFrom : gCb y_RU_takeFrom R_RU b_RU_takeFrom 3 (some .int) 1 := ⟨⟨gt 522 (by decide +kernel) rfl, gt 30 (by decide +kernel) rfl, gt 91 (by decide +kernel) rfl, gt 523 rfl rfl⟩, by decide +kernel⟩
abbrev b_RU_keysInAll : ByteArray := prog_6_method_9_code
def y_RU_keysInAll : MethodName := ⟨R_RU, "keysInAll", "()I"⟩
set_option maxRecDepth 20000 in
theorem cb_RU_keysInAll : gCb y_RU_keysInAll R_RU b_RU_keysInAll 3 (some .int) 0 := ⟨⟨gt 270 (by decide +kernel) rfl, gt 0 (by decide +kernel) rfl, gt 91 (by decide +kernel) rfl, gt 271 rfl rfl⟩, by decide +kernel⟩
abbrev b_RU_markBlocks : ByteArray := prog_6_method_10_code
def y_RU_markBlocks : MethodName := ⟨R_RU, "markBlocks", "(LSpillQueue$BlockSet;)V"⟩
set_option maxRecDepth 20000 in
theorem cb_RU_markBlocks : gCb y_RU_markBlocks R_RU b_RU_markBlocks 5 none 1 := ⟨⟨gt 403 (by decide +kernel) rfl, gt 13 (by decide +kernel) rfl, gt 91 (by decide +kernel) rfl, gt 404 rfl rfl⟩, by decide +kernel⟩
abbrev b_RU_greatestLevel : ByteArray := prog_6_method_11_code
def y_RU_greatestLevel : MethodName := ⟨R_RU, "greatestLevel", "()I"⟩
set_option maxRecDepth 20000 in
theorem cb_RU_greatestLevel : gCb y_RU_greatestLevel R_RU b_RU_greatestLevel 3 (some .int) 0 := ⟨⟨gt 460 (by decide +kernel) rfl, gt 21 (by decide +kernel) rfl, gt 91 (by decide +kernel) rfl, gt 461 rfl rfl⟩, by decide +kernel⟩
abbrev b_RU_crowdedAt : ByteArray := prog_6_method_12_code
def y_RU_crowdedAt : MethodName := ⟨R_RU, "crowdedAt", "(I)I"⟩
set_option maxRecDepth 20000 in
theorem cb_RU_crowdedAt : gCb y_RU_crowdedAt R_RU b_RU_crowdedAt 4 (some .int) 1 := ⟨⟨gt 544 (by decide +kernel) rfl, gt 35 (by decide +kernel) rfl, gt 91 (by decide +kernel) rfl, gt 545 rfl rfl⟩, by decide +kernel⟩
abbrev b_RU_runsAtLevelOf : ByteArray := prog_6_method_13_code
def y_RU_runsAtLevelOf : MethodName := ⟨R_RU, "runsAtLevelOf", "(I)I"⟩
set_option maxRecDepth 20000 in
theorem cb_RU_runsAtLevelOf : gCb y_RU_runsAtLevelOf R_RU b_RU_runsAtLevelOf 4 (some .int) 1 := ⟨⟨gt 548 (by decide +kernel) rfl, gt 36 (by decide +kernel) rfl, gt 91 (by decide +kernel) rfl, gt 549 rfl rfl⟩, by decide +kernel⟩
abbrev b_RU_chooseAll : ByteArray := prog_6_method_14_code
def y_RU_chooseAll : MethodName := ⟨R_RU, "chooseAll", "()V"⟩
set_option maxRecDepth 20000 in
theorem cb_RU_chooseAll : gCb y_RU_chooseAll R_RU b_RU_chooseAll 2 none 0 := ⟨⟨gt 456 (by decide +kernel) rfl, gt 20 (by decide +kernel) rfl, gt 91 (by decide +kernel) rfl, gt 457 rfl rfl⟩, by decide +kernel⟩
abbrev b_RU_chooseLevel : ByteArray := prog_6_method_15_code
def y_RU_chooseLevel : MethodName := ⟨R_RU, "chooseLevel", "(I)V"⟩
set_option maxRecDepth 20000 in
theorem cb_RU_chooseLevel : gCb y_RU_chooseLevel R_RU b_RU_chooseLevel 3 none 1 := ⟨⟨gt 552 (by decide +kernel) rfl, gt 37 (by decide +kernel) rfl, gt 91 (by decide +kernel) rfl, gt 553 rfl rfl⟩, by decide +kernel⟩
abbrev b_RU_howMany : ByteArray := prog_6_method_16_code
def y_RU_howMany : MethodName := ⟨R_RU, "howMany", "()I"⟩
abbrev b_RU_takeLeast : ByteArray := prog_6_method_17_code
def y_RU_takeLeast : MethodName := ⟨R_RU, "takeLeast", "()I"⟩
abbrev b_SB_init : ByteArray := prog_7_method_1_code
def y_SB_init : MethodName := ⟨R_SB, "<init>", "(LSpillQueue$Disk;)V"⟩
abbrev b_SB_store : ByteArray := prog_7_method_2_code
def y_SB_store : MethodName := ⟨R_SB, "store", "(ILSpillQueue$Runs;)Z"⟩
set_option maxRecDepth 20000 in
theorem cb_SB_store : gCb y_SB_store R_SB b_SB_store 5 (some .boolean) 2 := ⟨⟨gt 380 (by decide +kernel) rfl, gt 8 (by decide +kernel) rfl, gt 92 (by decide +kernel) rfl, gt 381 rfl rfl⟩, by decide +kernel⟩
abbrev b_SB_load : ByteArray := prog_7_method_3_code
def y_SB_load : MethodName := ⟨R_SB, "load", "(ILSpillQueue$Runs;)V"⟩
set_option maxRecDepth 20000 in
theorem cb_SB_load : gCb y_SB_load R_SB b_SB_load 6 none 2 := ⟨⟨gt 657 (by decide +kernel) rfl, gt 49 (by decide +kernel) rfl, gt 92 (by decide +kernel) rfl, gt 658 rfl rfl⟩, by decide +kernel⟩
abbrev b_SB_epochOf : ByteArray := prog_7_method_4_code
def y_SB_epochOf : MethodName := ⟨R_SB, "epochOf", "(I)I"⟩
set_option maxRecDepth 20000 in
theorem cb_SB_epochOf : gCb y_SB_epochOf R_SB b_SB_epochOf 2 (some .int) 1 := ⟨⟨gt 628 (by decide +kernel) rfl, gt 44 (by decide +kernel) rfl, gt 92 (by decide +kernel) rfl, gt 629 rfl rfl⟩, by decide +kernel⟩
abbrev b_SB_newestGood : ByteArray := prog_7_method_5_code
def y_SB_newestGood : MethodName := ⟨R_SB, "newestGood", "()I"⟩
set_option maxRecDepth 20000 in
theorem cb_SB_newestGood : gCb y_SB_newestGood R_SB b_SB_newestGood 3 (some .int) 0 := ⟨⟨gt 620 (by decide +kernel) rfl, gt 42 (by decide +kernel) rfl, gt 92 (by decide +kernel) rfl, gt 621 rfl rfl⟩, by decide +kernel⟩
abbrev b_SB_isGood : ByteArray := prog_7_method_6_code
def y_SB_isGood : MethodName := ⟨R_SB, "isGood", "(I)Z"⟩
set_option maxRecDepth 20000 in
theorem cb_SB_isGood : gCb y_SB_isGood R_SB b_SB_isGood 5 (some .boolean) 1 := ⟨⟨gt 624 (by decide +kernel) rfl, gt 43 (by decide +kernel) rfl, gt 92 (by decide +kernel) rfl, gt 625 rfl rfl⟩, by decide +kernel⟩
abbrev b_SB_isRunRight : ByteArray := prog_7_method_7_code
def y_SB_isRunRight : MethodName := ⟨R_SB, "isRunRight", "(II)Z"⟩
set_option maxRecDepth 20000 in
theorem cb_SB_isRunRight : gCb y_SB_isRunRight R_SB b_SB_isRunRight 6 (some .boolean) 2 := ⟨⟨gt 636 (by decide +kernel) rfl, gt 45 (by decide +kernel) rfl, gt 92 (by decide +kernel) rfl, gt 637 rfl rfl⟩, by decide +kernel⟩
abbrev b_SB_isChainRight : ByteArray := prog_7_method_8_code
def y_SB_isChainRight : MethodName := ⟨R_SB, "isChainRight", "(III)Z"⟩
set_option maxRecDepth 20000 in
theorem cb_SB_isChainRight : gCb y_SB_isChainRight R_SB b_SB_isChainRight 10 (some .boolean) 3 := ⟨⟨gt 641 (by decide +kernel) rfl, gt 46 (by decide +kernel) rfl, gt 92 (by decide +kernel) rfl, gt 642 rfl rfl⟩, by decide +kernel⟩
abbrev b_SB_isNewRightBlock : ByteArray := prog_7_method_9_code
def y_SB_isNewRightBlock : MethodName := ⟨R_SB, "isNewRightBlock", "(I)Z"⟩
set_option maxRecDepth 20000 in
theorem cb_SB_isNewRightBlock : gCb y_SB_isNewRightBlock R_SB b_SB_isNewRightBlock 2 (some .boolean) 1 := ⟨⟨gt 646 (by decide +kernel) rfl, gt 47 (by decide +kernel) rfl, gt 92 (by decide +kernel) rfl, gt 647 rfl rfl⟩, by decide +kernel⟩
abbrev b_SB_lastOfRising : ByteArray := prog_7_method_10_code
def y_SB_lastOfRising : MethodName := ⟨R_SB, "lastOfRising", "(IIII)I"⟩
set_option maxRecDepth 20000 in
theorem cb_SB_lastOfRising : gCb y_SB_lastOfRising R_SB b_SB_lastOfRising 8 (some .int) 4 := ⟨⟨gt 653 (by decide +kernel) rfl, gt 48 (by decide +kernel) rfl, gt 92 (by decide +kernel) rfl, gt 654 rfl rfl⟩, by decide +kernel⟩
abbrev b_SQ_init : ByteArray := prog_1_method_1_code
def y_SQ_init : MethodName := ⟨R_SQ, "<init>", "()V"⟩
abbrev b_SQ_format : ByteArray := prog_1_method_2_code
def y_SQ_format : MethodName := ⟨R_SQ, "format", "(IIII)V"⟩
set_option maxRecDepth 20000 in
theorem cb_SQ_format : gCb y_SQ_format R_SQ b_SQ_format 5 none 4 := ⟨⟨gt 277 (by decide +kernel) rfl, gt 278 (by decide +kernel) rfl, gt 87 (by decide +kernel) rfl, gt 279 rfl rfl⟩, by decide +kernel⟩
abbrev b_SQ_insert : ByteArray := prog_1_method_3_code
def y_SQ_insert : MethodName := ⟨R_SQ, "insert", "(I)I"⟩
set_option maxRecDepth 20000 in
theorem cb_SQ_insert : gCb y_SQ_insert R_SQ b_SQ_insert 3 (some .int) 1 := ⟨⟨gt 418 (by decide +kernel) rfl, gt 419 (by decide +kernel) rfl, gt 87 (by decide +kernel) rfl, gt 420 rfl rfl⟩, by decide +kernel⟩
abbrev b_SQ_min : ByteArray := prog_1_method_4_code
def y_SQ_min : MethodName := ⟨R_SQ, "min", "()I"⟩
set_option maxRecDepth 20000 in
theorem cb_SQ_min : gCb y_SQ_min R_SQ b_SQ_min 2 (some .int) 0 := ⟨⟨gt 562 (by decide +kernel) rfl, gt 563 (by decide +kernel) rfl, gt 87 (by decide +kernel) rfl, gt 564 rfl rfl⟩, by decide +kernel⟩
abbrev b_SQ_take : ByteArray := prog_1_method_5_code
def y_SQ_take : MethodName := ⟨R_SQ, "take", "()I"⟩
set_option maxRecDepth 20000 in
theorem cb_SQ_take : gCb y_SQ_take R_SQ b_SQ_take 3 (some .int) 0 := ⟨⟨gt 579 (by decide +kernel) rfl, gt 580 (by decide +kernel) rfl, gt 87 (by decide +kernel) rfl, gt 581 rfl rfl⟩, by decide +kernel⟩
abbrev b_SQ_sync : ByteArray := prog_1_method_6_code
def y_SQ_sync : MethodName := ⟨R_SQ, "sync", "()I"⟩
set_option maxRecDepth 20000 in
theorem cb_SQ_sync : gCb y_SQ_sync R_SQ b_SQ_sync 2 (some .int) 0 := ⟨⟨gt 588 (by decide +kernel) rfl, gt 589 (by decide +kernel) rfl, gt 87 (by decide +kernel) rfl, gt 590 rfl rfl⟩, by decide +kernel⟩
abbrev b_SQ_cutAt : ByteArray := prog_1_method_7_code
def y_SQ_cutAt : MethodName := ⟨R_SQ, "cutAt", "(I)V"⟩
set_option maxRecDepth 20000 in
theorem cb_SQ_cutAt : gCb y_SQ_cutAt R_SQ b_SQ_cutAt 2 none 1 := ⟨⟨gt 595 (by decide +kernel) rfl, gt 596 (by decide +kernel) rfl, gt 87 (by decide +kernel) rfl, gt 597 rfl rfl⟩, by decide +kernel⟩
abbrev b_SQ_cut : ByteArray := prog_1_method_8_code
def y_SQ_cut : MethodName := ⟨R_SQ, "cut", "()V"⟩
set_option maxRecDepth 20000 in
theorem cb_SQ_cut : gCb y_SQ_cut R_SQ b_SQ_cut 1 none 0 := ⟨⟨gt 603 (by decide +kernel) rfl, gt 604 (by decide +kernel) rfl, gt 87 (by decide +kernel) rfl, gt 605 rfl rfl⟩, by decide +kernel⟩
abbrev b_SQ_recover : ByteArray := prog_1_method_9_code
def y_SQ_recover : MethodName := ⟨R_SQ, "recover", "()I"⟩
set_option maxRecDepth 20000 in
theorem cb_SQ_recover : gCb y_SQ_recover R_SQ b_SQ_recover 2 (some .int) 0 := ⟨⟨gt 615 (by decide +kernel) rfl, gt 616 (by decide +kernel) rfl, gt 87 (by decide +kernel) rfl, gt 617 rfl rfl⟩, by decide +kernel⟩
abbrev b_SQ_size : ByteArray := prog_1_method_10_code
def y_SQ_size : MethodName := ⟨R_SQ, "size", "()I"⟩
set_option maxRecDepth 20000 in
theorem cb_SQ_size : gCb y_SQ_size R_SQ b_SQ_size 1 (some .int) 0 := ⟨⟨gt 261 (by decide +kernel) rfl, gt 262 (by decide +kernel) rfl, gt 87 (by decide +kernel) rfl, gt 263 rfl rfl⟩, by decide +kernel⟩
abbrev b_SQ_run : ByteArray := prog_1_method_11_code
def y_SQ_run : MethodName := ⟨R_SQ, "run", "(II)I"⟩
set_option maxRecDepth 20000 in
theorem cb_SQ_run : gCb y_SQ_run R_SQ b_SQ_run 3 (some .int) 2 := ⟨⟨gt 666 (by decide +kernel) rfl, gt 667 (by decide +kernel) rfl, gt 87 (by decide +kernel) rfl, gt 668 rfl rfl⟩, by decide +kernel⟩
abbrev b_SQ_about : ByteArray := prog_1_method_12_code
def y_SQ_about : MethodName := ⟨R_SQ, "about", "(I)I"⟩
set_option maxRecDepth 20000 in
theorem cb_SQ_about : gCb y_SQ_about R_SQ b_SQ_about 2 (some .int) 1 := ⟨⟨gt 691 (by decide +kernel) rfl, gt 692 (by decide +kernel) rfl, gt 87 (by decide +kernel) rfl, gt 693 rfl rfl⟩, by decide +kernel⟩
abbrev b_SQ_word : ByteArray := prog_1_method_13_code
def y_SQ_word : MethodName := ⟨R_SQ, "word", "(II)I"⟩
set_option maxRecDepth 20000 in
theorem cb_SQ_word : gCb y_SQ_word R_SQ b_SQ_word 3 (some .int) 2 := ⟨⟨gt 699 (by decide +kernel) rfl, gt 700 (by decide +kernel) rfl, gt 87 (by decide +kernel) rfl, gt 701 rfl rfl⟩, by decide +kernel⟩
abbrev b_SQ_spoil : ByteArray := prog_1_method_14_code
def y_SQ_spoil : MethodName := ⟨R_SQ, "spoil", "(III)V"⟩
set_option maxRecDepth 20000 in
theorem cb_SQ_spoil : gCb y_SQ_spoil R_SQ b_SQ_spoil 4 none 3 := ⟨⟨gt 716 (by decide +kernel) rfl, gt 717 (by decide +kernel) rfl, gt 87 (by decide +kernel) rfl, gt 718 rfl rfl⟩, by decide +kernel⟩
abbrev b_SQ_requireLive : ByteArray := prog_1_method_15_code
def y_SQ_requireLive : MethodName := ⟨R_SQ, "requireLive", "()V"⟩
set_option maxRecDepth 20000 in
theorem cb_SQ_requireLive : gCb y_SQ_requireLive R_SQ b_SQ_requireLive 1 none 0 := ⟨⟨gt 423 (by decide +kernel) rfl, gt 16 (by decide +kernel) rfl, gt 87 (by decide +kernel) rfl, gt 424 rfl rfl⟩, by decide +kernel⟩
abbrev b_SQ_requireDisk : ByteArray := prog_1_method_16_code
def y_SQ_requireDisk : MethodName := ⟨R_SQ, "requireDisk", "()V"⟩
set_option maxRecDepth 20000 in
theorem cb_SQ_requireDisk : gCb y_SQ_requireDisk R_SQ b_SQ_requireDisk 1 none 0 := ⟨⟨gt 608 (by decide +kernel) rfl, gt 41 (by decide +kernel) rfl, gt 87 (by decide +kernel) rfl, gt 609 rfl rfl⟩, by decide +kernel⟩
abbrev b_SQ_requireWord : ByteArray := prog_1_method_17_code
def y_SQ_requireWord : MethodName := ⟨R_SQ, "requireWord", "(II)V"⟩
set_option maxRecDepth 20000 in
theorem cb_SQ_requireWord : gCb y_SQ_requireWord R_SQ b_SQ_requireWord 3 none 2 := ⟨⟨gt 704 (by decide +kernel) rfl, gt 50 (by decide +kernel) rfl, gt 87 (by decide +kernel) rfl, gt 705 rfl rfl⟩, by decide +kernel⟩
abbrev b_SQ_powerOff : ByteArray := prog_1_method_18_code
def y_SQ_powerOff : MethodName := ⟨R_SQ, "powerOff", "()V"⟩
set_option maxRecDepth 20000 in
theorem cb_SQ_powerOff : gCb y_SQ_powerOff R_SQ b_SQ_powerOff 1 none 0 := ⟨⟨gt 353 (by decide +kernel) rfl, gt 2 (by decide +kernel) rfl, gt 87 (by decide +kernel) rfl, gt 354 rfl rfl⟩, by decide +kernel⟩
abbrev b_SQ_isLeastInMemory : ByteArray := prog_1_method_19_code
def y_SQ_isLeastInMemory : MethodName := ⟨R_SQ, "isLeastInMemory", "(I)Z"⟩
set_option maxRecDepth 20000 in
theorem cb_SQ_isLeastInMemory : gCb y_SQ_isLeastInMemory R_SQ b_SQ_isLeastInMemory 2 (some .boolean) 1 := ⟨⟨gt 568 (by decide +kernel) rfl, gt 39 (by decide +kernel) rfl, gt 87 (by decide +kernel) rfl, gt 569 rfl rfl⟩, by decide +kernel⟩
abbrev b_SQ_spill : ByteArray := prog_1_method_20_code
def y_SQ_spill : MethodName := ⟨R_SQ, "spill", "()I"⟩
set_option maxRecDepth 20000 in
theorem cb_SQ_spill : gCb y_SQ_spill R_SQ b_SQ_spill 2 (some .int) 0 := ⟨⟨gt 448 (by decide +kernel) rfl, gt 18 (by decide +kernel) rfl, gt 87 (by decide +kernel) rfl, gt 449 rfl rfl⟩, by decide +kernel⟩
abbrev b_SQ_mergeCrowdedLevels : ByteArray := prog_1_method_21_code
def y_SQ_mergeCrowdedLevels : MethodName := ⟨R_SQ, "mergeCrowdedLevels", "()I"⟩
set_option maxRecDepth 20000 in
theorem cb_SQ_mergeCrowdedLevels : gCb y_SQ_mergeCrowdedLevels R_SQ b_SQ_mergeCrowdedLevels 5 (some .int) 0 := ⟨⟨gt 540 (by decide +kernel) rfl, gt 34 (by decide +kernel) rfl, gt 87 (by decide +kernel) rfl, gt 541 rfl rfl⟩, by decide +kernel⟩
abbrev b_SQ_makeRun : ByteArray := prog_1_method_22_code
def y_SQ_makeRun : MethodName := ⟨R_SQ, "makeRun", "(LSpillQueue$Keys;I)I"⟩
set_option maxRecDepth 20000 in
theorem cb_SQ_makeRun : gCb y_SQ_makeRun R_SQ b_SQ_makeRun 9 (some .int) 2 := ⟨⟨gt 467 (by decide +kernel) rfl, gt 22 (by decide +kernel) rfl, gt 87 (by decide +kernel) rfl, gt 468 rfl rfl⟩, by decide +kernel⟩
abbrev b_SQ_gatherFree : ByteArray := prog_1_method_23_code
def y_SQ_gatherFree : MethodName := ⟨R_SQ, "gatherFree", "()I"⟩
set_option maxRecDepth 20000 in
theorem cb_SQ_gatherFree : gCb y_SQ_gatherFree R_SQ b_SQ_gatherFree 3 (some .int) 0 := ⟨⟨gt 486 (by decide +kernel) rfl, gt 25 (by decide +kernel) rfl, gt 87 (by decide +kernel) rfl, gt 487 rfl rfl⟩, by decide +kernel⟩
abbrev b_SQ_writeNextEpoch : ByteArray := prog_1_method_24_code
def y_SQ_writeNextEpoch : MethodName := ⟨R_SQ, "writeNextEpoch", "()I"⟩
set_option maxRecDepth 20000 in
theorem cb_SQ_writeNextEpoch : gCb y_SQ_writeNextEpoch R_SQ b_SQ_writeNextEpoch 1 (some .int) 0 := ⟨⟨gt 376 (by decide +kernel) rfl, gt 7 (by decide +kernel) rfl, gt 87 (by decide +kernel) rfl, gt 377 rfl rfl⟩, by decide +kernel⟩
abbrev b_MO_init : ByteArray := prog_9_method_1_code
def y_MO_init : MethodName := ⟨R_MO, "<init>", "()V"⟩
abbrev b_MO_thrown : ByteArray := prog_9_method_2_code
def y_MO_thrown : MethodName := ⟨R_MO, "thrown", "()I"⟩
set_option maxRecDepth 20000 in
theorem cb_MO_thrown : gCb y_MO_thrown R_MO b_MO_thrown 1 (some .int) 0 := ⟨⟨gt 814 (by decide +kernel) rfl, gt 815 (by decide +kernel) rfl, gt 94 (by decide +kernel) rfl, gt 816 rfl rfl⟩, by decide +kernel⟩
abbrev b_MO_within : ByteArray := prog_9_method_3_code
def y_MO_within : MethodName := ⟨R_MO, "within", "(III)Z"⟩
set_option maxRecDepth 20000 in
theorem cb_MO_within : gSb y_MO_within b_MO_within 3 (some .boolean) 3 := ⟨⟨gt 822 (by decide +kernel) rfl, gt 94 (by decide +kernel) rfl, gt 823 rfl rfl⟩, by decide +kernel⟩
abbrev b_MO_at : ByteArray := prog_9_method_4_code
def y_MO_at : MethodName := ⟨R_MO, "at", "(II)I"⟩
set_option maxRecDepth 20000 in
theorem cb_MO_at : gCb y_MO_at R_MO b_MO_at 3 (some .int) 2 := ⟨⟨gt 842 (by decide +kernel) rfl, gt 57 (by decide +kernel) rfl, gt 94 (by decide +kernel) rfl, gt 843 rfl rfl⟩, by decide +kernel⟩
abbrev b_MO_room : ByteArray := prog_9_method_5_code
def y_MO_room : MethodName := ⟨R_MO, "room", "()I"⟩
set_option maxRecDepth 20000 in
theorem cb_MO_room : gCb y_MO_room R_MO b_MO_room 1 (some .int) 0 := ⟨⟨gt 854 (by decide +kernel) rfl, gt 60 (by decide +kernel) rfl, gt 94 (by decide +kernel) rfl, gt 855 rfl rfl⟩, by decide +kernel⟩
abbrev b_MO_most : ByteArray := prog_9_method_6_code
def y_MO_most : MethodName := ⟨R_MO, "most", "()I"⟩
set_option maxRecDepth 20000 in
theorem cb_MO_most : gCb y_MO_most R_MO b_MO_most 1 (some .int) 0 := ⟨⟨gt 866 (by decide +kernel) rfl, gt 62 (by decide +kernel) rfl, gt 94 (by decide +kernel) rfl, gt 867 rfl rfl⟩, by decide +kernel⟩
abbrev b_MO_sumOf : ByteArray := prog_9_method_7_code
def y_MO_sumOf : MethodName := ⟨R_MO, "sumOf", "(I)I"⟩
set_option maxRecDepth 20000 in
theorem cb_MO_sumOf : gCb y_MO_sumOf R_MO b_MO_sumOf 4 (some .int) 1 := ⟨⟨gt 838 (by decide +kernel) rfl, gt 56 (by decide +kernel) rfl, gt 94 (by decide +kernel) rfl, gt 839 rfl rfl⟩, by decide +kernel⟩
abbrev b_MO_clearRow : ByteArray := prog_9_method_8_code
def y_MO_clearRow : MethodName := ⟨R_MO, "clearRow", "()V"⟩
set_option maxRecDepth 20000 in
theorem cb_MO_clearRow : gCb y_MO_clearRow R_MO b_MO_clearRow 2 none 0 := ⟨⟨gt 830 (by decide +kernel) rfl, gt 54 (by decide +kernel) rfl, gt 94 (by decide +kernel) rfl, gt 831 rfl rfl⟩, by decide +kernel⟩
abbrev b_MO_write : ByteArray := prog_9_method_9_code
def y_MO_write : MethodName := ⟨R_MO, "write", "(I)V"⟩
set_option maxRecDepth 20000 in
theorem cb_MO_write : gCb y_MO_write R_MO b_MO_write 3 none 1 := ⟨⟨gt 834 (by decide +kernel) rfl, gt 55 (by decide +kernel) rfl, gt 94 (by decide +kernel) rfl, gt 835 rfl rfl⟩, by decide +kernel⟩
abbrev b_MO_blocksOf : ByteArray := prog_9_method_10_code
def y_MO_blocksOf : MethodName := ⟨R_MO, "blocksOf", "(II)I"⟩
set_option maxRecDepth 20000 in
theorem cb_MO_blocksOf : gCb y_MO_blocksOf R_MO b_MO_blocksOf 3 (some .int) 2 := ⟨⟨gt 850 (by decide +kernel) rfl, gt 59 (by decide +kernel) rfl, gt 94 (by decide +kernel) rfl, gt 851 rfl rfl⟩, by decide +kernel⟩
abbrev b_MO_markTaken : ByteArray := prog_9_method_11_code
def y_MO_markTaken : MethodName := ⟨R_MO, "markTaken", "()V"⟩
set_option maxRecDepth 20000 in
theorem cb_MO_markTaken : gCb y_MO_markTaken R_MO b_MO_markTaken 5 none 0 := ⟨⟨gt 846 (by decide +kernel) rfl, gt 58 (by decide +kernel) rfl, gt 94 (by decide +kernel) rfl, gt 847 rfl rfl⟩, by decide +kernel⟩
abbrev b_MO_isFree : ByteArray := prog_9_method_12_code
def y_MO_isFree : MethodName := ⟨R_MO, "isFree", "(I)Z"⟩
set_option maxRecDepth 20000 in
theorem cb_MO_isFree : gCb y_MO_isFree R_MO b_MO_isFree 2 (some .boolean) 1 := ⟨⟨gt 886 (by decide +kernel) rfl, gt 67 (by decide +kernel) rfl, gt 94 (by decide +kernel) rfl, gt 887 rfl rfl⟩, by decide +kernel⟩
abbrev b_MO_free : ByteArray := prog_9_method_13_code
def y_MO_free : MethodName := ⟨R_MO, "free", "()I"⟩
set_option maxRecDepth 20000 in
theorem cb_MO_free : gCb y_MO_free R_MO b_MO_free 3 (some .int) 0 := ⟨⟨gt 882 (by decide +kernel) rfl, gt 66 (by decide +kernel) rfl, gt 94 (by decide +kernel) rfl, gt 883 rfl rfl⟩, by decide +kernel⟩
abbrev b_MO_least : ByteArray := prog_9_method_14_code
def y_MO_least : MethodName := ⟨R_MO, "least", "(I)I"⟩
set_option maxRecDepth 20000 in
theorem cb_MO_least : gCb y_MO_least R_MO b_MO_least 2 (some .int) 1 := ⟨⟨gt 942 (by decide +kernel) rfl, gt 80 (by decide +kernel) rfl, gt 94 (by decide +kernel) rfl, gt 943 rfl rfl⟩, by decide +kernel⟩
abbrev b_MO_dropRun : ByteArray := prog_9_method_15_code
def y_MO_dropRun : MethodName := ⟨R_MO, "dropRun", "(I)V"⟩
set_option maxRecDepth 20000 in
theorem cb_MO_dropRun : gCb y_MO_dropRun R_MO b_MO_dropRun 3 none 1 := ⟨⟨gt 906 (by decide +kernel) rfl, gt 72 (by decide +kernel) rfl, gt 94 (by decide +kernel) rfl, gt 907 rfl rfl⟩, by decide +kernel⟩
abbrev b_MO_addRun : ByteArray := prog_9_method_16_code
def y_MO_addRun : MethodName := ⟨R_MO, "addRun", "(III)V"⟩
set_option maxRecDepth 20000 in
theorem cb_MO_addRun : gCb y_MO_addRun R_MO b_MO_addRun 4 none 3 := ⟨⟨gt 910 (by decide +kernel) rfl, gt 73 (by decide +kernel) rfl, gt 94 (by decide +kernel) rfl, gt 911 rfl rfl⟩, by decide +kernel⟩
abbrev b_MO_choose : ByteArray := prog_9_method_17_code
def y_MO_choose : MethodName := ⟨R_MO, "choose", "(I)Z"⟩
set_option maxRecDepth 20000 in
theorem cb_MO_choose : gCb y_MO_choose R_MO b_MO_choose 5 (some .boolean) 1 := ⟨⟨gt 878 (by decide +kernel) rfl, gt 65 (by decide +kernel) rfl, gt 94 (by decide +kernel) rfl, gt 879 rfl rfl⟩, by decide +kernel⟩
abbrev b_MO_takeFromMemory : ByteArray := prog_9_method_18_code
def y_MO_takeFromMemory : MethodName := ⟨R_MO, "takeFromMemory", "()I"⟩
set_option maxRecDepth 20000 in
theorem cb_MO_takeFromMemory : gCb y_MO_takeFromMemory R_MO b_MO_takeFromMemory 3 (some .int) 0 := ⟨⟨gt 894 (by decide +kernel) rfl, gt 69 (by decide +kernel) rfl, gt 94 (by decide +kernel) rfl, gt 895 rfl rfl⟩, by decide +kernel⟩
abbrev b_MO_headOf : ByteArray := prog_9_method_19_code
def y_MO_headOf : MethodName := ⟨R_MO, "headOf", "(I)I"⟩
set_option maxRecDepth 20000 in
theorem cb_MO_headOf : gCb y_MO_headOf R_MO b_MO_headOf 2 (some .int) 1 := ⟨⟨gt 902 (by decide +kernel) rfl, gt 71 (by decide +kernel) rfl, gt 94 (by decide +kernel) rfl, gt 903 rfl rfl⟩, by decide +kernel⟩
abbrev b_MO_takeFromRuns : ByteArray := prog_9_method_20_code
def y_MO_takeFromRuns : MethodName := ⟨R_MO, "takeFromRuns", "()I"⟩
set_option maxRecDepth 20000 in
theorem cb_MO_takeFromRuns : gCb y_MO_takeFromRuns R_MO b_MO_takeFromRuns 3 (some .int) 0 := ⟨⟨gt 898 (by decide +kernel) rfl, gt 70 (by decide +kernel) rfl, gt 94 (by decide +kernel) rfl, gt 899 rfl rfl⟩, by decide +kernel⟩
abbrev b_MO_writeKeys : ByteArray := prog_9_method_21_code
def y_MO_writeKeys : MethodName := ⟨R_MO, "writeKeys", "(IZ)V"⟩
set_option maxRecDepth 20000 in
theorem cb_MO_writeKeys : gCb y_MO_writeKeys R_MO b_MO_writeKeys 7 none 2 := ⟨⟨gt 890 (by decide +kernel) rfl, gt 68 (by decide +kernel) rfl, gt 94 (by decide +kernel) rfl, gt 891 rfl rfl⟩, by decide +kernel⟩
abbrev b_MO_merge : ByteArray := prog_9_method_22_code
def y_MO_merge : MethodName := ⟨R_MO, "merge", "(ZII)Z"⟩
set_option maxRecDepth 20000 in
theorem cb_MO_merge : gCb y_MO_merge R_MO b_MO_merge 7 (some .boolean) 3 := ⟨⟨gt 874 (by decide +kernel) rfl, gt 64 (by decide +kernel) rfl, gt 94 (by decide +kernel) rfl, gt 875 rfl rfl⟩, by decide +kernel⟩
abbrev b_MO_mergeAll : ByteArray := prog_9_method_23_code
def y_MO_mergeAll : MethodName := ⟨R_MO, "mergeAll", "()Z"⟩
set_option maxRecDepth 20000 in
theorem cb_MO_mergeAll : gCb y_MO_mergeAll R_MO b_MO_mergeAll 3 (some .boolean) 0 := ⟨⟨gt 870 (by decide +kernel) rfl, gt 63 (by decide +kernel) rfl, gt 94 (by decide +kernel) rfl, gt 871 rfl rfl⟩, by decide +kernel⟩
abbrev b_MO_runsOf : ByteArray := prog_9_method_24_code
def y_MO_runsOf : MethodName := ⟨R_MO, "runsOf", "(I)I"⟩
set_option maxRecDepth 20000 in
theorem cb_MO_runsOf : gCb y_MO_runsOf R_MO b_MO_runsOf 4 (some .int) 1 := ⟨⟨gt 918 (by decide +kernel) rfl, gt 75 (by decide +kernel) rfl, gt 94 (by decide +kernel) rfl, gt 919 rfl rfl⟩, by decide +kernel⟩
abbrev b_MO_crowded : ByteArray := prog_9_method_25_code
def y_MO_crowded : MethodName := ⟨R_MO, "crowded", "()I"⟩
set_option maxRecDepth 20000 in
theorem cb_MO_crowded : gCb y_MO_crowded R_MO b_MO_crowded 3 (some .int) 0 := ⟨⟨gt 914 (by decide +kernel) rfl, gt 74 (by decide +kernel) rfl, gt 94 (by decide +kernel) rfl, gt 915 rfl rfl⟩, by decide +kernel⟩
abbrev b_MO_spill : ByteArray := prog_9_method_26_code
def y_MO_spill : MethodName := ⟨R_MO, "spill", "()Z"⟩
set_option maxRecDepth 20000 in
theorem cb_MO_spill : gCb y_MO_spill R_MO b_MO_spill 4 (some .boolean) 0 := ⟨⟨gt 862 (by decide +kernel) rfl, gt 61 (by decide +kernel) rfl, gt 94 (by decide +kernel) rfl, gt 863 rfl rfl⟩, by decide +kernel⟩
abbrev b_MO_writeSuper : ByteArray := prog_9_method_27_code
def y_MO_writeSuper : MethodName := ⟨R_MO, "writeSuper", "()V"⟩
set_option maxRecDepth 20000 in
theorem cb_MO_writeSuper : gCb y_MO_writeSuper R_MO b_MO_writeSuper 2 none 0 := ⟨⟨gt 826 (by decide +kernel) rfl, gt 53 (by decide +kernel) rfl, gt 94 (by decide +kernel) rfl, gt 827 rfl rfl⟩, by decide +kernel⟩
abbrev b_MO_die : ByteArray := prog_9_method_28_code
def y_MO_die : MethodName := ⟨R_MO, "die", "()V"⟩
set_option maxRecDepth 20000 in
theorem cb_MO_die : gCb y_MO_die R_MO b_MO_die 1 none 0 := ⟨⟨gt 926 (by decide +kernel) rfl, gt 77 (by decide +kernel) rfl, gt 94 (by decide +kernel) rfl, gt 927 rfl rfl⟩, by decide +kernel⟩
abbrev b_MO_after : ByteArray := prog_9_method_29_code
def y_MO_after : MethodName := ⟨R_MO, "after", "(I)I"⟩
set_option maxRecDepth 20000 in
theorem cb_MO_after : gCb y_MO_after R_MO b_MO_after 2 (some .int) 1 := ⟨⟨gt 922 (by decide +kernel) rfl, gt 76 (by decide +kernel) rfl, gt 94 (by decide +kernel) rfl, gt 923 rfl rfl⟩, by decide +kernel⟩
abbrev b_MO_format : ByteArray := prog_9_method_30_code
def y_MO_format : MethodName := ⟨R_MO, "format", "(IIII)V"⟩
set_option maxRecDepth 20000 in
theorem cb_MO_format : gCb y_MO_format R_MO b_MO_format 6 none 4 := ⟨⟨gt 818 (by decide +kernel) rfl, gt 819 (by decide +kernel) rfl, gt 94 (by decide +kernel) rfl, gt 820 rfl rfl⟩, by decide +kernel⟩
abbrev b_MO_insert : ByteArray := prog_9_method_31_code
def y_MO_insert : MethodName := ⟨R_MO, "insert", "(I)I"⟩
set_option maxRecDepth 20000 in
theorem cb_MO_insert : gCb y_MO_insert R_MO b_MO_insert 3 (some .int) 1 := ⟨⟨gt 857 (by decide +kernel) rfl, gt 858 (by decide +kernel) rfl, gt 94 (by decide +kernel) rfl, gt 859 rfl rfl⟩, by decide +kernel⟩
abbrev b_MO_leastRun : ByteArray := prog_9_method_32_code
def y_MO_leastRun : MethodName := ⟨R_MO, "leastRun", "()I"⟩
set_option maxRecDepth 20000 in
theorem cb_MO_leastRun : gCb y_MO_leastRun R_MO b_MO_leastRun 3 (some .int) 0 := ⟨⟨gt 938 (by decide +kernel) rfl, gt 79 (by decide +kernel) rfl, gt 94 (by decide +kernel) rfl, gt 939 rfl rfl⟩, by decide +kernel⟩
abbrev b_MO_leastInMemory : ByteArray := prog_9_method_33_code
def y_MO_leastInMemory : MethodName := ⟨R_MO, "leastInMemory", "()I"⟩
set_option maxRecDepth 20000 in
theorem cb_MO_leastInMemory : gCb y_MO_leastInMemory R_MO b_MO_leastInMemory 3 (some .int) 0 := ⟨⟨gt 946 (by decide +kernel) rfl, gt 81 (by decide +kernel) rfl, gt 94 (by decide +kernel) rfl, gt 947 rfl rfl⟩, by decide +kernel⟩
abbrev b_MO_leastKey : ByteArray := prog_9_method_34_code
def y_MO_leastKey : MethodName := ⟨R_MO, "leastKey", "()I"⟩
set_option maxRecDepth 20000 in
theorem cb_MO_leastKey : gCb y_MO_leastKey R_MO b_MO_leastKey 3 (some .int) 0 := ⟨⟨gt 934 (by decide +kernel) rfl, gt 78 (by decide +kernel) rfl, gt 94 (by decide +kernel) rfl, gt 935 rfl rfl⟩, by decide +kernel⟩
abbrev b_MO_min : ByteArray := prog_9_method_35_code
def y_MO_min : MethodName := ⟨R_MO, "min", "()I"⟩
set_option maxRecDepth 20000 in
theorem cb_MO_min : gCb y_MO_min R_MO b_MO_min 1 (some .int) 0 := ⟨⟨gt 929 (by decide +kernel) rfl, gt 930 (by decide +kernel) rfl, gt 94 (by decide +kernel) rfl, gt 931 rfl rfl⟩, by decide +kernel⟩
abbrev b_MO_take : ByteArray := prog_9_method_36_code
def y_MO_take : MethodName := ⟨R_MO, "take", "()I"⟩
set_option maxRecDepth 20000 in
theorem cb_MO_take : gCb y_MO_take R_MO b_MO_take 3 (some .int) 0 := ⟨⟨gt 949 (by decide +kernel) rfl, gt 950 (by decide +kernel) rfl, gt 94 (by decide +kernel) rfl, gt 951 rfl rfl⟩, by decide +kernel⟩
abbrev b_MO_sync : ByteArray := prog_9_method_37_code
def y_MO_sync : MethodName := ⟨R_MO, "sync", "()I"⟩
set_option maxRecDepth 20000 in
theorem cb_MO_sync : gCb y_MO_sync R_MO b_MO_sync 1 (some .int) 0 := ⟨⟨gt 953 (by decide +kernel) rfl, gt 954 (by decide +kernel) rfl, gt 94 (by decide +kernel) rfl, gt 955 rfl rfl⟩, by decide +kernel⟩
abbrev b_MO_cutAt : ByteArray := prog_9_method_38_code
def y_MO_cutAt : MethodName := ⟨R_MO, "cutAt", "(I)V"⟩
set_option maxRecDepth 20000 in
theorem cb_MO_cutAt : gCb y_MO_cutAt R_MO b_MO_cutAt 2 none 1 := ⟨⟨gt 957 (by decide +kernel) rfl, gt 958 (by decide +kernel) rfl, gt 94 (by decide +kernel) rfl, gt 959 rfl rfl⟩, by decide +kernel⟩
abbrev b_MO_cut : ByteArray := prog_9_method_39_code
def y_MO_cut : MethodName := ⟨R_MO, "cut", "()V"⟩
set_option maxRecDepth 20000 in
theorem cb_MO_cut : gCb y_MO_cut R_MO b_MO_cut 1 none 0 := ⟨⟨gt 961 (by decide +kernel) rfl, gt 962 (by decide +kernel) rfl, gt 94 (by decide +kernel) rfl, gt 963 rfl rfl⟩, by decide +kernel⟩
abbrev b_MO_readRun : ByteArray := prog_9_method_40_code
def y_MO_readRun : MethodName := ⟨R_MO, "readRun", "(II)Z"⟩
set_option maxRecDepth 20000 in
theorem cb_MO_readRun : gCb y_MO_readRun R_MO b_MO_readRun 10 (some .boolean) 2 := ⟨⟨gt 974 (by decide +kernel) rfl, gt 83 (by decide +kernel) rfl, gt 94 (by decide +kernel) rfl, gt 975 rfl rfl⟩, by decide +kernel⟩
abbrev b_MO_readSuper : ByteArray := prog_9_method_41_code
def y_MO_readSuper : MethodName := ⟨R_MO, "readSuper", "(I)Z"⟩
set_option maxRecDepth 20000 in
theorem cb_MO_readSuper : gCb y_MO_readSuper R_MO b_MO_readSuper 6 (some .boolean) 1 := ⟨⟨gt 970 (by decide +kernel) rfl, gt 82 (by decide +kernel) rfl, gt 94 (by decide +kernel) rfl, gt 971 rfl rfl⟩, by decide +kernel⟩
abbrev b_MO_size0 : ByteArray := prog_9_method_42_code
def y_MO_size0 : MethodName := ⟨R_MO, "size0", "()I"⟩
set_option maxRecDepth 20000 in
theorem cb_MO_size0 : gCb y_MO_size0 R_MO b_MO_size0 3 (some .int) 0 := ⟨⟨gt 978 (by decide +kernel) rfl, gt 84 (by decide +kernel) rfl, gt 94 (by decide +kernel) rfl, gt 979 rfl rfl⟩, by decide +kernel⟩
abbrev b_MO_recover : ByteArray := prog_9_method_43_code
def y_MO_recover : MethodName := ⟨R_MO, "recover", "()I"⟩
set_option maxRecDepth 20000 in
theorem cb_MO_recover : gCb y_MO_recover R_MO b_MO_recover 5 (some .int) 0 := ⟨⟨gt 965 (by decide +kernel) rfl, gt 966 (by decide +kernel) rfl, gt 94 (by decide +kernel) rfl, gt 967 rfl rfl⟩, by decide +kernel⟩
abbrev b_MO_size : ByteArray := prog_9_method_44_code
def y_MO_size : MethodName := ⟨R_MO, "size", "()I"⟩
set_option maxRecDepth 20000 in
theorem cb_MO_size : gCb y_MO_size R_MO b_MO_size 1 (some .int) 0 := ⟨⟨gt 981 (by decide +kernel) rfl, gt 982 (by decide +kernel) rfl, gt 94 (by decide +kernel) rfl, gt 983 rfl rfl⟩, by decide +kernel⟩
abbrev b_MO_run : ByteArray := prog_9_method_45_code
def y_MO_run : MethodName := ⟨R_MO, "run", "(II)I"⟩
set_option maxRecDepth 20000 in
theorem cb_MO_run : gCb y_MO_run R_MO b_MO_run 3 (some .int) 2 := ⟨⟨gt 985 (by decide +kernel) rfl, gt 986 (by decide +kernel) rfl, gt 94 (by decide +kernel) rfl, gt 987 rfl rfl⟩, by decide +kernel⟩
abbrev b_MO_about : ByteArray := prog_9_method_46_code
def y_MO_about : MethodName := ⟨R_MO, "about", "(I)I"⟩
set_option maxRecDepth 20000 in
theorem cb_MO_about : gCb y_MO_about R_MO b_MO_about 2 (some .int) 1 := ⟨⟨gt 989 (by decide +kernel) rfl, gt 990 (by decide +kernel) rfl, gt 94 (by decide +kernel) rfl, gt 991 rfl rfl⟩, by decide +kernel⟩
abbrev b_MO_isWord : ByteArray := prog_9_method_47_code
def y_MO_isWord : MethodName := ⟨R_MO, "isWord", "(II)Z"⟩
set_option maxRecDepth 20000 in
theorem cb_MO_isWord : gCb y_MO_isWord R_MO b_MO_isWord 3 (some .boolean) 2 := ⟨⟨gt 998 (by decide +kernel) rfl, gt 85 (by decide +kernel) rfl, gt 94 (by decide +kernel) rfl, gt 999 rfl rfl⟩, by decide +kernel⟩
abbrev b_MO_word : ByteArray := prog_9_method_48_code
def y_MO_word : MethodName := ⟨R_MO, "word", "(II)I"⟩
set_option maxRecDepth 20000 in
theorem cb_MO_word : gCb y_MO_word R_MO b_MO_word 3 (some .int) 2 := ⟨⟨gt 993 (by decide +kernel) rfl, gt 994 (by decide +kernel) rfl, gt 94 (by decide +kernel) rfl, gt 995 rfl rfl⟩, by decide +kernel⟩
abbrev b_MO_spoil : ByteArray := prog_9_method_49_code
def y_MO_spoil : MethodName := ⟨R_MO, "spoil", "(III)V"⟩
set_option maxRecDepth 20000 in
theorem cb_MO_spoil : gCb y_MO_spoil R_MO b_MO_spoil 4 none 3 := ⟨⟨gt 1001 (by decide +kernel) rfl, gt 1002 (by decide +kernel) rfl, gt 94 (by decide +kernel) rfl, gt 1003 rfl rfl⟩, by decide +kernel⟩
abbrev b_KE_init : ByteArray := prog_4_method_1_code
def y_KE_init : MethodName := ⟨R_KE, "<init>", "()V"⟩
abbrev b_AR_fill : ByteArray := prog_19_method_103_code
def y_AR_fill : MethodName := ⟨R_AR, "fill", "([II)V"⟩
set_option maxRecDepth 20000 in
theorem cb_AR_fill : gSb y_AR_fill b_AR_fill 4 none 2 := ⟨⟨gt 372 (by decide +kernel) rfl, gt 99 (by decide +kernel) rfl, gt 373 rfl rfl⟩, by decide +kernel⟩
abbrev b_LA_format : ByteArray := method_3_code
def y_LA_format : MethodName := ⟨R_LA, "format", "(LSpillQueue;IIII)I"⟩
abbrev b_LA_insert : ByteArray := method_4_code
def y_LA_insert : MethodName := ⟨R_LA, "insert", "(LSpillQueue;I[J)I"⟩
abbrev b_LA_min : ByteArray := method_5_code
def y_LA_min : MethodName := ⟨R_LA, "min", "(LSpillQueue;[J)I"⟩
abbrev b_LA_take : ByteArray := method_6_code
def y_LA_take : MethodName := ⟨R_LA, "take", "(LSpillQueue;[J)I"⟩
abbrev b_LA_sync : ByteArray := method_7_code
def y_LA_sync : MethodName := ⟨R_LA, "sync", "(LSpillQueue;[J)I"⟩
abbrev b_LA_cutAt : ByteArray := method_8_code
def y_LA_cutAt : MethodName := ⟨R_LA, "cutAt", "(LSpillQueue;I)I"⟩
abbrev b_LA_cut : ByteArray := method_9_code
def y_LA_cut : MethodName := ⟨R_LA, "cut", "(LSpillQueue;)I"⟩
abbrev b_LA_recover : ByteArray := method_10_code
def y_LA_recover : MethodName := ⟨R_LA, "recover", "(LSpillQueue;[J)I"⟩
abbrev b_LA_run : ByteArray := method_11_code
def y_LA_run : MethodName := ⟨R_LA, "run", "(LSpillQueue;II[J)I"⟩
abbrev b_LA_about : ByteArray := method_12_code
def y_LA_about : MethodName := ⟨R_LA, "about", "(LSpillQueue;I[J)I"⟩
abbrev b_LA_word : ByteArray := method_13_code
def y_LA_word : MethodName := ⟨R_LA, "word", "(LSpillQueue;II[J)I"⟩
abbrev b_LA_spoil : ByteArray := method_14_code
def y_LA_spoil : MethodName := ⟨R_LA, "spoil", "(LSpillQueue;III)I"⟩
end
section
theorem d_BS_init_0 : decode b_BS_init 0 = .ok (.aload_n 0, 1) := by decide +kernel
theorem d_BS_init_1 : decode b_BS_init 1 = .ok (.invokespecial 3, 3) := by decide +kernel
theorem d_BS_init_4 : decode b_BS_init 4 = .ok (.aload_n 0, 1) := by decide +kernel
theorem d_BS_init_5 : decode b_BS_init 5 = .ok (.sipush 200, 3) := by decide +kernel
theorem d_BS_init_8 : decode b_BS_init 8 = .ok (.newarray .boolean, 2) := by decide +kernel
theorem d_BS_init_10 : decode b_BS_init 10 = .ok (.putfield 9, 3) := by decide +kernel
theorem d_BS_init_13 : decode b_BS_init 13 = .ok (.return_, 1) := by decide +kernel
theorem d_BS_clear_0 : decode b_BS_clear 0 = .ok (.iconst 0, 1) := by decide +kernel
theorem d_BS_clear_1 : decode b_BS_clear 1 = .ok (.istore_n 1, 1) := by decide +kernel
theorem d_BS_clear_2 : decode b_BS_clear 2 = .ok (.iload_n 1, 1) := by decide +kernel
theorem d_BS_clear_3 : decode b_BS_clear 3 = .ok (.aload_n 0, 1) := by decide +kernel
theorem d_BS_clear_4 : decode b_BS_clear 4 = .ok (.getfield 9, 3) := by decide +kernel
theorem d_BS_clear_7 : decode b_BS_clear 7 = .ok (.arraylength, 1) := by decide +kernel
theorem d_BS_clear_8 : decode b_BS_clear 8 = .ok (.if_icmp .ge 16, 3) := by decide +kernel
theorem d_BS_clear_11 : decode b_BS_clear 11 = .ok (.aload_n 0, 1) := by decide +kernel
theorem d_BS_clear_12 : decode b_BS_clear 12 = .ok (.getfield 9, 3) := by decide +kernel
theorem d_BS_clear_15 : decode b_BS_clear 15 = .ok (.iload_n 1, 1) := by decide +kernel
theorem d_BS_clear_16 : decode b_BS_clear 16 = .ok (.iconst 0, 1) := by decide +kernel
theorem d_BS_clear_17 : decode b_BS_clear 17 = .ok (.bastore, 1) := by decide +kernel
theorem d_BS_clear_18 : decode b_BS_clear 18 = .ok (.iinc 1 1, 3) := by decide +kernel
theorem d_BS_clear_21 : decode b_BS_clear 21 = .ok (.goto (-19), 3) := by decide +kernel
theorem d_BS_clear_24 : decode b_BS_clear 24 = .ok (.return_, 1) := by decide +kernel
theorem d_BS_copyOf_0 : decode b_BS_copyOf 0 = .ok (.iconst 0, 1) := by decide +kernel
theorem d_BS_copyOf_1 : decode b_BS_copyOf 1 = .ok (.istore_n 2, 1) := by decide +kernel
theorem d_BS_copyOf_2 : decode b_BS_copyOf 2 = .ok (.iload_n 2, 1) := by decide +kernel
theorem d_BS_copyOf_3 : decode b_BS_copyOf 3 = .ok (.aload_n 0, 1) := by decide +kernel
theorem d_BS_copyOf_4 : decode b_BS_copyOf 4 = .ok (.getfield 9, 3) := by decide +kernel
theorem d_BS_copyOf_7 : decode b_BS_copyOf 7 = .ok (.arraylength, 1) := by decide +kernel
theorem d_BS_copyOf_8 : decode b_BS_copyOf 8 = .ok (.if_icmp .ge 20, 3) := by decide +kernel
theorem d_BS_copyOf_11 : decode b_BS_copyOf 11 = .ok (.aload_n 0, 1) := by decide +kernel
theorem d_BS_copyOf_12 : decode b_BS_copyOf 12 = .ok (.getfield 9, 3) := by decide +kernel
theorem d_BS_copyOf_15 : decode b_BS_copyOf 15 = .ok (.iload_n 2, 1) := by decide +kernel
theorem d_BS_copyOf_16 : decode b_BS_copyOf 16 = .ok (.aload_n 1, 1) := by decide +kernel
theorem d_BS_copyOf_17 : decode b_BS_copyOf 17 = .ok (.iload_n 2, 1) := by decide +kernel
theorem d_BS_copyOf_18 : decode b_BS_copyOf 18 = .ok (.invokevirtual 15, 3) := by decide +kernel
theorem d_BS_copyOf_21 : decode b_BS_copyOf 21 = .ok (.bastore, 1) := by decide +kernel
theorem d_BS_copyOf_22 : decode b_BS_copyOf 22 = .ok (.iinc 2 1, 3) := by decide +kernel
theorem d_BS_copyOf_25 : decode b_BS_copyOf 25 = .ok (.goto (-23), 3) := by decide +kernel
theorem d_BS_copyOf_28 : decode b_BS_copyOf 28 = .ok (.return_, 1) := by decide +kernel
theorem d_BS_add_0 : decode b_BS_add 0 = .ok (.iload_n 1, 1) := by decide +kernel
theorem d_BS_add_1 : decode b_BS_add 1 = .ok (.ifCond .lt 19, 3) := by decide +kernel
theorem d_BS_add_4 : decode b_BS_add 4 = .ok (.iload_n 1, 1) := by decide +kernel
theorem d_BS_add_5 : decode b_BS_add 5 = .ok (.aload_n 0, 1) := by decide +kernel
theorem d_BS_add_6 : decode b_BS_add 6 = .ok (.getfield 9, 3) := by decide +kernel
theorem d_BS_add_9 : decode b_BS_add 9 = .ok (.arraylength, 1) := by decide +kernel
theorem d_BS_add_10 : decode b_BS_add 10 = .ok (.if_icmp .ge 10, 3) := by decide +kernel
theorem d_BS_add_13 : decode b_BS_add 13 = .ok (.aload_n 0, 1) := by decide +kernel
theorem d_BS_add_14 : decode b_BS_add 14 = .ok (.getfield 9, 3) := by decide +kernel
theorem d_BS_add_17 : decode b_BS_add 17 = .ok (.iload_n 1, 1) := by decide +kernel
theorem d_BS_add_18 : decode b_BS_add 18 = .ok (.iconst 1, 1) := by decide +kernel
theorem d_BS_add_19 : decode b_BS_add 19 = .ok (.bastore, 1) := by decide +kernel
theorem d_BS_add_20 : decode b_BS_add 20 = .ok (.return_, 1) := by decide +kernel
theorem d_BS_has_0 : decode b_BS_has 0 = .ok (.iload_n 1, 1) := by decide +kernel
theorem d_BS_has_1 : decode b_BS_has 1 = .ok (.ifCond .lt 25, 3) := by decide +kernel
theorem d_BS_has_4 : decode b_BS_has 4 = .ok (.iload_n 1, 1) := by decide +kernel
theorem d_BS_has_5 : decode b_BS_has 5 = .ok (.aload_n 0, 1) := by decide +kernel
theorem d_BS_has_6 : decode b_BS_has 6 = .ok (.getfield 9, 3) := by decide +kernel
theorem d_BS_has_9 : decode b_BS_has 9 = .ok (.arraylength, 1) := by decide +kernel
theorem d_BS_has_10 : decode b_BS_has 10 = .ok (.if_icmp .ge 16, 3) := by decide +kernel
theorem d_BS_has_13 : decode b_BS_has 13 = .ok (.aload_n 0, 1) := by decide +kernel
theorem d_BS_has_14 : decode b_BS_has 14 = .ok (.getfield 9, 3) := by decide +kernel
theorem d_BS_has_17 : decode b_BS_has 17 = .ok (.iload_n 1, 1) := by decide +kernel
theorem d_BS_has_18 : decode b_BS_has 18 = .ok (.baload, 1) := by decide +kernel
theorem d_BS_has_19 : decode b_BS_has 19 = .ok (.ifCond .eq 7, 3) := by decide +kernel
theorem d_BS_has_22 : decode b_BS_has 22 = .ok (.iconst 1, 1) := by decide +kernel
theorem d_BS_has_23 : decode b_BS_has 23 = .ok (.goto 4, 3) := by decide +kernel
theorem d_BS_has_26 : decode b_BS_has 26 = .ok (.iconst 0, 1) := by decide +kernel
theorem d_BS_has_27 : decode b_BS_has 27 = .ok (.ireturn, 1) := by decide +kernel
theorem d_DK_init_0 : decode b_DK_init 0 = .ok (.aload_n 0, 1) := by decide +kernel
theorem d_DK_init_1 : decode b_DK_init 1 = .ok (.invokespecial 3, 3) := by decide +kernel
theorem d_DK_init_4 : decode b_DK_init 4 = .ok (.aload_n 0, 1) := by decide +kernel
theorem d_DK_init_5 : decode b_DK_init 5 = .ok (.sipush 8000, 3) := by decide +kernel
theorem d_DK_init_8 : decode b_DK_init 8 = .ok (.newarray .int, 2) := by decide +kernel
theorem d_DK_init_10 : decode b_DK_init 10 = .ok (.putfield 9, 3) := by decide +kernel
theorem d_DK_init_13 : decode b_DK_init 13 = .ok (.aload_n 0, 1) := by decide +kernel
theorem d_DK_init_14 : decode b_DK_init 14 = .ok (.bipush 40, 2) := by decide +kernel
theorem d_DK_init_16 : decode b_DK_init 16 = .ok (.newarray .int, 2) := by decide +kernel
theorem d_DK_init_18 : decode b_DK_init 18 = .ok (.putfield 15, 3) := by decide +kernel
theorem d_DK_init_21 : decode b_DK_init 21 = .ok (.return_, 1) := by decide +kernel
theorem d_DK_renew_0 : decode b_DK_renew 0 = .ok (.aload_n 0, 1) := by decide +kernel
theorem d_DK_renew_1 : decode b_DK_renew 1 = .ok (.iload_n 1, 1) := by decide +kernel
theorem d_DK_renew_2 : decode b_DK_renew 2 = .ok (.putfield 18, 3) := by decide +kernel
theorem d_DK_renew_5 : decode b_DK_renew 5 = .ok (.aload_n 0, 1) := by decide +kernel
theorem d_DK_renew_6 : decode b_DK_renew 6 = .ok (.iload_n 2, 1) := by decide +kernel
theorem d_DK_renew_7 : decode b_DK_renew 7 = .ok (.putfield 22, 3) := by decide +kernel
theorem d_DK_renew_10 : decode b_DK_renew 10 = .ok (.aload_n 0, 1) := by decide +kernel
theorem d_DK_renew_11 : decode b_DK_renew 11 = .ok (.iconst 0, 1) := by decide +kernel
theorem d_DK_renew_12 : decode b_DK_renew 12 = .ok (.putfield 25, 3) := by decide +kernel
theorem d_DK_renew_15 : decode b_DK_renew 15 = .ok (.aload_n 0, 1) := by decide +kernel
theorem d_DK_renew_16 : decode b_DK_renew 16 = .ok (.iconst 0, 1) := by decide +kernel
theorem d_DK_renew_17 : decode b_DK_renew 17 = .ok (.putfield 28, 3) := by decide +kernel
theorem d_DK_renew_20 : decode b_DK_renew 20 = .ok (.aload_n 0, 1) := by decide +kernel
theorem d_DK_renew_21 : decode b_DK_renew 21 = .ok (.getfield 9, 3) := by decide +kernel
theorem d_DK_renew_24 : decode b_DK_renew 24 = .ok (.iconst 0, 1) := by decide +kernel
theorem d_DK_renew_25 : decode b_DK_renew 25 = .ok (.invokestatic 31, 3) := by decide +kernel
theorem d_DK_renew_28 : decode b_DK_renew 28 = .ok (.return_, 1) := by decide +kernel
theorem d_DK_has_0 : decode b_DK_has 0 = .ok (.iload_n 1, 1) := by decide +kernel
theorem d_DK_has_1 : decode b_DK_has 1 = .ok (.ifCond .lt 27, 3) := by decide +kernel
theorem d_DK_has_4 : decode b_DK_has 4 = .ok (.iload_n 1, 1) := by decide +kernel
theorem d_DK_has_5 : decode b_DK_has 5 = .ok (.aload_n 0, 1) := by decide +kernel
theorem d_DK_has_6 : decode b_DK_has 6 = .ok (.getfield 18, 3) := by decide +kernel
theorem d_DK_has_9 : decode b_DK_has 9 = .ok (.if_icmp .ge 19, 3) := by decide +kernel
theorem d_DK_has_12 : decode b_DK_has 12 = .ok (.iload_n 2, 1) := by decide +kernel
theorem d_DK_has_13 : decode b_DK_has 13 = .ok (.ifCond .lt 15, 3) := by decide +kernel
theorem d_DK_has_16 : decode b_DK_has 16 = .ok (.iload_n 2, 1) := by decide +kernel
theorem d_DK_has_17 : decode b_DK_has 17 = .ok (.aload_n 0, 1) := by decide +kernel
theorem d_DK_has_18 : decode b_DK_has 18 = .ok (.getfield 22, 3) := by decide +kernel
theorem d_DK_has_21 : decode b_DK_has 21 = .ok (.if_icmp .ge 7, 3) := by decide +kernel
theorem d_DK_has_24 : decode b_DK_has 24 = .ok (.iconst 1, 1) := by decide +kernel
theorem d_DK_has_25 : decode b_DK_has 25 = .ok (.goto 4, 3) := by decide +kernel
theorem d_DK_has_28 : decode b_DK_has 28 = .ok (.iconst 0, 1) := by decide +kernel
theorem d_DK_has_29 : decode b_DK_has 29 = .ok (.ireturn, 1) := by decide +kernel
theorem d_DK_get_0 : decode b_DK_get 0 = .ok (.iload_n 1, 1) := by decide +kernel
theorem d_DK_get_1 : decode b_DK_get 1 = .ok (.ifCond .lt 23, 3) := by decide +kernel
theorem d_DK_get_4 : decode b_DK_get 4 = .ok (.iload_n 1, 1) := by decide +kernel
theorem d_DK_get_5 : decode b_DK_get 5 = .ok (.aload_n 0, 1) := by decide +kernel
theorem d_DK_get_6 : decode b_DK_get 6 = .ok (.getfield 18, 3) := by decide +kernel
theorem d_DK_get_9 : decode b_DK_get 9 = .ok (.if_icmp .ge 15, 3) := by decide +kernel
theorem d_DK_get_12 : decode b_DK_get 12 = .ok (.iload_n 2, 1) := by decide +kernel
theorem d_DK_get_13 : decode b_DK_get 13 = .ok (.ifCond .lt 11, 3) := by decide +kernel
theorem d_DK_get_16 : decode b_DK_get 16 = .ok (.iload_n 2, 1) := by decide +kernel
theorem d_DK_get_17 : decode b_DK_get 17 = .ok (.aload_n 0, 1) := by decide +kernel
theorem d_DK_get_18 : decode b_DK_get 18 = .ok (.getfield 22, 3) := by decide +kernel
theorem d_DK_get_21 : decode b_DK_get 21 = .ok (.if_icmp .lt 5, 3) := by decide +kernel
theorem d_DK_get_24 : decode b_DK_get 24 = .ok (.iconst 0, 1) := by decide +kernel
theorem d_DK_get_25 : decode b_DK_get 25 = .ok (.ireturn, 1) := by decide +kernel
theorem d_DK_get_26 : decode b_DK_get 26 = .ok (.aload_n 0, 1) := by decide +kernel
theorem d_DK_get_27 : decode b_DK_get 27 = .ok (.getfield 9, 3) := by decide +kernel
theorem d_DK_get_30 : decode b_DK_get 30 = .ok (.iload_n 1, 1) := by decide +kernel
theorem d_DK_get_31 : decode b_DK_get 31 = .ok (.aload_n 0, 1) := by decide +kernel
theorem d_DK_get_32 : decode b_DK_get 32 = .ok (.getfield 22, 3) := by decide +kernel
theorem d_DK_get_35 : decode b_DK_get 35 = .ok (.imul, 1) := by decide +kernel
theorem d_DK_get_36 : decode b_DK_get 36 = .ok (.iload_n 2, 1) := by decide +kernel
theorem d_DK_get_37 : decode b_DK_get 37 = .ok (.iadd, 1) := by decide +kernel
theorem d_DK_get_38 : decode b_DK_get 38 = .ok (.iaload, 1) := by decide +kernel
theorem d_DK_get_39 : decode b_DK_get 39 = .ok (.ireturn, 1) := by decide +kernel
theorem d_DK_turnOver_0 : decode b_DK_turnOver 0 = .ok (.aload_n 0, 1) := by decide +kernel
theorem d_DK_turnOver_1 : decode b_DK_turnOver 1 = .ok (.iload_n 1, 1) := by decide +kernel
theorem d_DK_turnOver_2 : decode b_DK_turnOver 2 = .ok (.iload_n 2, 1) := by decide +kernel
theorem d_DK_turnOver_3 : decode b_DK_turnOver 3 = .ok (.invokevirtual 37, 3) := by decide +kernel
theorem d_DK_turnOver_6 : decode b_DK_turnOver 6 = .ok (.ifCond .eq 20, 3) := by decide +kernel
theorem d_DK_turnOver_9 : decode b_DK_turnOver 9 = .ok (.aload_n 0, 1) := by decide +kernel
theorem d_DK_turnOver_10 : decode b_DK_turnOver 10 = .ok (.getfield 9, 3) := by decide +kernel
theorem d_DK_turnOver_13 : decode b_DK_turnOver 13 = .ok (.iload_n 1, 1) := by decide +kernel
theorem d_DK_turnOver_14 : decode b_DK_turnOver 14 = .ok (.aload_n 0, 1) := by decide +kernel
theorem d_DK_turnOver_15 : decode b_DK_turnOver 15 = .ok (.getfield 22, 3) := by decide +kernel
theorem d_DK_turnOver_18 : decode b_DK_turnOver 18 = .ok (.imul, 1) := by decide +kernel
theorem d_DK_turnOver_19 : decode b_DK_turnOver 19 = .ok (.iload_n 2, 1) := by decide +kernel
theorem d_DK_turnOver_20 : decode b_DK_turnOver 20 = .ok (.iadd, 1) := by decide +kernel
theorem d_DK_turnOver_21 : decode b_DK_turnOver 21 = .ok (.dup2, 1) := by decide +kernel
theorem d_DK_turnOver_22 : decode b_DK_turnOver 22 = .ok (.iaload, 1) := by decide +kernel
theorem d_DK_turnOver_23 : decode b_DK_turnOver 23 = .ok (.iload_n 3, 1) := by decide +kernel
theorem d_DK_turnOver_24 : decode b_DK_turnOver 24 = .ok (.ixor, 1) := by decide +kernel
theorem d_DK_turnOver_25 : decode b_DK_turnOver 25 = .ok (.iastore, 1) := by decide +kernel
theorem d_DK_turnOver_26 : decode b_DK_turnOver 26 = .ok (.return_, 1) := by decide +kernel
theorem d_DK_keysPerBlock_0 : decode b_DK_keysPerBlock 0 = .ok (.aload_n 0, 1) := by decide +kernel
theorem d_DK_keysPerBlock_1 : decode b_DK_keysPerBlock 1 = .ok (.getfield 22, 3) := by decide +kernel
theorem d_DK_keysPerBlock_4 : decode b_DK_keysPerBlock 4 = .ok (.iconst 2, 1) := by decide +kernel
theorem d_DK_keysPerBlock_5 : decode b_DK_keysPerBlock 5 = .ok (.isub, 1) := by decide +kernel
theorem d_DK_keysPerBlock_6 : decode b_DK_keysPerBlock 6 = .ok (.ireturn, 1) := by decide +kernel
theorem d_DK_mostRuns_0 : decode b_DK_mostRuns 0 = .ok (.aload_n 0, 1) := by decide +kernel
theorem d_DK_mostRuns_1 : decode b_DK_mostRuns 1 = .ok (.getfield 22, 3) := by decide +kernel
theorem d_DK_mostRuns_4 : decode b_DK_mostRuns 4 = .ok (.iconst 3, 1) := by decide +kernel
theorem d_DK_mostRuns_5 : decode b_DK_mostRuns 5 = .ok (.isub, 1) := by decide +kernel
theorem d_DK_mostRuns_6 : decode b_DK_mostRuns 6 = .ok (.iconst 4, 1) := by decide +kernel
theorem d_DK_mostRuns_7 : decode b_DK_mostRuns 7 = .ok (.idiv, 1) := by decide +kernel
theorem d_DK_mostRuns_8 : decode b_DK_mostRuns 8 = .ok (.ireturn, 1) := by decide +kernel
theorem d_DK_blocksFor_0 : decode b_DK_blocksFor 0 = .ok (.aload_n 0, 1) := by decide +kernel
theorem d_DK_blocksFor_1 : decode b_DK_blocksFor 1 = .ok (.invokevirtual 41, 3) := by decide +kernel
theorem d_DK_blocksFor_4 : decode b_DK_blocksFor 4 = .ok (.istore_n 2, 1) := by decide +kernel
theorem d_DK_blocksFor_5 : decode b_DK_blocksFor 5 = .ok (.iload_n 2, 1) := by decide +kernel
theorem d_DK_blocksFor_6 : decode b_DK_blocksFor 6 = .ok (.ifCond .le 13, 3) := by decide +kernel
theorem d_DK_blocksFor_9 : decode b_DK_blocksFor 9 = .ok (.iload_n 1, 1) := by decide +kernel
theorem d_DK_blocksFor_10 : decode b_DK_blocksFor 10 = .ok (.iload_n 2, 1) := by decide +kernel
theorem d_DK_blocksFor_11 : decode b_DK_blocksFor 11 = .ok (.iadd, 1) := by decide +kernel
theorem d_DK_blocksFor_12 : decode b_DK_blocksFor 12 = .ok (.iconst 1, 1) := by decide +kernel
theorem d_DK_blocksFor_13 : decode b_DK_blocksFor 13 = .ok (.isub, 1) := by decide +kernel
theorem d_DK_blocksFor_14 : decode b_DK_blocksFor 14 = .ok (.iload_n 2, 1) := by decide +kernel
theorem d_DK_blocksFor_15 : decode b_DK_blocksFor 15 = .ok (.idiv, 1) := by decide +kernel
theorem d_DK_blocksFor_16 : decode b_DK_blocksFor 16 = .ok (.goto 4, 3) := by decide +kernel
theorem d_DK_blocksFor_19 : decode b_DK_blocksFor 19 = .ok (.iconst 0, 1) := by decide +kernel
theorem d_DK_blocksFor_20 : decode b_DK_blocksFor 20 = .ok (.ireturn, 1) := by decide +kernel
theorem d_DK_clearRow_0 : decode b_DK_clearRow 0 = .ok (.aload_n 0, 1) := by decide +kernel
theorem d_DK_clearRow_1 : decode b_DK_clearRow 1 = .ok (.getfield 15, 3) := by decide +kernel
theorem d_DK_clearRow_4 : decode b_DK_clearRow 4 = .ok (.iconst 0, 1) := by decide +kernel
theorem d_DK_clearRow_5 : decode b_DK_clearRow 5 = .ok (.invokestatic 31, 3) := by decide +kernel
theorem d_DK_clearRow_8 : decode b_DK_clearRow 8 = .ok (.return_, 1) := by decide +kernel
theorem d_DK_setRow_0 : decode b_DK_setRow 0 = .ok (.iload_n 1, 1) := by decide +kernel
theorem d_DK_setRow_1 : decode b_DK_setRow 1 = .ok (.ifCond .lt 19, 3) := by decide +kernel
theorem d_DK_setRow_4 : decode b_DK_setRow 4 = .ok (.iload_n 1, 1) := by decide +kernel
theorem d_DK_setRow_5 : decode b_DK_setRow 5 = .ok (.aload_n 0, 1) := by decide +kernel
theorem d_DK_setRow_6 : decode b_DK_setRow 6 = .ok (.getfield 15, 3) := by decide +kernel
theorem d_DK_setRow_9 : decode b_DK_setRow 9 = .ok (.arraylength, 1) := by decide +kernel
theorem d_DK_setRow_10 : decode b_DK_setRow 10 = .ok (.if_icmp .ge 10, 3) := by decide +kernel
theorem d_DK_setRow_13 : decode b_DK_setRow 13 = .ok (.aload_n 0, 1) := by decide +kernel
theorem d_DK_setRow_14 : decode b_DK_setRow 14 = .ok (.getfield 15, 3) := by decide +kernel
theorem d_DK_setRow_17 : decode b_DK_setRow 17 = .ok (.iload_n 1, 1) := by decide +kernel
theorem d_DK_setRow_18 : decode b_DK_setRow 18 = .ok (.iload_n 2, 1) := by decide +kernel
theorem d_DK_setRow_19 : decode b_DK_setRow 19 = .ok (.iastore, 1) := by decide +kernel
theorem d_DK_setRow_20 : decode b_DK_setRow 20 = .ok (.return_, 1) := by decide +kernel
theorem d_DK_writeRow_0 : decode b_DK_writeRow 0 = .ok (.aload_n 0, 1) := by decide +kernel
theorem d_DK_writeRow_1 : decode b_DK_writeRow 1 = .ok (.getfield 28, 3) := by decide +kernel
theorem d_DK_writeRow_4 : decode b_DK_writeRow 4 = .ok (.ifCond .le 22, 3) := by decide +kernel
theorem d_DK_writeRow_7 : decode b_DK_writeRow 7 = .ok (.aload_n 0, 1) := by decide +kernel
theorem d_DK_writeRow_8 : decode b_DK_writeRow 8 = .ok (.dup, 1) := by decide +kernel
theorem d_DK_writeRow_9 : decode b_DK_writeRow 9 = .ok (.getfield 28, 3) := by decide +kernel
theorem d_DK_writeRow_12 : decode b_DK_writeRow 12 = .ok (.iconst 1, 1) := by decide +kernel
theorem d_DK_writeRow_13 : decode b_DK_writeRow 13 = .ok (.isub, 1) := by decide +kernel
theorem d_DK_writeRow_14 : decode b_DK_writeRow 14 = .ok (.putfield 28, 3) := by decide +kernel
theorem d_DK_writeRow_17 : decode b_DK_writeRow 17 = .ok (.aload_n 0, 1) := by decide +kernel
theorem d_DK_writeRow_18 : decode b_DK_writeRow 18 = .ok (.getfield 28, 3) := by decide +kernel
theorem d_DK_writeRow_21 : decode b_DK_writeRow 21 = .ok (.ifCond .ne 5, 3) := by decide +kernel
theorem d_DK_writeRow_24 : decode b_DK_writeRow 24 = .ok (.iconst 0, 1) := by decide +kernel
theorem d_DK_writeRow_25 : decode b_DK_writeRow 25 = .ok (.ireturn, 1) := by decide +kernel
theorem d_DK_writeRow_26 : decode b_DK_writeRow 26 = .ok (.iload_n 1, 1) := by decide +kernel
theorem d_DK_writeRow_27 : decode b_DK_writeRow 27 = .ok (.ifCond .lt 61, 3) := by decide +kernel
theorem d_DK_writeRow_30 : decode b_DK_writeRow 30 = .ok (.iload_n 1, 1) := by decide +kernel
theorem d_DK_writeRow_31 : decode b_DK_writeRow 31 = .ok (.aload_n 0, 1) := by decide +kernel
theorem d_DK_writeRow_32 : decode b_DK_writeRow 32 = .ok (.getfield 18, 3) := by decide +kernel
theorem d_DK_writeRow_35 : decode b_DK_writeRow 35 = .ok (.if_icmp .ge 53, 3) := by decide +kernel
theorem d_DK_writeRow_38 : decode b_DK_writeRow 38 = .ok (.aload_n 0, 1) := by decide +kernel
theorem d_DK_writeRow_39 : decode b_DK_writeRow 39 = .ok (.getfield 15, 3) := by decide +kernel
theorem d_DK_writeRow_42 : decode b_DK_writeRow 42 = .ok (.iconst 0, 1) := by decide +kernel
theorem d_DK_writeRow_43 : decode b_DK_writeRow 43 = .ok (.aload_n 0, 1) := by decide +kernel
theorem d_DK_writeRow_44 : decode b_DK_writeRow 44 = .ok (.getfield 9, 3) := by decide +kernel
theorem d_DK_writeRow_47 : decode b_DK_writeRow 47 = .ok (.iload_n 1, 1) := by decide +kernel
theorem d_DK_writeRow_48 : decode b_DK_writeRow 48 = .ok (.aload_n 0, 1) := by decide +kernel
theorem d_DK_writeRow_49 : decode b_DK_writeRow 49 = .ok (.getfield 22, 3) := by decide +kernel
theorem d_DK_writeRow_52 : decode b_DK_writeRow 52 = .ok (.imul, 1) := by decide +kernel
theorem d_DK_writeRow_53 : decode b_DK_writeRow 53 = .ok (.aload_n 0, 1) := by decide +kernel
theorem d_DK_writeRow_54 : decode b_DK_writeRow 54 = .ok (.getfield 22, 3) := by decide +kernel
theorem d_DK_writeRow_57 : decode b_DK_writeRow 57 = .ok (.invokestatic 45, 3) := by decide +kernel
theorem d_DK_writeRow_60 : decode b_DK_writeRow 60 = .ok (.aload_n 0, 1) := by decide +kernel
theorem d_DK_writeRow_61 : decode b_DK_writeRow 61 = .ok (.getfield 9, 3) := by decide +kernel
theorem d_DK_writeRow_64 : decode b_DK_writeRow 64 = .ok (.iload_n 1, 1) := by decide +kernel
theorem d_DK_writeRow_65 : decode b_DK_writeRow 65 = .ok (.aload_n 0, 1) := by decide +kernel
theorem d_DK_writeRow_66 : decode b_DK_writeRow 66 = .ok (.getfield 22, 3) := by decide +kernel
theorem d_DK_writeRow_69 : decode b_DK_writeRow 69 = .ok (.imul, 1) := by decide +kernel
theorem d_DK_writeRow_70 : decode b_DK_writeRow 70 = .ok (.iconst 0, 1) := by decide +kernel
theorem d_DK_writeRow_71 : decode b_DK_writeRow 71 = .ok (.iadd, 1) := by decide +kernel
theorem d_DK_writeRow_72 : decode b_DK_writeRow 72 = .ok (.aload_n 0, 1) := by decide +kernel
theorem d_DK_writeRow_73 : decode b_DK_writeRow 73 = .ok (.iload_n 1, 1) := by decide +kernel
theorem d_DK_writeRow_74 : decode b_DK_writeRow 74 = .ok (.invokevirtual 51, 3) := by decide +kernel
theorem d_DK_writeRow_77 : decode b_DK_writeRow 77 = .ok (.iastore, 1) := by decide +kernel
theorem d_DK_writeRow_78 : decode b_DK_writeRow 78 = .ok (.aload_n 0, 1) := by decide +kernel
theorem d_DK_writeRow_79 : decode b_DK_writeRow 79 = .ok (.dup, 1) := by decide +kernel
theorem d_DK_writeRow_80 : decode b_DK_writeRow 80 = .ok (.getfield 25, 3) := by decide +kernel
theorem d_DK_writeRow_83 : decode b_DK_writeRow 83 = .ok (.iconst 1, 1) := by decide +kernel
theorem d_DK_writeRow_84 : decode b_DK_writeRow 84 = .ok (.iadd, 1) := by decide +kernel
theorem d_DK_writeRow_85 : decode b_DK_writeRow 85 = .ok (.putfield 25, 3) := by decide +kernel
theorem d_DK_writeRow_88 : decode b_DK_writeRow 88 = .ok (.iconst 1, 1) := by decide +kernel
theorem d_DK_writeRow_89 : decode b_DK_writeRow 89 = .ok (.ireturn, 1) := by decide +kernel
theorem d_DK_sumOf_0 : decode b_DK_sumOf 0 = .ok (.bipush 7, 2) := by decide +kernel
theorem d_DK_sumOf_2 : decode b_DK_sumOf 2 = .ok (.istore_n 2, 1) := by decide +kernel
theorem d_DK_sumOf_3 : decode b_DK_sumOf 3 = .ok (.iload_n 1, 1) := by decide +kernel
theorem d_DK_sumOf_4 : decode b_DK_sumOf 4 = .ok (.ifCond .lt 55, 3) := by decide +kernel
theorem d_DK_sumOf_7 : decode b_DK_sumOf 7 = .ok (.iload_n 1, 1) := by decide +kernel
theorem d_DK_sumOf_8 : decode b_DK_sumOf 8 = .ok (.aload_n 0, 1) := by decide +kernel
theorem d_DK_sumOf_9 : decode b_DK_sumOf 9 = .ok (.getfield 18, 3) := by decide +kernel
theorem d_DK_sumOf_12 : decode b_DK_sumOf 12 = .ok (.if_icmp .ge 47, 3) := by decide +kernel
theorem d_DK_sumOf_15 : decode b_DK_sumOf 15 = .ok (.iload_n 1, 1) := by decide +kernel
theorem d_DK_sumOf_16 : decode b_DK_sumOf 16 = .ok (.aload_n 0, 1) := by decide +kernel
theorem d_DK_sumOf_17 : decode b_DK_sumOf 17 = .ok (.getfield 22, 3) := by decide +kernel
theorem d_DK_sumOf_20 : decode b_DK_sumOf 20 = .ok (.imul, 1) := by decide +kernel
theorem d_DK_sumOf_21 : decode b_DK_sumOf 21 = .ok (.istore_n 3, 1) := by decide +kernel
theorem d_DK_sumOf_22 : decode b_DK_sumOf 22 = .ok (.iconst 1, 1) := by decide +kernel
theorem d_DK_sumOf_23 : decode b_DK_sumOf 23 = .ok (.istore 4, 2) := by decide +kernel
theorem d_DK_sumOf_25 : decode b_DK_sumOf 25 = .ok (.iload 4, 2) := by decide +kernel
theorem d_DK_sumOf_27 : decode b_DK_sumOf 27 = .ok (.aload_n 0, 1) := by decide +kernel
theorem d_DK_sumOf_28 : decode b_DK_sumOf 28 = .ok (.getfield 22, 3) := by decide +kernel
theorem d_DK_sumOf_31 : decode b_DK_sumOf 31 = .ok (.if_icmp .ge 28, 3) := by decide +kernel
theorem d_DK_sumOf_34 : decode b_DK_sumOf 34 = .ok (.iload_n 2, 1) := by decide +kernel
theorem d_DK_sumOf_35 : decode b_DK_sumOf 35 = .ok (.aload_n 0, 1) := by decide +kernel
theorem d_DK_sumOf_36 : decode b_DK_sumOf 36 = .ok (.getfield 9, 3) := by decide +kernel
theorem d_DK_sumOf_39 : decode b_DK_sumOf 39 = .ok (.iload_n 3, 1) := by decide +kernel
theorem d_DK_sumOf_40 : decode b_DK_sumOf 40 = .ok (.iload 4, 2) := by decide +kernel
theorem d_DK_sumOf_42 : decode b_DK_sumOf 42 = .ok (.iadd, 1) := by decide +kernel
theorem d_DK_sumOf_43 : decode b_DK_sumOf 43 = .ok (.iaload, 1) := by decide +kernel
theorem d_DK_sumOf_44 : decode b_DK_sumOf 44 = .ok (.iconst 2, 1) := by decide +kernel
theorem d_DK_sumOf_45 : decode b_DK_sumOf 45 = .ok (.iload 4, 2) := by decide +kernel
theorem d_DK_sumOf_47 : decode b_DK_sumOf 47 = .ok (.imul, 1) := by decide +kernel
theorem d_DK_sumOf_48 : decode b_DK_sumOf 48 = .ok (.iconst 1, 1) := by decide +kernel
theorem d_DK_sumOf_49 : decode b_DK_sumOf 49 = .ok (.iadd, 1) := by decide +kernel
theorem d_DK_sumOf_50 : decode b_DK_sumOf 50 = .ok (.imul, 1) := by decide +kernel
theorem d_DK_sumOf_51 : decode b_DK_sumOf 51 = .ok (.iadd, 1) := by decide +kernel
theorem d_DK_sumOf_52 : decode b_DK_sumOf 52 = .ok (.istore_n 2, 1) := by decide +kernel
theorem d_DK_sumOf_53 : decode b_DK_sumOf 53 = .ok (.iinc 4 1, 3) := by decide +kernel
theorem d_DK_sumOf_56 : decode b_DK_sumOf 56 = .ok (.goto (-31), 3) := by decide +kernel
theorem d_DK_sumOf_59 : decode b_DK_sumOf 59 = .ok (.iload_n 2, 1) := by decide +kernel
theorem d_DK_sumOf_60 : decode b_DK_sumOf 60 = .ok (.ireturn, 1) := by decide +kernel
theorem d_ME_init_0 : decode b_ME_init 0 = .ok (.aload_n 0, 1) := by decide +kernel
theorem d_ME_init_1 : decode b_ME_init 1 = .ok (.invokespecial 3, 3) := by decide +kernel
theorem d_ME_init_4 : decode b_ME_init 4 = .ok (.aload_n 0, 1) := by decide +kernel
theorem d_ME_init_5 : decode b_ME_init 5 = .ok (.bipush 100, 2) := by decide +kernel
theorem d_ME_init_7 : decode b_ME_init 7 = .ok (.newarray .int, 2) := by decide +kernel
theorem d_ME_init_9 : decode b_ME_init 9 = .ok (.putfield 9, 3) := by decide +kernel
theorem d_ME_init_12 : decode b_ME_init 12 = .ok (.return_, 1) := by decide +kernel
theorem d_ME_clear_0 : decode b_ME_clear 0 = .ok (.aload_n 0, 1) := by decide +kernel
theorem d_ME_clear_1 : decode b_ME_clear 1 = .ok (.iconst 0, 1) := by decide +kernel
theorem d_ME_clear_2 : decode b_ME_clear 2 = .ok (.putfield 15, 3) := by decide +kernel
theorem d_ME_clear_5 : decode b_ME_clear 5 = .ok (.return_, 1) := by decide +kernel
theorem d_ME_isFull_0 : decode b_ME_isFull 0 = .ok (.aload_n 0, 1) := by decide +kernel
theorem d_ME_isFull_1 : decode b_ME_isFull 1 = .ok (.getfield 15, 3) := by decide +kernel
theorem d_ME_isFull_4 : decode b_ME_isFull 4 = .ok (.aload_n 0, 1) := by decide +kernel
theorem d_ME_isFull_5 : decode b_ME_isFull 5 = .ok (.getfield 19, 3) := by decide +kernel
theorem d_ME_isFull_8 : decode b_ME_isFull 8 = .ok (.if_icmp .lt 7, 3) := by decide +kernel
theorem d_ME_isFull_11 : decode b_ME_isFull 11 = .ok (.iconst 1, 1) := by decide +kernel
theorem d_ME_isFull_12 : decode b_ME_isFull 12 = .ok (.goto 4, 3) := by decide +kernel
theorem d_ME_isFull_15 : decode b_ME_isFull 15 = .ok (.iconst 0, 1) := by decide +kernel
theorem d_ME_isFull_16 : decode b_ME_isFull 16 = .ok (.ireturn, 1) := by decide +kernel
theorem d_ME_add_0 : decode b_ME_add 0 = .ok (.aload_n 0, 1) := by decide +kernel
theorem d_ME_add_1 : decode b_ME_add 1 = .ok (.getfield 15, 3) := by decide +kernel
theorem d_ME_add_4 : decode b_ME_add 4 = .ok (.aload_n 0, 1) := by decide +kernel
theorem d_ME_add_5 : decode b_ME_add 5 = .ok (.getfield 9, 3) := by decide +kernel
theorem d_ME_add_8 : decode b_ME_add 8 = .ok (.arraylength, 1) := by decide +kernel
theorem d_ME_add_9 : decode b_ME_add 9 = .ok (.if_icmp .lt 4, 3) := by decide +kernel
theorem d_ME_add_12 : decode b_ME_add 12 = .ok (.return_, 1) := by decide +kernel
theorem d_ME_add_13 : decode b_ME_add 13 = .ok (.aload_n 0, 1) := by decide +kernel
theorem d_ME_add_14 : decode b_ME_add 14 = .ok (.getfield 15, 3) := by decide +kernel
theorem d_ME_add_17 : decode b_ME_add 17 = .ok (.istore_n 2, 1) := by decide +kernel
theorem d_ME_add_18 : decode b_ME_add 18 = .ok (.iload_n 2, 1) := by decide +kernel
theorem d_ME_add_19 : decode b_ME_add 19 = .ok (.ifCond .le 35, 3) := by decide +kernel
theorem d_ME_add_22 : decode b_ME_add 22 = .ok (.aload_n 0, 1) := by decide +kernel
theorem d_ME_add_23 : decode b_ME_add 23 = .ok (.getfield 9, 3) := by decide +kernel
theorem d_ME_add_26 : decode b_ME_add 26 = .ok (.iload_n 2, 1) := by decide +kernel
theorem d_ME_add_27 : decode b_ME_add 27 = .ok (.iconst 1, 1) := by decide +kernel
theorem d_ME_add_28 : decode b_ME_add 28 = .ok (.isub, 1) := by decide +kernel
theorem d_ME_add_29 : decode b_ME_add 29 = .ok (.iaload, 1) := by decide +kernel
theorem d_ME_add_30 : decode b_ME_add 30 = .ok (.iload_n 1, 1) := by decide +kernel
theorem d_ME_add_31 : decode b_ME_add 31 = .ok (.if_icmp .ge 23, 3) := by decide +kernel
theorem d_ME_add_34 : decode b_ME_add 34 = .ok (.aload_n 0, 1) := by decide +kernel
theorem d_ME_add_35 : decode b_ME_add 35 = .ok (.getfield 9, 3) := by decide +kernel
theorem d_ME_add_38 : decode b_ME_add 38 = .ok (.iload_n 2, 1) := by decide +kernel
theorem d_ME_add_39 : decode b_ME_add 39 = .ok (.aload_n 0, 1) := by decide +kernel
theorem d_ME_add_40 : decode b_ME_add 40 = .ok (.getfield 9, 3) := by decide +kernel
theorem d_ME_add_43 : decode b_ME_add 43 = .ok (.iload_n 2, 1) := by decide +kernel
theorem d_ME_add_44 : decode b_ME_add 44 = .ok (.iconst 1, 1) := by decide +kernel
theorem d_ME_add_45 : decode b_ME_add 45 = .ok (.isub, 1) := by decide +kernel
theorem d_ME_add_46 : decode b_ME_add 46 = .ok (.iaload, 1) := by decide +kernel
theorem d_ME_add_47 : decode b_ME_add 47 = .ok (.iastore, 1) := by decide +kernel
theorem d_ME_add_48 : decode b_ME_add 48 = .ok (.iinc 2 (-1), 3) := by decide +kernel
theorem d_ME_add_51 : decode b_ME_add 51 = .ok (.goto (-33), 3) := by decide +kernel
theorem d_ME_add_54 : decode b_ME_add 54 = .ok (.aload_n 0, 1) := by decide +kernel
theorem d_ME_add_55 : decode b_ME_add 55 = .ok (.getfield 9, 3) := by decide +kernel
theorem d_ME_add_58 : decode b_ME_add 58 = .ok (.iload_n 2, 1) := by decide +kernel
theorem d_ME_add_59 : decode b_ME_add 59 = .ok (.iload_n 1, 1) := by decide +kernel
theorem d_ME_add_60 : decode b_ME_add 60 = .ok (.iastore, 1) := by decide +kernel
theorem d_ME_add_61 : decode b_ME_add 61 = .ok (.aload_n 0, 1) := by decide +kernel
theorem d_ME_add_62 : decode b_ME_add 62 = .ok (.dup, 1) := by decide +kernel
theorem d_ME_add_63 : decode b_ME_add 63 = .ok (.getfield 15, 3) := by decide +kernel
theorem d_ME_add_66 : decode b_ME_add 66 = .ok (.iconst 1, 1) := by decide +kernel
theorem d_ME_add_67 : decode b_ME_add 67 = .ok (.iadd, 1) := by decide +kernel
theorem d_ME_add_68 : decode b_ME_add 68 = .ok (.putfield 15, 3) := by decide +kernel
theorem d_ME_add_71 : decode b_ME_add 71 = .ok (.return_, 1) := by decide +kernel
theorem d_ME_least_0 : decode b_ME_least 0 = .ok (.aload_n 0, 1) := by decide +kernel
theorem d_ME_least_1 : decode b_ME_least 1 = .ok (.getfield 15, 3) := by decide +kernel
theorem d_ME_least_4 : decode b_ME_least 4 = .ok (.ifCond .le 17, 3) := by decide +kernel
theorem d_ME_least_7 : decode b_ME_least 7 = .ok (.aload_n 0, 1) := by decide +kernel
theorem d_ME_least_8 : decode b_ME_least 8 = .ok (.getfield 9, 3) := by decide +kernel
theorem d_ME_least_11 : decode b_ME_least 11 = .ok (.aload_n 0, 1) := by decide +kernel
theorem d_ME_least_12 : decode b_ME_least 12 = .ok (.getfield 15, 3) := by decide +kernel
theorem d_ME_least_15 : decode b_ME_least 15 = .ok (.iconst 1, 1) := by decide +kernel
theorem d_ME_least_16 : decode b_ME_least 16 = .ok (.isub, 1) := by decide +kernel
theorem d_ME_least_17 : decode b_ME_least 17 = .ok (.iaload, 1) := by decide +kernel
theorem d_ME_least_18 : decode b_ME_least 18 = .ok (.goto 4, 3) := by decide +kernel
theorem d_ME_least_21 : decode b_ME_least 21 = .ok (.iconst (-1), 1) := by decide +kernel
theorem d_ME_least_22 : decode b_ME_least 22 = .ok (.ireturn, 1) := by decide +kernel
theorem d_ME_howMany_0 : decode b_ME_howMany 0 = .ok (.aload_n 0, 1) := by decide +kernel
theorem d_ME_howMany_1 : decode b_ME_howMany 1 = .ok (.getfield 15, 3) := by decide +kernel
theorem d_ME_howMany_4 : decode b_ME_howMany 4 = .ok (.ireturn, 1) := by decide +kernel
theorem d_ME_takeLeast_0 : decode b_ME_takeLeast 0 = .ok (.aload_n 0, 1) := by decide +kernel
theorem d_ME_takeLeast_1 : decode b_ME_takeLeast 1 = .ok (.invokevirtual 22, 3) := by decide +kernel
theorem d_ME_takeLeast_4 : decode b_ME_takeLeast 4 = .ok (.istore_n 1, 1) := by decide +kernel
theorem d_ME_takeLeast_5 : decode b_ME_takeLeast 5 = .ok (.aload_n 0, 1) := by decide +kernel
theorem d_ME_takeLeast_6 : decode b_ME_takeLeast 6 = .ok (.getfield 15, 3) := by decide +kernel
theorem d_ME_takeLeast_9 : decode b_ME_takeLeast 9 = .ok (.ifCond .le 13, 3) := by decide +kernel
theorem d_ME_takeLeast_12 : decode b_ME_takeLeast 12 = .ok (.aload_n 0, 1) := by decide +kernel
theorem d_ME_takeLeast_13 : decode b_ME_takeLeast 13 = .ok (.dup, 1) := by decide +kernel
theorem d_ME_takeLeast_14 : decode b_ME_takeLeast 14 = .ok (.getfield 15, 3) := by decide +kernel
theorem d_ME_takeLeast_17 : decode b_ME_takeLeast 17 = .ok (.iconst 1, 1) := by decide +kernel
theorem d_ME_takeLeast_18 : decode b_ME_takeLeast 18 = .ok (.isub, 1) := by decide +kernel
theorem d_ME_takeLeast_19 : decode b_ME_takeLeast 19 = .ok (.putfield 15, 3) := by decide +kernel
theorem d_ME_takeLeast_22 : decode b_ME_takeLeast 22 = .ok (.iload_n 1, 1) := by decide +kernel
theorem d_ME_takeLeast_23 : decode b_ME_takeLeast 23 = .ok (.ireturn, 1) := by decide +kernel
theorem d_RU_init_0 : decode b_RU_init 0 = .ok (.aload_n 0, 1) := by decide +kernel
theorem d_RU_init_1 : decode b_RU_init 1 = .ok (.invokespecial 3, 3) := by decide +kernel
theorem d_RU_init_4 : decode b_RU_init 4 = .ok (.aload_n 0, 1) := by decide +kernel
theorem d_RU_init_5 : decode b_RU_init 5 = .ok (.bipush 9, 2) := by decide +kernel
theorem d_RU_init_7 : decode b_RU_init 7 = .ok (.newarray .int, 2) := by decide +kernel
theorem d_RU_init_9 : decode b_RU_init 9 = .ok (.putfield 9, 3) := by decide +kernel
theorem d_RU_init_12 : decode b_RU_init 12 = .ok (.aload_n 0, 1) := by decide +kernel
theorem d_RU_init_13 : decode b_RU_init 13 = .ok (.bipush 9, 2) := by decide +kernel
theorem d_RU_init_15 : decode b_RU_init 15 = .ok (.newarray .int, 2) := by decide +kernel
theorem d_RU_init_17 : decode b_RU_init 17 = .ok (.putfield 15, 3) := by decide +kernel
theorem d_RU_init_20 : decode b_RU_init 20 = .ok (.aload_n 0, 1) := by decide +kernel
theorem d_RU_init_21 : decode b_RU_init 21 = .ok (.bipush 9, 2) := by decide +kernel
theorem d_RU_init_23 : decode b_RU_init 23 = .ok (.newarray .int, 2) := by decide +kernel
theorem d_RU_init_25 : decode b_RU_init 25 = .ok (.putfield 18, 3) := by decide +kernel
theorem d_RU_init_28 : decode b_RU_init 28 = .ok (.aload_n 0, 1) := by decide +kernel
theorem d_RU_init_29 : decode b_RU_init 29 = .ok (.bipush 9, 2) := by decide +kernel
theorem d_RU_init_31 : decode b_RU_init 31 = .ok (.newarray .int, 2) := by decide +kernel
theorem d_RU_init_33 : decode b_RU_init 33 = .ok (.putfield 21, 3) := by decide +kernel
theorem d_RU_init_36 : decode b_RU_init 36 = .ok (.aload_n 0, 1) := by decide +kernel
theorem d_RU_init_37 : decode b_RU_init 37 = .ok (.bipush 9, 2) := by decide +kernel
theorem d_RU_init_39 : decode b_RU_init 39 = .ok (.newarray .int, 2) := by decide +kernel
theorem d_RU_init_41 : decode b_RU_init 41 = .ok (.putfield 24, 3) := by decide +kernel
theorem d_RU_init_44 : decode b_RU_init 44 = .ok (.aload_n 0, 1) := by decide +kernel
theorem d_RU_init_45 : decode b_RU_init 45 = .ok (.bipush 9, 2) := by decide +kernel
theorem d_RU_init_47 : decode b_RU_init 47 = .ok (.newarray .boolean, 2) := by decide +kernel
theorem d_RU_init_49 : decode b_RU_init 49 = .ok (.putfield 27, 3) := by decide +kernel
theorem d_RU_init_52 : decode b_RU_init 52 = .ok (.aload_n 0, 1) := by decide +kernel
theorem d_RU_init_53 : decode b_RU_init 53 = .ok (.aload_n 1, 1) := by decide +kernel
theorem d_RU_init_54 : decode b_RU_init 54 = .ok (.putfield 31, 3) := by decide +kernel
theorem d_RU_init_57 : decode b_RU_init 57 = .ok (.return_, 1) := by decide +kernel
theorem d_RU_clear_0 : decode b_RU_clear 0 = .ok (.aload_n 0, 1) := by decide +kernel
theorem d_RU_clear_1 : decode b_RU_clear 1 = .ok (.iconst 0, 1) := by decide +kernel
theorem d_RU_clear_2 : decode b_RU_clear 2 = .ok (.putfield 35, 3) := by decide +kernel
theorem d_RU_clear_5 : decode b_RU_clear 5 = .ok (.return_, 1) := by decide +kernel
theorem d_RU_has_0 : decode b_RU_has 0 = .ok (.iload_n 1, 1) := by decide +kernel
theorem d_RU_has_1 : decode b_RU_has 1 = .ok (.ifCond .lt 15, 3) := by decide +kernel
theorem d_RU_has_4 : decode b_RU_has 4 = .ok (.iload_n 1, 1) := by decide +kernel
theorem d_RU_has_5 : decode b_RU_has 5 = .ok (.aload_n 0, 1) := by decide +kernel
theorem d_RU_has_6 : decode b_RU_has 6 = .ok (.getfield 35, 3) := by decide +kernel
theorem d_RU_has_9 : decode b_RU_has 9 = .ok (.if_icmp .ge 7, 3) := by decide +kernel
theorem d_RU_has_12 : decode b_RU_has 12 = .ok (.iconst 1, 1) := by decide +kernel
theorem d_RU_has_13 : decode b_RU_has 13 = .ok (.goto 4, 3) := by decide +kernel
theorem d_RU_has_16 : decode b_RU_has 16 = .ok (.iconst 0, 1) := by decide +kernel
theorem d_RU_has_17 : decode b_RU_has 17 = .ok (.ireturn, 1) := by decide +kernel
theorem d_RU_add_0 : decode b_RU_add 0 = .ok (.aload_n 0, 1) := by decide +kernel
theorem d_RU_add_1 : decode b_RU_add 1 = .ok (.getfield 35, 3) := by decide +kernel
theorem d_RU_add_4 : decode b_RU_add 4 = .ok (.bipush 9, 2) := by decide +kernel
theorem d_RU_add_6 : decode b_RU_add 6 = .ok (.if_icmp .lt 4, 3) := by decide +kernel
theorem d_RU_add_9 : decode b_RU_add 9 = .ok (.return_, 1) := by decide +kernel
theorem d_RU_add_10 : decode b_RU_add 10 = .ok (.aload_n 0, 1) := by decide +kernel
theorem d_RU_add_11 : decode b_RU_add 11 = .ok (.getfield 9, 3) := by decide +kernel
theorem d_RU_add_14 : decode b_RU_add 14 = .ok (.aload_n 0, 1) := by decide +kernel
theorem d_RU_add_15 : decode b_RU_add 15 = .ok (.getfield 35, 3) := by decide +kernel
theorem d_RU_add_18 : decode b_RU_add 18 = .ok (.iload_n 1, 1) := by decide +kernel
theorem d_RU_add_19 : decode b_RU_add 19 = .ok (.iastore, 1) := by decide +kernel
theorem d_RU_add_20 : decode b_RU_add 20 = .ok (.aload_n 0, 1) := by decide +kernel
theorem d_RU_add_21 : decode b_RU_add 21 = .ok (.getfield 15, 3) := by decide +kernel
theorem d_RU_add_24 : decode b_RU_add 24 = .ok (.aload_n 0, 1) := by decide +kernel
theorem d_RU_add_25 : decode b_RU_add 25 = .ok (.getfield 35, 3) := by decide +kernel
theorem d_RU_add_28 : decode b_RU_add 28 = .ok (.iload_n 2, 1) := by decide +kernel
theorem d_RU_add_29 : decode b_RU_add 29 = .ok (.iastore, 1) := by decide +kernel
theorem d_RU_add_30 : decode b_RU_add 30 = .ok (.aload_n 0, 1) := by decide +kernel
theorem d_RU_add_31 : decode b_RU_add 31 = .ok (.getfield 18, 3) := by decide +kernel
theorem d_RU_add_34 : decode b_RU_add 34 = .ok (.aload_n 0, 1) := by decide +kernel
theorem d_RU_add_35 : decode b_RU_add 35 = .ok (.getfield 35, 3) := by decide +kernel
theorem d_RU_add_38 : decode b_RU_add 38 = .ok (.iload_n 3, 1) := by decide +kernel
theorem d_RU_add_39 : decode b_RU_add 39 = .ok (.iastore, 1) := by decide +kernel
theorem d_RU_add_40 : decode b_RU_add 40 = .ok (.aload_n 0, 1) := by decide +kernel
theorem d_RU_add_41 : decode b_RU_add 41 = .ok (.getfield 21, 3) := by decide +kernel
theorem d_RU_add_44 : decode b_RU_add 44 = .ok (.aload_n 0, 1) := by decide +kernel
theorem d_RU_add_45 : decode b_RU_add 45 = .ok (.getfield 35, 3) := by decide +kernel
theorem d_RU_add_48 : decode b_RU_add 48 = .ok (.iload 4, 2) := by decide +kernel
theorem d_RU_add_50 : decode b_RU_add 50 = .ok (.iastore, 1) := by decide +kernel
theorem d_RU_add_51 : decode b_RU_add 51 = .ok (.aload_n 0, 1) := by decide +kernel
theorem d_RU_add_52 : decode b_RU_add 52 = .ok (.getfield 24, 3) := by decide +kernel
theorem d_RU_add_55 : decode b_RU_add 55 = .ok (.aload_n 0, 1) := by decide +kernel
theorem d_RU_add_56 : decode b_RU_add 56 = .ok (.getfield 35, 3) := by decide +kernel
theorem d_RU_add_59 : decode b_RU_add 59 = .ok (.aload_n 0, 1) := by decide +kernel
theorem d_RU_add_60 : decode b_RU_add 60 = .ok (.getfield 31, 3) := by decide +kernel
theorem d_RU_add_63 : decode b_RU_add 63 = .ok (.iload_n 1, 1) := by decide +kernel
theorem d_RU_add_64 : decode b_RU_add 64 = .ok (.iconst 2, 1) := by decide +kernel
theorem d_RU_add_65 : decode b_RU_add 65 = .ok (.iload_n 2, 1) := by decide +kernel
theorem d_RU_add_66 : decode b_RU_add 66 = .ok (.iadd, 1) := by decide +kernel
theorem d_RU_add_67 : decode b_RU_add 67 = .ok (.invokevirtual 39, 3) := by decide +kernel
theorem d_RU_add_70 : decode b_RU_add 70 = .ok (.iastore, 1) := by decide +kernel
theorem d_RU_add_71 : decode b_RU_add 71 = .ok (.aload_n 0, 1) := by decide +kernel
theorem d_RU_add_72 : decode b_RU_add 72 = .ok (.dup, 1) := by decide +kernel
theorem d_RU_add_73 : decode b_RU_add 73 = .ok (.getfield 35, 3) := by decide +kernel
theorem d_RU_add_76 : decode b_RU_add 76 = .ok (.iconst 1, 1) := by decide +kernel
theorem d_RU_add_77 : decode b_RU_add 77 = .ok (.iadd, 1) := by decide +kernel
theorem d_RU_add_78 : decode b_RU_add 78 = .ok (.putfield 35, 3) := by decide +kernel
theorem d_RU_add_81 : decode b_RU_add 81 = .ok (.return_, 1) := by decide +kernel
theorem d_RU_dropEmpty_0 : decode b_RU_dropEmpty 0 = .ok (.iconst 0, 1) := by decide +kernel
theorem d_RU_dropEmpty_1 : decode b_RU_dropEmpty 1 = .ok (.istore_n 1, 1) := by decide +kernel
theorem d_RU_dropEmpty_2 : decode b_RU_dropEmpty 2 = .ok (.iconst 0, 1) := by decide +kernel
theorem d_RU_dropEmpty_3 : decode b_RU_dropEmpty 3 = .ok (.istore_n 2, 1) := by decide +kernel
theorem d_RU_dropEmpty_4 : decode b_RU_dropEmpty 4 = .ok (.iload_n 2, 1) := by decide +kernel
theorem d_RU_dropEmpty_5 : decode b_RU_dropEmpty 5 = .ok (.aload_n 0, 1) := by decide +kernel
theorem d_RU_dropEmpty_6 : decode b_RU_dropEmpty 6 = .ok (.getfield 35, 3) := by decide +kernel
theorem d_RU_dropEmpty_9 : decode b_RU_dropEmpty 9 = .ok (.if_icmp .ge 81, 3) := by decide +kernel
theorem d_RU_dropEmpty_12 : decode b_RU_dropEmpty 12 = .ok (.aload_n 0, 1) := by decide +kernel
theorem d_RU_dropEmpty_13 : decode b_RU_dropEmpty 13 = .ok (.getfield 18, 3) := by decide +kernel
theorem d_RU_dropEmpty_16 : decode b_RU_dropEmpty 16 = .ok (.iload_n 2, 1) := by decide +kernel
theorem d_RU_dropEmpty_17 : decode b_RU_dropEmpty 17 = .ok (.iaload, 1) := by decide +kernel
theorem d_RU_dropEmpty_18 : decode b_RU_dropEmpty 18 = .ok (.ifCond .le 66, 3) := by decide +kernel
theorem d_RU_dropEmpty_21 : decode b_RU_dropEmpty 21 = .ok (.aload_n 0, 1) := by decide +kernel
theorem d_RU_dropEmpty_22 : decode b_RU_dropEmpty 22 = .ok (.getfield 9, 3) := by decide +kernel
theorem d_RU_dropEmpty_25 : decode b_RU_dropEmpty 25 = .ok (.iload_n 1, 1) := by decide +kernel
theorem d_RU_dropEmpty_26 : decode b_RU_dropEmpty 26 = .ok (.aload_n 0, 1) := by decide +kernel
theorem d_RU_dropEmpty_27 : decode b_RU_dropEmpty 27 = .ok (.getfield 9, 3) := by decide +kernel
theorem d_RU_dropEmpty_30 : decode b_RU_dropEmpty 30 = .ok (.iload_n 2, 1) := by decide +kernel
theorem d_RU_dropEmpty_31 : decode b_RU_dropEmpty 31 = .ok (.iaload, 1) := by decide +kernel
theorem d_RU_dropEmpty_32 : decode b_RU_dropEmpty 32 = .ok (.iastore, 1) := by decide +kernel
theorem d_RU_dropEmpty_33 : decode b_RU_dropEmpty 33 = .ok (.aload_n 0, 1) := by decide +kernel
theorem d_RU_dropEmpty_34 : decode b_RU_dropEmpty 34 = .ok (.getfield 15, 3) := by decide +kernel
theorem d_RU_dropEmpty_37 : decode b_RU_dropEmpty 37 = .ok (.iload_n 1, 1) := by decide +kernel
theorem d_RU_dropEmpty_38 : decode b_RU_dropEmpty 38 = .ok (.aload_n 0, 1) := by decide +kernel
theorem d_RU_dropEmpty_39 : decode b_RU_dropEmpty 39 = .ok (.getfield 15, 3) := by decide +kernel
theorem d_RU_dropEmpty_42 : decode b_RU_dropEmpty 42 = .ok (.iload_n 2, 1) := by decide +kernel
theorem d_RU_dropEmpty_43 : decode b_RU_dropEmpty 43 = .ok (.iaload, 1) := by decide +kernel
theorem d_RU_dropEmpty_44 : decode b_RU_dropEmpty 44 = .ok (.iastore, 1) := by decide +kernel
theorem d_RU_dropEmpty_45 : decode b_RU_dropEmpty 45 = .ok (.aload_n 0, 1) := by decide +kernel
theorem d_RU_dropEmpty_46 : decode b_RU_dropEmpty 46 = .ok (.getfield 18, 3) := by decide +kernel
theorem d_RU_dropEmpty_49 : decode b_RU_dropEmpty 49 = .ok (.iload_n 1, 1) := by decide +kernel
theorem d_RU_dropEmpty_50 : decode b_RU_dropEmpty 50 = .ok (.aload_n 0, 1) := by decide +kernel
theorem d_RU_dropEmpty_51 : decode b_RU_dropEmpty 51 = .ok (.getfield 18, 3) := by decide +kernel
theorem d_RU_dropEmpty_54 : decode b_RU_dropEmpty 54 = .ok (.iload_n 2, 1) := by decide +kernel
theorem d_RU_dropEmpty_55 : decode b_RU_dropEmpty 55 = .ok (.iaload, 1) := by decide +kernel
theorem d_RU_dropEmpty_56 : decode b_RU_dropEmpty 56 = .ok (.iastore, 1) := by decide +kernel
theorem d_RU_dropEmpty_57 : decode b_RU_dropEmpty 57 = .ok (.aload_n 0, 1) := by decide +kernel
theorem d_RU_dropEmpty_58 : decode b_RU_dropEmpty 58 = .ok (.getfield 21, 3) := by decide +kernel
theorem d_RU_dropEmpty_61 : decode b_RU_dropEmpty 61 = .ok (.iload_n 1, 1) := by decide +kernel
theorem d_RU_dropEmpty_62 : decode b_RU_dropEmpty 62 = .ok (.aload_n 0, 1) := by decide +kernel
theorem d_RU_dropEmpty_63 : decode b_RU_dropEmpty 63 = .ok (.getfield 21, 3) := by decide +kernel
theorem d_RU_dropEmpty_66 : decode b_RU_dropEmpty 66 = .ok (.iload_n 2, 1) := by decide +kernel
theorem d_RU_dropEmpty_67 : decode b_RU_dropEmpty 67 = .ok (.iaload, 1) := by decide +kernel
theorem d_RU_dropEmpty_68 : decode b_RU_dropEmpty 68 = .ok (.iastore, 1) := by decide +kernel
theorem d_RU_dropEmpty_69 : decode b_RU_dropEmpty 69 = .ok (.aload_n 0, 1) := by decide +kernel
theorem d_RU_dropEmpty_70 : decode b_RU_dropEmpty 70 = .ok (.getfield 24, 3) := by decide +kernel
theorem d_RU_dropEmpty_73 : decode b_RU_dropEmpty 73 = .ok (.iload_n 1, 1) := by decide +kernel
theorem d_RU_dropEmpty_74 : decode b_RU_dropEmpty 74 = .ok (.aload_n 0, 1) := by decide +kernel
theorem d_RU_dropEmpty_75 : decode b_RU_dropEmpty 75 = .ok (.getfield 24, 3) := by decide +kernel
theorem d_RU_dropEmpty_78 : decode b_RU_dropEmpty 78 = .ok (.iload_n 2, 1) := by decide +kernel
theorem d_RU_dropEmpty_79 : decode b_RU_dropEmpty 79 = .ok (.iaload, 1) := by decide +kernel
theorem d_RU_dropEmpty_80 : decode b_RU_dropEmpty 80 = .ok (.iastore, 1) := by decide +kernel
theorem d_RU_dropEmpty_81 : decode b_RU_dropEmpty 81 = .ok (.iinc 1 1, 3) := by decide +kernel
theorem d_RU_dropEmpty_84 : decode b_RU_dropEmpty 84 = .ok (.iinc 2 1, 3) := by decide +kernel
theorem d_RU_dropEmpty_87 : decode b_RU_dropEmpty 87 = .ok (.goto (-83), 3) := by decide +kernel
theorem d_RU_dropEmpty_90 : decode b_RU_dropEmpty 90 = .ok (.aload_n 0, 1) := by decide +kernel
theorem d_RU_dropEmpty_91 : decode b_RU_dropEmpty 91 = .ok (.iload_n 1, 1) := by decide +kernel
theorem d_RU_dropEmpty_92 : decode b_RU_dropEmpty 92 = .ok (.putfield 35, 3) := by decide +kernel
theorem d_RU_dropEmpty_95 : decode b_RU_dropEmpty 95 = .ok (.return_, 1) := by decide +kernel
theorem d_RU_headOf_0 : decode b_RU_headOf 0 = .ok (.aload_n 0, 1) := by decide +kernel
theorem d_RU_headOf_1 : decode b_RU_headOf 1 = .ok (.iload_n 1, 1) := by decide +kernel
theorem d_RU_headOf_2 : decode b_RU_headOf 2 = .ok (.invokevirtual 45, 3) := by decide +kernel
theorem d_RU_headOf_5 : decode b_RU_headOf 5 = .ok (.ifCond .eq 12, 3) := by decide +kernel
theorem d_RU_headOf_8 : decode b_RU_headOf 8 = .ok (.aload_n 0, 1) := by decide +kernel
theorem d_RU_headOf_9 : decode b_RU_headOf 9 = .ok (.getfield 24, 3) := by decide +kernel
theorem d_RU_headOf_12 : decode b_RU_headOf 12 = .ok (.iload_n 1, 1) := by decide +kernel
theorem d_RU_headOf_13 : decode b_RU_headOf 13 = .ok (.iaload, 1) := by decide +kernel
theorem d_RU_headOf_14 : decode b_RU_headOf 14 = .ok (.goto 4, 3) := by decide +kernel
theorem d_RU_headOf_17 : decode b_RU_headOf 17 = .ok (.iconst (-1), 1) := by decide +kernel
theorem d_RU_headOf_18 : decode b_RU_headOf 18 = .ok (.ireturn, 1) := by decide +kernel
theorem d_RU_leastAt_0 : decode b_RU_leastAt 0 = .ok (.iconst (-1), 1) := by decide +kernel
theorem d_RU_leastAt_1 : decode b_RU_leastAt 1 = .ok (.istore_n 2, 1) := by decide +kernel
theorem d_RU_leastAt_2 : decode b_RU_leastAt 2 = .ok (.iconst 0, 1) := by decide +kernel
theorem d_RU_leastAt_3 : decode b_RU_leastAt 3 = .ok (.istore_n 3, 1) := by decide +kernel
theorem d_RU_leastAt_4 : decode b_RU_leastAt 4 = .ok (.iload_n 3, 1) := by decide +kernel
theorem d_RU_leastAt_5 : decode b_RU_leastAt 5 = .ok (.aload_n 0, 1) := by decide +kernel
theorem d_RU_leastAt_6 : decode b_RU_leastAt 6 = .ok (.getfield 35, 3) := by decide +kernel
theorem d_RU_leastAt_9 : decode b_RU_leastAt 9 = .ok (.if_icmp .ge 64, 3) := by decide +kernel
theorem d_RU_leastAt_12 : decode b_RU_leastAt 12 = .ok (.aload_n 0, 1) := by decide +kernel
theorem d_RU_leastAt_13 : decode b_RU_leastAt 13 = .ok (.getfield 18, 3) := by decide +kernel
theorem d_RU_leastAt_16 : decode b_RU_leastAt 16 = .ok (.iload_n 3, 1) := by decide +kernel
theorem d_RU_leastAt_17 : decode b_RU_leastAt 17 = .ok (.iaload, 1) := by decide +kernel
theorem d_RU_leastAt_18 : decode b_RU_leastAt 18 = .ok (.ifCond .le 20, 3) := by decide +kernel
theorem d_RU_leastAt_21 : decode b_RU_leastAt 21 = .ok (.aload_n 0, 1) := by decide +kernel
theorem d_RU_leastAt_22 : decode b_RU_leastAt 22 = .ok (.getfield 27, 3) := by decide +kernel
theorem d_RU_leastAt_25 : decode b_RU_leastAt 25 = .ok (.iload_n 3, 1) := by decide +kernel
theorem d_RU_leastAt_26 : decode b_RU_leastAt 26 = .ok (.baload, 1) := by decide +kernel
theorem d_RU_leastAt_27 : decode b_RU_leastAt 27 = .ok (.ifCond .ne 7, 3) := by decide +kernel
theorem d_RU_leastAt_30 : decode b_RU_leastAt 30 = .ok (.iload_n 1, 1) := by decide +kernel
theorem d_RU_leastAt_31 : decode b_RU_leastAt 31 = .ok (.ifCond .ne 7, 3) := by decide +kernel
theorem d_RU_leastAt_34 : decode b_RU_leastAt 34 = .ok (.iconst 1, 1) := by decide +kernel
theorem d_RU_leastAt_35 : decode b_RU_leastAt 35 = .ok (.goto 4, 3) := by decide +kernel
theorem d_RU_leastAt_38 : decode b_RU_leastAt 38 = .ok (.iconst 0, 1) := by decide +kernel
theorem d_RU_leastAt_39 : decode b_RU_leastAt 39 = .ok (.istore 4, 2) := by decide +kernel
theorem d_RU_leastAt_41 : decode b_RU_leastAt 41 = .ok (.iload 4, 2) := by decide +kernel
theorem d_RU_leastAt_43 : decode b_RU_leastAt 43 = .ok (.ifCond .eq 24, 3) := by decide +kernel
theorem d_RU_leastAt_46 : decode b_RU_leastAt 46 = .ok (.iload_n 2, 1) := by decide +kernel
theorem d_RU_leastAt_47 : decode b_RU_leastAt 47 = .ok (.ifCond .lt 18, 3) := by decide +kernel
theorem d_RU_leastAt_50 : decode b_RU_leastAt 50 = .ok (.aload_n 0, 1) := by decide +kernel
theorem d_RU_leastAt_51 : decode b_RU_leastAt 51 = .ok (.getfield 24, 3) := by decide +kernel
theorem d_RU_leastAt_54 : decode b_RU_leastAt 54 = .ok (.iload_n 3, 1) := by decide +kernel
theorem d_RU_leastAt_55 : decode b_RU_leastAt 55 = .ok (.iaload, 1) := by decide +kernel
theorem d_RU_leastAt_56 : decode b_RU_leastAt 56 = .ok (.aload_n 0, 1) := by decide +kernel
theorem d_RU_leastAt_57 : decode b_RU_leastAt 57 = .ok (.getfield 24, 3) := by decide +kernel
theorem d_RU_leastAt_60 : decode b_RU_leastAt 60 = .ok (.iload_n 2, 1) := by decide +kernel
theorem d_RU_leastAt_61 : decode b_RU_leastAt 61 = .ok (.iaload, 1) := by decide +kernel
theorem d_RU_leastAt_62 : decode b_RU_leastAt 62 = .ok (.if_icmp .ge 5, 3) := by decide +kernel
theorem d_RU_leastAt_65 : decode b_RU_leastAt 65 = .ok (.iload_n 3, 1) := by decide +kernel
theorem d_RU_leastAt_66 : decode b_RU_leastAt 66 = .ok (.istore_n 2, 1) := by decide +kernel
theorem d_RU_leastAt_67 : decode b_RU_leastAt 67 = .ok (.iinc 3 1, 3) := by decide +kernel
theorem d_RU_leastAt_70 : decode b_RU_leastAt 70 = .ok (.goto (-66), 3) := by decide +kernel
theorem d_RU_leastAt_73 : decode b_RU_leastAt 73 = .ok (.iload_n 2, 1) := by decide +kernel
theorem d_RU_leastAt_74 : decode b_RU_leastAt 74 = .ok (.ireturn, 1) := by decide +kernel
theorem d_RU_takeFrom_0 : decode b_RU_takeFrom 0 = .ok (.aload_n 0, 1) := by decide +kernel
theorem d_RU_takeFrom_1 : decode b_RU_takeFrom 1 = .ok (.iload_n 1, 1) := by decide +kernel
theorem d_RU_takeFrom_2 : decode b_RU_takeFrom 2 = .ok (.invokevirtual 45, 3) := by decide +kernel
theorem d_RU_takeFrom_5 : decode b_RU_takeFrom 5 = .ok (.ifCond .ne 5, 3) := by decide +kernel
theorem d_RU_takeFrom_8 : decode b_RU_takeFrom 8 = .ok (.iconst (-1), 1) := by decide +kernel
theorem d_RU_takeFrom_9 : decode b_RU_takeFrom 9 = .ok (.ireturn, 1) := by decide +kernel
theorem d_RU_takeFrom_10 : decode b_RU_takeFrom 10 = .ok (.aload_n 0, 1) := by decide +kernel
theorem d_RU_takeFrom_11 : decode b_RU_takeFrom 11 = .ok (.getfield 24, 3) := by decide +kernel
theorem d_RU_takeFrom_14 : decode b_RU_takeFrom 14 = .ok (.iload_n 1, 1) := by decide +kernel
theorem d_RU_takeFrom_15 : decode b_RU_takeFrom 15 = .ok (.iaload, 1) := by decide +kernel
end
section
theorem d_RU_takeFrom_16 : decode b_RU_takeFrom 16 = .ok (.istore_n 2, 1) := by decide +kernel
theorem d_RU_takeFrom_17 : decode b_RU_takeFrom 17 = .ok (.aload_n 0, 1) := by decide +kernel
theorem d_RU_takeFrom_18 : decode b_RU_takeFrom 18 = .ok (.getfield 15, 3) := by decide +kernel
theorem d_RU_takeFrom_21 : decode b_RU_takeFrom 21 = .ok (.iload_n 1, 1) := by decide +kernel
theorem d_RU_takeFrom_22 : decode b_RU_takeFrom 22 = .ok (.dup2, 1) := by decide +kernel
theorem d_RU_takeFrom_23 : decode b_RU_takeFrom 23 = .ok (.iaload, 1) := by decide +kernel
theorem d_RU_takeFrom_24 : decode b_RU_takeFrom 24 = .ok (.iconst 1, 1) := by decide +kernel
theorem d_RU_takeFrom_25 : decode b_RU_takeFrom 25 = .ok (.iadd, 1) := by decide +kernel
theorem d_RU_takeFrom_26 : decode b_RU_takeFrom 26 = .ok (.iastore, 1) := by decide +kernel
theorem d_RU_takeFrom_27 : decode b_RU_takeFrom 27 = .ok (.aload_n 0, 1) := by decide +kernel
theorem d_RU_takeFrom_28 : decode b_RU_takeFrom 28 = .ok (.getfield 18, 3) := by decide +kernel
theorem d_RU_takeFrom_31 : decode b_RU_takeFrom 31 = .ok (.iload_n 1, 1) := by decide +kernel
theorem d_RU_takeFrom_32 : decode b_RU_takeFrom 32 = .ok (.dup2, 1) := by decide +kernel
theorem d_RU_takeFrom_33 : decode b_RU_takeFrom 33 = .ok (.iaload, 1) := by decide +kernel
theorem d_RU_takeFrom_34 : decode b_RU_takeFrom 34 = .ok (.iconst 1, 1) := by decide +kernel
theorem d_RU_takeFrom_35 : decode b_RU_takeFrom 35 = .ok (.isub, 1) := by decide +kernel
theorem d_RU_takeFrom_36 : decode b_RU_takeFrom 36 = .ok (.iastore, 1) := by decide +kernel
theorem d_RU_takeFrom_37 : decode b_RU_takeFrom 37 = .ok (.aload_n 0, 1) := by decide +kernel
theorem d_RU_takeFrom_38 : decode b_RU_takeFrom 38 = .ok (.getfield 18, 3) := by decide +kernel
theorem d_RU_takeFrom_41 : decode b_RU_takeFrom 41 = .ok (.iload_n 1, 1) := by decide +kernel
theorem d_RU_takeFrom_42 : decode b_RU_takeFrom 42 = .ok (.iaload, 1) := by decide +kernel
theorem d_RU_takeFrom_43 : decode b_RU_takeFrom 43 = .ok (.ifCond .le 46, 3) := by decide +kernel
theorem d_RU_takeFrom_46 : decode b_RU_takeFrom 46 = .ok (.aload_n 0, 1) := by decide +kernel
theorem d_RU_takeFrom_47 : decode b_RU_takeFrom 47 = .ok (.getfield 15, 3) := by decide +kernel
theorem d_RU_takeFrom_50 : decode b_RU_takeFrom 50 = .ok (.iload_n 1, 1) := by decide +kernel
theorem d_RU_takeFrom_51 : decode b_RU_takeFrom 51 = .ok (.iaload, 1) := by decide +kernel
theorem d_RU_takeFrom_52 : decode b_RU_takeFrom 52 = .ok (.aload_n 0, 1) := by decide +kernel
theorem d_RU_takeFrom_53 : decode b_RU_takeFrom 53 = .ok (.getfield 31, 3) := by decide +kernel
theorem d_RU_takeFrom_56 : decode b_RU_takeFrom 56 = .ok (.invokevirtual 49, 3) := by decide +kernel
theorem d_RU_takeFrom_59 : decode b_RU_takeFrom 59 = .ok (.if_icmp .lt 30, 3) := by decide +kernel
theorem d_RU_takeFrom_62 : decode b_RU_takeFrom 62 = .ok (.aload_n 0, 1) := by decide +kernel
theorem d_RU_takeFrom_63 : decode b_RU_takeFrom 63 = .ok (.getfield 9, 3) := by decide +kernel
theorem d_RU_takeFrom_66 : decode b_RU_takeFrom 66 = .ok (.iload_n 1, 1) := by decide +kernel
theorem d_RU_takeFrom_67 : decode b_RU_takeFrom 67 = .ok (.aload_n 0, 1) := by decide +kernel
theorem d_RU_takeFrom_68 : decode b_RU_takeFrom 68 = .ok (.getfield 31, 3) := by decide +kernel
theorem d_RU_takeFrom_71 : decode b_RU_takeFrom 71 = .ok (.aload_n 0, 1) := by decide +kernel
theorem d_RU_takeFrom_72 : decode b_RU_takeFrom 72 = .ok (.getfield 9, 3) := by decide +kernel
theorem d_RU_takeFrom_75 : decode b_RU_takeFrom 75 = .ok (.iload_n 1, 1) := by decide +kernel
theorem d_RU_takeFrom_76 : decode b_RU_takeFrom 76 = .ok (.iaload, 1) := by decide +kernel
theorem d_RU_takeFrom_77 : decode b_RU_takeFrom 77 = .ok (.iconst 1, 1) := by decide +kernel
theorem d_RU_takeFrom_78 : decode b_RU_takeFrom 78 = .ok (.invokevirtual 39, 3) := by decide +kernel
theorem d_RU_takeFrom_81 : decode b_RU_takeFrom 81 = .ok (.iastore, 1) := by decide +kernel
theorem d_RU_takeFrom_82 : decode b_RU_takeFrom 82 = .ok (.aload_n 0, 1) := by decide +kernel
theorem d_RU_takeFrom_83 : decode b_RU_takeFrom 83 = .ok (.getfield 15, 3) := by decide +kernel
theorem d_RU_takeFrom_86 : decode b_RU_takeFrom 86 = .ok (.iload_n 1, 1) := by decide +kernel
theorem d_RU_takeFrom_87 : decode b_RU_takeFrom 87 = .ok (.iconst 0, 1) := by decide +kernel
theorem d_RU_takeFrom_88 : decode b_RU_takeFrom 88 = .ok (.iastore, 1) := by decide +kernel
theorem d_RU_takeFrom_89 : decode b_RU_takeFrom 89 = .ok (.aload_n 0, 1) := by decide +kernel
theorem d_RU_takeFrom_90 : decode b_RU_takeFrom 90 = .ok (.getfield 24, 3) := by decide +kernel
theorem d_RU_takeFrom_93 : decode b_RU_takeFrom 93 = .ok (.iload_n 1, 1) := by decide +kernel
theorem d_RU_takeFrom_94 : decode b_RU_takeFrom 94 = .ok (.aload_n 0, 1) := by decide +kernel
theorem d_RU_takeFrom_95 : decode b_RU_takeFrom 95 = .ok (.getfield 31, 3) := by decide +kernel
theorem d_RU_takeFrom_98 : decode b_RU_takeFrom 98 = .ok (.aload_n 0, 1) := by decide +kernel
theorem d_RU_takeFrom_99 : decode b_RU_takeFrom 99 = .ok (.getfield 9, 3) := by decide +kernel
theorem d_RU_takeFrom_102 : decode b_RU_takeFrom 102 = .ok (.iload_n 1, 1) := by decide +kernel
theorem d_RU_takeFrom_103 : decode b_RU_takeFrom 103 = .ok (.iaload, 1) := by decide +kernel
theorem d_RU_takeFrom_104 : decode b_RU_takeFrom 104 = .ok (.iconst 2, 1) := by decide +kernel
theorem d_RU_takeFrom_105 : decode b_RU_takeFrom 105 = .ok (.aload_n 0, 1) := by decide +kernel
theorem d_RU_takeFrom_106 : decode b_RU_takeFrom 106 = .ok (.getfield 15, 3) := by decide +kernel
theorem d_RU_takeFrom_109 : decode b_RU_takeFrom 109 = .ok (.iload_n 1, 1) := by decide +kernel
theorem d_RU_takeFrom_110 : decode b_RU_takeFrom 110 = .ok (.iaload, 1) := by decide +kernel
theorem d_RU_takeFrom_111 : decode b_RU_takeFrom 111 = .ok (.iadd, 1) := by decide +kernel
theorem d_RU_takeFrom_112 : decode b_RU_takeFrom 112 = .ok (.invokevirtual 39, 3) := by decide +kernel
theorem d_RU_takeFrom_115 : decode b_RU_takeFrom 115 = .ok (.iastore, 1) := by decide +kernel
theorem d_RU_takeFrom_116 : decode b_RU_takeFrom 116 = .ok (.iload_n 2, 1) := by decide +kernel
theorem d_RU_takeFrom_117 : decode b_RU_takeFrom 117 = .ok (.ireturn, 1) := by decide +kernel
theorem d_RU_keysInAll_0 : decode b_RU_keysInAll 0 = .ok (.iconst 0, 1) := by decide +kernel
theorem d_RU_keysInAll_1 : decode b_RU_keysInAll 1 = .ok (.istore_n 1, 1) := by decide +kernel
theorem d_RU_keysInAll_2 : decode b_RU_keysInAll 2 = .ok (.iconst 0, 1) := by decide +kernel
theorem d_RU_keysInAll_3 : decode b_RU_keysInAll 3 = .ok (.istore_n 2, 1) := by decide +kernel
theorem d_RU_keysInAll_4 : decode b_RU_keysInAll 4 = .ok (.iload_n 2, 1) := by decide +kernel
theorem d_RU_keysInAll_5 : decode b_RU_keysInAll 5 = .ok (.aload_n 0, 1) := by decide +kernel
theorem d_RU_keysInAll_6 : decode b_RU_keysInAll 6 = .ok (.getfield 35, 3) := by decide +kernel
theorem d_RU_keysInAll_9 : decode b_RU_keysInAll 9 = .ok (.if_icmp .ge 18, 3) := by decide +kernel
theorem d_RU_keysInAll_12 : decode b_RU_keysInAll 12 = .ok (.iload_n 1, 1) := by decide +kernel
theorem d_RU_keysInAll_13 : decode b_RU_keysInAll 13 = .ok (.aload_n 0, 1) := by decide +kernel
theorem d_RU_keysInAll_14 : decode b_RU_keysInAll 14 = .ok (.getfield 18, 3) := by decide +kernel
theorem d_RU_keysInAll_17 : decode b_RU_keysInAll 17 = .ok (.iload_n 2, 1) := by decide +kernel
theorem d_RU_keysInAll_18 : decode b_RU_keysInAll 18 = .ok (.iaload, 1) := by decide +kernel
theorem d_RU_keysInAll_19 : decode b_RU_keysInAll 19 = .ok (.iadd, 1) := by decide +kernel
theorem d_RU_keysInAll_20 : decode b_RU_keysInAll 20 = .ok (.istore_n 1, 1) := by decide +kernel
theorem d_RU_keysInAll_21 : decode b_RU_keysInAll 21 = .ok (.iinc 2 1, 3) := by decide +kernel
theorem d_RU_keysInAll_24 : decode b_RU_keysInAll 24 = .ok (.goto (-20), 3) := by decide +kernel
theorem d_RU_keysInAll_27 : decode b_RU_keysInAll 27 = .ok (.iload_n 1, 1) := by decide +kernel
theorem d_RU_keysInAll_28 : decode b_RU_keysInAll 28 = .ok (.ireturn, 1) := by decide +kernel
theorem d_RU_markBlocks_0 : decode b_RU_markBlocks 0 = .ok (.iconst 0, 1) := by decide +kernel
theorem d_RU_markBlocks_1 : decode b_RU_markBlocks 1 = .ok (.istore_n 2, 1) := by decide +kernel
theorem d_RU_markBlocks_2 : decode b_RU_markBlocks 2 = .ok (.iload_n 2, 1) := by decide +kernel
theorem d_RU_markBlocks_3 : decode b_RU_markBlocks 3 = .ok (.aload_n 0, 1) := by decide +kernel
theorem d_RU_markBlocks_4 : decode b_RU_markBlocks 4 = .ok (.getfield 35, 3) := by decide +kernel
theorem d_RU_markBlocks_7 : decode b_RU_markBlocks 7 = .ok (.if_icmp .ge 53, 3) := by decide +kernel
theorem d_RU_markBlocks_10 : decode b_RU_markBlocks 10 = .ok (.aload_n 0, 1) := by decide +kernel
theorem d_RU_markBlocks_11 : decode b_RU_markBlocks 11 = .ok (.getfield 9, 3) := by decide +kernel
theorem d_RU_markBlocks_14 : decode b_RU_markBlocks 14 = .ok (.iload_n 2, 1) := by decide +kernel
theorem d_RU_markBlocks_15 : decode b_RU_markBlocks 15 = .ok (.iaload, 1) := by decide +kernel
theorem d_RU_markBlocks_16 : decode b_RU_markBlocks 16 = .ok (.istore_n 3, 1) := by decide +kernel
theorem d_RU_markBlocks_17 : decode b_RU_markBlocks 17 = .ok (.iconst 0, 1) := by decide +kernel
theorem d_RU_markBlocks_18 : decode b_RU_markBlocks 18 = .ok (.istore 4, 2) := by decide +kernel
theorem d_RU_markBlocks_20 : decode b_RU_markBlocks 20 = .ok (.iload 4, 2) := by decide +kernel
theorem d_RU_markBlocks_22 : decode b_RU_markBlocks 22 = .ok (.sipush 200, 3) := by decide +kernel
theorem d_RU_markBlocks_25 : decode b_RU_markBlocks 25 = .ok (.if_icmp .ge 29, 3) := by decide +kernel
theorem d_RU_markBlocks_28 : decode b_RU_markBlocks 28 = .ok (.iload_n 3, 1) := by decide +kernel
theorem d_RU_markBlocks_29 : decode b_RU_markBlocks 29 = .ok (.iconst 2, 1) := by decide +kernel
theorem d_RU_markBlocks_30 : decode b_RU_markBlocks 30 = .ok (.if_icmp .lt 24, 3) := by decide +kernel
theorem d_RU_markBlocks_33 : decode b_RU_markBlocks 33 = .ok (.aload_n 1, 1) := by decide +kernel
theorem d_RU_markBlocks_34 : decode b_RU_markBlocks 34 = .ok (.iload_n 3, 1) := by decide +kernel
theorem d_RU_markBlocks_35 : decode b_RU_markBlocks 35 = .ok (.invokevirtual 53, 3) := by decide +kernel
theorem d_RU_markBlocks_38 : decode b_RU_markBlocks 38 = .ok (.aload_n 0, 1) := by decide +kernel
theorem d_RU_markBlocks_39 : decode b_RU_markBlocks 39 = .ok (.getfield 31, 3) := by decide +kernel
theorem d_RU_markBlocks_42 : decode b_RU_markBlocks 42 = .ok (.iload_n 3, 1) := by decide +kernel
theorem d_RU_markBlocks_43 : decode b_RU_markBlocks 43 = .ok (.iconst 1, 1) := by decide +kernel
theorem d_RU_markBlocks_44 : decode b_RU_markBlocks 44 = .ok (.invokevirtual 39, 3) := by decide +kernel
theorem d_RU_markBlocks_47 : decode b_RU_markBlocks 47 = .ok (.istore_n 3, 1) := by decide +kernel
theorem d_RU_markBlocks_48 : decode b_RU_markBlocks 48 = .ok (.iinc 4 1, 3) := by decide +kernel
theorem d_RU_markBlocks_51 : decode b_RU_markBlocks 51 = .ok (.goto (-31), 3) := by decide +kernel
theorem d_RU_markBlocks_54 : decode b_RU_markBlocks 54 = .ok (.iinc 2 1, 3) := by decide +kernel
theorem d_RU_markBlocks_57 : decode b_RU_markBlocks 57 = .ok (.goto (-55), 3) := by decide +kernel
theorem d_RU_markBlocks_60 : decode b_RU_markBlocks 60 = .ok (.return_, 1) := by decide +kernel
theorem d_RU_greatestLevel_0 : decode b_RU_greatestLevel 0 = .ok (.aload_n 0, 1) := by decide +kernel
theorem d_RU_greatestLevel_1 : decode b_RU_greatestLevel 1 = .ok (.getfield 21, 3) := by decide +kernel
theorem d_RU_greatestLevel_4 : decode b_RU_greatestLevel 4 = .ok (.iconst 0, 1) := by decide +kernel
theorem d_RU_greatestLevel_5 : decode b_RU_greatestLevel 5 = .ok (.iaload, 1) := by decide +kernel
theorem d_RU_greatestLevel_6 : decode b_RU_greatestLevel 6 = .ok (.istore_n 1, 1) := by decide +kernel
theorem d_RU_greatestLevel_7 : decode b_RU_greatestLevel 7 = .ok (.iconst 1, 1) := by decide +kernel
theorem d_RU_greatestLevel_8 : decode b_RU_greatestLevel 8 = .ok (.istore_n 2, 1) := by decide +kernel
theorem d_RU_greatestLevel_9 : decode b_RU_greatestLevel 9 = .ok (.iload_n 2, 1) := by decide +kernel
theorem d_RU_greatestLevel_10 : decode b_RU_greatestLevel 10 = .ok (.aload_n 0, 1) := by decide +kernel
theorem d_RU_greatestLevel_11 : decode b_RU_greatestLevel 11 = .ok (.getfield 35, 3) := by decide +kernel
theorem d_RU_greatestLevel_14 : decode b_RU_greatestLevel 14 = .ok (.if_icmp .ge 20, 3) := by decide +kernel
theorem d_RU_greatestLevel_17 : decode b_RU_greatestLevel 17 = .ok (.iload_n 1, 1) := by decide +kernel
theorem d_RU_greatestLevel_18 : decode b_RU_greatestLevel 18 = .ok (.aload_n 0, 1) := by decide +kernel
theorem d_RU_greatestLevel_19 : decode b_RU_greatestLevel 19 = .ok (.getfield 21, 3) := by decide +kernel
theorem d_RU_greatestLevel_22 : decode b_RU_greatestLevel 22 = .ok (.iload_n 2, 1) := by decide +kernel
theorem d_RU_greatestLevel_23 : decode b_RU_greatestLevel 23 = .ok (.iaload, 1) := by decide +kernel
theorem d_RU_greatestLevel_24 : decode b_RU_greatestLevel 24 = .ok (.invokestatic 59, 3) := by decide +kernel
theorem d_RU_greatestLevel_27 : decode b_RU_greatestLevel 27 = .ok (.istore_n 1, 1) := by decide +kernel
theorem d_RU_greatestLevel_28 : decode b_RU_greatestLevel 28 = .ok (.iinc 2 1, 3) := by decide +kernel
theorem d_RU_greatestLevel_31 : decode b_RU_greatestLevel 31 = .ok (.goto (-22), 3) := by decide +kernel
theorem d_RU_greatestLevel_34 : decode b_RU_greatestLevel 34 = .ok (.iload_n 1, 1) := by decide +kernel
theorem d_RU_greatestLevel_35 : decode b_RU_greatestLevel 35 = .ok (.ireturn, 1) := by decide +kernel
theorem d_RU_crowdedAt_0 : decode b_RU_crowdedAt 0 = .ok (.iconst (-1), 1) := by decide +kernel
theorem d_RU_crowdedAt_1 : decode b_RU_crowdedAt 1 = .ok (.istore_n 2, 1) := by decide +kernel
theorem d_RU_crowdedAt_2 : decode b_RU_crowdedAt 2 = .ok (.iconst 0, 1) := by decide +kernel
theorem d_RU_crowdedAt_3 : decode b_RU_crowdedAt 3 = .ok (.istore_n 3, 1) := by decide +kernel
theorem d_RU_crowdedAt_4 : decode b_RU_crowdedAt 4 = .ok (.iload_n 3, 1) := by decide +kernel
theorem d_RU_crowdedAt_5 : decode b_RU_crowdedAt 5 = .ok (.aload_n 0, 1) := by decide +kernel
theorem d_RU_crowdedAt_6 : decode b_RU_crowdedAt 6 = .ok (.getfield 35, 3) := by decide +kernel
theorem d_RU_crowdedAt_9 : decode b_RU_crowdedAt 9 = .ok (.if_icmp .ge 39, 3) := by decide +kernel
theorem d_RU_crowdedAt_12 : decode b_RU_crowdedAt 12 = .ok (.aload_n 0, 1) := by decide +kernel
theorem d_RU_crowdedAt_13 : decode b_RU_crowdedAt 13 = .ok (.iload_n 3, 1) := by decide +kernel
theorem d_RU_crowdedAt_14 : decode b_RU_crowdedAt 14 = .ok (.invokevirtual 64, 3) := by decide +kernel
theorem d_RU_crowdedAt_17 : decode b_RU_crowdedAt 17 = .ok (.iload_n 1, 1) := by decide +kernel
theorem d_RU_crowdedAt_18 : decode b_RU_crowdedAt 18 = .ok (.if_icmp .lt 24, 3) := by decide +kernel
theorem d_RU_crowdedAt_21 : decode b_RU_crowdedAt 21 = .ok (.iload_n 2, 1) := by decide +kernel
theorem d_RU_crowdedAt_22 : decode b_RU_crowdedAt 22 = .ok (.ifCond .lt 18, 3) := by decide +kernel
theorem d_RU_crowdedAt_25 : decode b_RU_crowdedAt 25 = .ok (.aload_n 0, 1) := by decide +kernel
theorem d_RU_crowdedAt_26 : decode b_RU_crowdedAt 26 = .ok (.getfield 21, 3) := by decide +kernel
theorem d_RU_crowdedAt_29 : decode b_RU_crowdedAt 29 = .ok (.iload_n 3, 1) := by decide +kernel
theorem d_RU_crowdedAt_30 : decode b_RU_crowdedAt 30 = .ok (.iaload, 1) := by decide +kernel
theorem d_RU_crowdedAt_31 : decode b_RU_crowdedAt 31 = .ok (.aload_n 0, 1) := by decide +kernel
theorem d_RU_crowdedAt_32 : decode b_RU_crowdedAt 32 = .ok (.getfield 21, 3) := by decide +kernel
theorem d_RU_crowdedAt_35 : decode b_RU_crowdedAt 35 = .ok (.iload_n 2, 1) := by decide +kernel
theorem d_RU_crowdedAt_36 : decode b_RU_crowdedAt 36 = .ok (.iaload, 1) := by decide +kernel
theorem d_RU_crowdedAt_37 : decode b_RU_crowdedAt 37 = .ok (.if_icmp .ge 5, 3) := by decide +kernel
theorem d_RU_crowdedAt_40 : decode b_RU_crowdedAt 40 = .ok (.iload_n 3, 1) := by decide +kernel
theorem d_RU_crowdedAt_41 : decode b_RU_crowdedAt 41 = .ok (.istore_n 2, 1) := by decide +kernel
theorem d_RU_crowdedAt_42 : decode b_RU_crowdedAt 42 = .ok (.iinc 3 1, 3) := by decide +kernel
theorem d_RU_crowdedAt_45 : decode b_RU_crowdedAt 45 = .ok (.goto (-41), 3) := by decide +kernel
theorem d_RU_crowdedAt_48 : decode b_RU_crowdedAt 48 = .ok (.iload_n 2, 1) := by decide +kernel
theorem d_RU_crowdedAt_49 : decode b_RU_crowdedAt 49 = .ok (.ireturn, 1) := by decide +kernel
theorem d_RU_runsAtLevelOf_0 : decode b_RU_runsAtLevelOf 0 = .ok (.iconst 0, 1) := by decide +kernel
theorem d_RU_runsAtLevelOf_1 : decode b_RU_runsAtLevelOf 1 = .ok (.istore_n 2, 1) := by decide +kernel
theorem d_RU_runsAtLevelOf_2 : decode b_RU_runsAtLevelOf 2 = .ok (.iconst 0, 1) := by decide +kernel
theorem d_RU_runsAtLevelOf_3 : decode b_RU_runsAtLevelOf 3 = .ok (.istore_n 3, 1) := by decide +kernel
theorem d_RU_runsAtLevelOf_4 : decode b_RU_runsAtLevelOf 4 = .ok (.iload_n 3, 1) := by decide +kernel
theorem d_RU_runsAtLevelOf_5 : decode b_RU_runsAtLevelOf 5 = .ok (.aload_n 0, 1) := by decide +kernel
theorem d_RU_runsAtLevelOf_6 : decode b_RU_runsAtLevelOf 6 = .ok (.getfield 35, 3) := by decide +kernel
theorem d_RU_runsAtLevelOf_9 : decode b_RU_runsAtLevelOf 9 = .ok (.if_icmp .ge 27, 3) := by decide +kernel
theorem d_RU_runsAtLevelOf_12 : decode b_RU_runsAtLevelOf 12 = .ok (.aload_n 0, 1) := by decide +kernel
theorem d_RU_runsAtLevelOf_13 : decode b_RU_runsAtLevelOf 13 = .ok (.getfield 21, 3) := by decide +kernel
theorem d_RU_runsAtLevelOf_16 : decode b_RU_runsAtLevelOf 16 = .ok (.iload_n 3, 1) := by decide +kernel
theorem d_RU_runsAtLevelOf_17 : decode b_RU_runsAtLevelOf 17 = .ok (.iaload, 1) := by decide +kernel
theorem d_RU_runsAtLevelOf_18 : decode b_RU_runsAtLevelOf 18 = .ok (.aload_n 0, 1) := by decide +kernel
theorem d_RU_runsAtLevelOf_19 : decode b_RU_runsAtLevelOf 19 = .ok (.getfield 21, 3) := by decide +kernel
theorem d_RU_runsAtLevelOf_22 : decode b_RU_runsAtLevelOf 22 = .ok (.iload_n 1, 1) := by decide +kernel
theorem d_RU_runsAtLevelOf_23 : decode b_RU_runsAtLevelOf 23 = .ok (.iaload, 1) := by decide +kernel
theorem d_RU_runsAtLevelOf_24 : decode b_RU_runsAtLevelOf 24 = .ok (.if_icmp .ne 6, 3) := by decide +kernel
theorem d_RU_runsAtLevelOf_27 : decode b_RU_runsAtLevelOf 27 = .ok (.iinc 2 1, 3) := by decide +kernel
theorem d_RU_runsAtLevelOf_30 : decode b_RU_runsAtLevelOf 30 = .ok (.iinc 3 1, 3) := by decide +kernel
theorem d_RU_runsAtLevelOf_33 : decode b_RU_runsAtLevelOf 33 = .ok (.goto (-29), 3) := by decide +kernel
theorem d_RU_runsAtLevelOf_36 : decode b_RU_runsAtLevelOf 36 = .ok (.iload_n 2, 1) := by decide +kernel
theorem d_RU_runsAtLevelOf_37 : decode b_RU_runsAtLevelOf 37 = .ok (.ireturn, 1) := by decide +kernel
theorem d_RU_chooseAll_0 : decode b_RU_chooseAll 0 = .ok (.iconst 0, 1) := by decide +kernel
theorem d_RU_chooseAll_1 : decode b_RU_chooseAll 1 = .ok (.istore_n 1, 1) := by decide +kernel
theorem d_RU_chooseAll_2 : decode b_RU_chooseAll 2 = .ok (.iload_n 1, 1) := by decide +kernel
theorem d_RU_chooseAll_3 : decode b_RU_chooseAll 3 = .ok (.aload_n 0, 1) := by decide +kernel
theorem d_RU_chooseAll_4 : decode b_RU_chooseAll 4 = .ok (.getfield 35, 3) := by decide +kernel
theorem d_RU_chooseAll_7 : decode b_RU_chooseAll 7 = .ok (.if_icmp .ge 16, 3) := by decide +kernel
theorem d_RU_chooseAll_10 : decode b_RU_chooseAll 10 = .ok (.aload_n 0, 1) := by decide +kernel
theorem d_RU_chooseAll_11 : decode b_RU_chooseAll 11 = .ok (.getfield 27, 3) := by decide +kernel
theorem d_RU_chooseAll_14 : decode b_RU_chooseAll 14 = .ok (.iload_n 1, 1) := by decide +kernel
theorem d_RU_chooseAll_15 : decode b_RU_chooseAll 15 = .ok (.iconst 1, 1) := by decide +kernel
theorem d_RU_chooseAll_16 : decode b_RU_chooseAll 16 = .ok (.bastore, 1) := by decide +kernel
theorem d_RU_chooseAll_17 : decode b_RU_chooseAll 17 = .ok (.iinc 1 1, 3) := by decide +kernel
theorem d_RU_chooseAll_20 : decode b_RU_chooseAll 20 = .ok (.goto (-18), 3) := by decide +kernel
theorem d_RU_chooseAll_23 : decode b_RU_chooseAll 23 = .ok (.return_, 1) := by decide +kernel
theorem d_RU_chooseLevel_0 : decode b_RU_chooseLevel 0 = .ok (.iconst 0, 1) := by decide +kernel
theorem d_RU_chooseLevel_1 : decode b_RU_chooseLevel 1 = .ok (.istore_n 2, 1) := by decide +kernel
theorem d_RU_chooseLevel_2 : decode b_RU_chooseLevel 2 = .ok (.iload_n 2, 1) := by decide +kernel
theorem d_RU_chooseLevel_3 : decode b_RU_chooseLevel 3 = .ok (.aload_n 0, 1) := by decide +kernel
theorem d_RU_chooseLevel_4 : decode b_RU_chooseLevel 4 = .ok (.getfield 35, 3) := by decide +kernel
theorem d_RU_chooseLevel_7 : decode b_RU_chooseLevel 7 = .ok (.if_icmp .ge 30, 3) := by decide +kernel
theorem d_RU_chooseLevel_10 : decode b_RU_chooseLevel 10 = .ok (.aload_n 0, 1) := by decide +kernel
theorem d_RU_chooseLevel_11 : decode b_RU_chooseLevel 11 = .ok (.getfield 27, 3) := by decide +kernel
theorem d_RU_chooseLevel_14 : decode b_RU_chooseLevel 14 = .ok (.iload_n 2, 1) := by decide +kernel
theorem d_RU_chooseLevel_15 : decode b_RU_chooseLevel 15 = .ok (.aload_n 0, 1) := by decide +kernel
theorem d_RU_chooseLevel_16 : decode b_RU_chooseLevel 16 = .ok (.getfield 21, 3) := by decide +kernel
theorem d_RU_chooseLevel_19 : decode b_RU_chooseLevel 19 = .ok (.iload_n 2, 1) := by decide +kernel
theorem d_RU_chooseLevel_20 : decode b_RU_chooseLevel 20 = .ok (.iaload, 1) := by decide +kernel
theorem d_RU_chooseLevel_21 : decode b_RU_chooseLevel 21 = .ok (.iload_n 1, 1) := by decide +kernel
theorem d_RU_chooseLevel_22 : decode b_RU_chooseLevel 22 = .ok (.if_icmp .ne 7, 3) := by decide +kernel
theorem d_RU_chooseLevel_25 : decode b_RU_chooseLevel 25 = .ok (.iconst 1, 1) := by decide +kernel
theorem d_RU_chooseLevel_26 : decode b_RU_chooseLevel 26 = .ok (.goto 4, 3) := by decide +kernel
theorem d_RU_chooseLevel_29 : decode b_RU_chooseLevel 29 = .ok (.iconst 0, 1) := by decide +kernel
theorem d_RU_chooseLevel_30 : decode b_RU_chooseLevel 30 = .ok (.bastore, 1) := by decide +kernel
theorem d_RU_chooseLevel_31 : decode b_RU_chooseLevel 31 = .ok (.iinc 2 1, 3) := by decide +kernel
theorem d_RU_chooseLevel_34 : decode b_RU_chooseLevel 34 = .ok (.goto (-32), 3) := by decide +kernel
theorem d_RU_chooseLevel_37 : decode b_RU_chooseLevel 37 = .ok (.return_, 1) := by decide +kernel
theorem d_RU_howMany_0 : decode b_RU_howMany 0 = .ok (.iconst 0, 1) := by decide +kernel
theorem d_RU_howMany_1 : decode b_RU_howMany 1 = .ok (.istore_n 1, 1) := by decide +kernel
theorem d_RU_howMany_2 : decode b_RU_howMany 2 = .ok (.iconst 0, 1) := by decide +kernel
theorem d_RU_howMany_3 : decode b_RU_howMany 3 = .ok (.istore_n 2, 1) := by decide +kernel
theorem d_RU_howMany_4 : decode b_RU_howMany 4 = .ok (.iload_n 2, 1) := by decide +kernel
theorem d_RU_howMany_5 : decode b_RU_howMany 5 = .ok (.aload_n 0, 1) := by decide +kernel
theorem d_RU_howMany_6 : decode b_RU_howMany 6 = .ok (.getfield 35, 3) := by decide +kernel
theorem d_RU_howMany_9 : decode b_RU_howMany 9 = .ok (.if_icmp .ge 31, 3) := by decide +kernel
theorem d_RU_howMany_12 : decode b_RU_howMany 12 = .ok (.iload_n 1, 1) := by decide +kernel
theorem d_RU_howMany_13 : decode b_RU_howMany 13 = .ok (.aload_n 0, 1) := by decide +kernel
theorem d_RU_howMany_14 : decode b_RU_howMany 14 = .ok (.getfield 27, 3) := by decide +kernel
theorem d_RU_howMany_17 : decode b_RU_howMany 17 = .ok (.iload_n 2, 1) := by decide +kernel
theorem d_RU_howMany_18 : decode b_RU_howMany 18 = .ok (.baload, 1) := by decide +kernel
theorem d_RU_howMany_19 : decode b_RU_howMany 19 = .ok (.ifCond .eq 12, 3) := by decide +kernel
theorem d_RU_howMany_22 : decode b_RU_howMany 22 = .ok (.aload_n 0, 1) := by decide +kernel
theorem d_RU_howMany_23 : decode b_RU_howMany 23 = .ok (.getfield 18, 3) := by decide +kernel
theorem d_RU_howMany_26 : decode b_RU_howMany 26 = .ok (.iload_n 2, 1) := by decide +kernel
theorem d_RU_howMany_27 : decode b_RU_howMany 27 = .ok (.iaload, 1) := by decide +kernel
theorem d_RU_howMany_28 : decode b_RU_howMany 28 = .ok (.goto 4, 3) := by decide +kernel
theorem d_RU_howMany_31 : decode b_RU_howMany 31 = .ok (.iconst 0, 1) := by decide +kernel
theorem d_RU_howMany_32 : decode b_RU_howMany 32 = .ok (.iadd, 1) := by decide +kernel
theorem d_RU_howMany_33 : decode b_RU_howMany 33 = .ok (.istore_n 1, 1) := by decide +kernel
theorem d_RU_howMany_34 : decode b_RU_howMany 34 = .ok (.iinc 2 1, 3) := by decide +kernel
theorem d_RU_howMany_37 : decode b_RU_howMany 37 = .ok (.goto (-33), 3) := by decide +kernel
theorem d_RU_howMany_40 : decode b_RU_howMany 40 = .ok (.iload_n 1, 1) := by decide +kernel
theorem d_RU_howMany_41 : decode b_RU_howMany 41 = .ok (.ireturn, 1) := by decide +kernel
theorem d_RU_takeLeast_0 : decode b_RU_takeLeast 0 = .ok (.aload_n 0, 1) := by decide +kernel
theorem d_RU_takeLeast_1 : decode b_RU_takeLeast 1 = .ok (.aload_n 0, 1) := by decide +kernel
theorem d_RU_takeLeast_2 : decode b_RU_takeLeast 2 = .ok (.iconst 1, 1) := by decide +kernel
theorem d_RU_takeLeast_3 : decode b_RU_takeLeast 3 = .ok (.invokevirtual 68, 3) := by decide +kernel
theorem d_RU_takeLeast_6 : decode b_RU_takeLeast 6 = .ok (.invokevirtual 72, 3) := by decide +kernel
theorem d_RU_takeLeast_9 : decode b_RU_takeLeast 9 = .ok (.ireturn, 1) := by decide +kernel
theorem d_SB_init_0 : decode b_SB_init 0 = .ok (.aload_n 0, 1) := by decide +kernel
theorem d_SB_init_1 : decode b_SB_init 1 = .ok (.invokespecial 3, 3) := by decide +kernel
theorem d_SB_init_4 : decode b_SB_init 4 = .ok (.aload_n 0, 1) := by decide +kernel
theorem d_SB_init_5 : decode b_SB_init 5 = .ok (.new 9, 3) := by decide +kernel
theorem d_SB_init_8 : decode b_SB_init 8 = .ok (.dup, 1) := by decide +kernel
theorem d_SB_init_9 : decode b_SB_init 9 = .ok (.invokespecial 11, 3) := by decide +kernel
theorem d_SB_init_12 : decode b_SB_init 12 = .ok (.putfield 12, 3) := by decide +kernel
theorem d_SB_init_15 : decode b_SB_init 15 = .ok (.aload_n 0, 1) := by decide +kernel
theorem d_SB_init_16 : decode b_SB_init 16 = .ok (.aload_n 1, 1) := by decide +kernel
theorem d_SB_init_17 : decode b_SB_init 17 = .ok (.putfield 18, 3) := by decide +kernel
theorem d_SB_init_20 : decode b_SB_init 20 = .ok (.return_, 1) := by decide +kernel
theorem d_SB_store_0 : decode b_SB_store 0 = .ok (.aload_n 0, 1) := by decide +kernel
theorem d_SB_store_1 : decode b_SB_store 1 = .ok (.getfield 18, 3) := by decide +kernel
theorem d_SB_store_4 : decode b_SB_store 4 = .ok (.invokevirtual 22, 3) := by decide +kernel
theorem d_SB_store_7 : decode b_SB_store 7 = .ok (.aload_n 0, 1) := by decide +kernel
theorem d_SB_store_8 : decode b_SB_store 8 = .ok (.getfield 18, 3) := by decide +kernel
theorem d_SB_store_11 : decode b_SB_store 11 = .ok (.iconst 1, 1) := by decide +kernel
theorem d_SB_store_12 : decode b_SB_store 12 = .ok (.iload_n 1, 1) := by decide +kernel
theorem d_SB_store_13 : decode b_SB_store 13 = .ok (.invokevirtual 27, 3) := by decide +kernel
theorem d_SB_store_16 : decode b_SB_store 16 = .ok (.aload_n 0, 1) := by decide +kernel
theorem d_SB_store_17 : decode b_SB_store 17 = .ok (.getfield 18, 3) := by decide +kernel
theorem d_SB_store_20 : decode b_SB_store 20 = .ok (.iconst 2, 1) := by decide +kernel
theorem d_SB_store_21 : decode b_SB_store 21 = .ok (.aload_n 2, 1) := by decide +kernel
theorem d_SB_store_22 : decode b_SB_store 22 = .ok (.getfield 31, 3) := by decide +kernel
theorem d_SB_store_25 : decode b_SB_store 25 = .ok (.invokevirtual 27, 3) := by decide +kernel
theorem d_SB_store_28 : decode b_SB_store 28 = .ok (.iconst 0, 1) := by decide +kernel
theorem d_SB_store_29 : decode b_SB_store 29 = .ok (.istore_n 3, 1) := by decide +kernel
theorem d_SB_store_30 : decode b_SB_store 30 = .ok (.iload_n 3, 1) := by decide +kernel
theorem d_SB_store_31 : decode b_SB_store 31 = .ok (.aload_n 2, 1) := by decide +kernel
theorem d_SB_store_32 : decode b_SB_store 32 = .ok (.getfield 31, 3) := by decide +kernel
theorem d_SB_store_35 : decode b_SB_store 35 = .ok (.if_icmp .ge 84, 3) := by decide +kernel
theorem d_SB_store_38 : decode b_SB_store 38 = .ok (.iconst 3, 1) := by decide +kernel
theorem d_SB_store_39 : decode b_SB_store 39 = .ok (.iload_n 3, 1) := by decide +kernel
theorem d_SB_store_40 : decode b_SB_store 40 = .ok (.iconst 4, 1) := by decide +kernel
theorem d_SB_store_41 : decode b_SB_store 41 = .ok (.imul, 1) := by decide +kernel
theorem d_SB_store_42 : decode b_SB_store 42 = .ok (.iadd, 1) := by decide +kernel
theorem d_SB_store_43 : decode b_SB_store 43 = .ok (.istore 4, 2) := by decide +kernel
theorem d_SB_store_45 : decode b_SB_store 45 = .ok (.aload_n 0, 1) := by decide +kernel
theorem d_SB_store_46 : decode b_SB_store 46 = .ok (.getfield 18, 3) := by decide +kernel
theorem d_SB_store_49 : decode b_SB_store 49 = .ok (.iload 4, 2) := by decide +kernel
theorem d_SB_store_51 : decode b_SB_store 51 = .ok (.iconst 0, 1) := by decide +kernel
theorem d_SB_store_52 : decode b_SB_store 52 = .ok (.iadd, 1) := by decide +kernel
theorem d_SB_store_53 : decode b_SB_store 53 = .ok (.aload_n 2, 1) := by decide +kernel
theorem d_SB_store_54 : decode b_SB_store 54 = .ok (.getfield 37, 3) := by decide +kernel
theorem d_SB_store_57 : decode b_SB_store 57 = .ok (.iload_n 3, 1) := by decide +kernel
theorem d_SB_store_58 : decode b_SB_store 58 = .ok (.iaload, 1) := by decide +kernel
theorem d_SB_store_59 : decode b_SB_store 59 = .ok (.invokevirtual 27, 3) := by decide +kernel
theorem d_SB_store_62 : decode b_SB_store 62 = .ok (.aload_n 0, 1) := by decide +kernel
theorem d_SB_store_63 : decode b_SB_store 63 = .ok (.getfield 18, 3) := by decide +kernel
theorem d_SB_store_66 : decode b_SB_store 66 = .ok (.iload 4, 2) := by decide +kernel
theorem d_SB_store_68 : decode b_SB_store 68 = .ok (.iconst 1, 1) := by decide +kernel
theorem d_SB_store_69 : decode b_SB_store 69 = .ok (.iadd, 1) := by decide +kernel
theorem d_SB_store_70 : decode b_SB_store 70 = .ok (.aload_n 2, 1) := by decide +kernel
theorem d_SB_store_71 : decode b_SB_store 71 = .ok (.getfield 41, 3) := by decide +kernel
theorem d_SB_store_74 : decode b_SB_store 74 = .ok (.iload_n 3, 1) := by decide +kernel
theorem d_SB_store_75 : decode b_SB_store 75 = .ok (.iaload, 1) := by decide +kernel
theorem d_SB_store_76 : decode b_SB_store 76 = .ok (.invokevirtual 27, 3) := by decide +kernel
theorem d_SB_store_79 : decode b_SB_store 79 = .ok (.aload_n 0, 1) := by decide +kernel
theorem d_SB_store_80 : decode b_SB_store 80 = .ok (.getfield 18, 3) := by decide +kernel
theorem d_SB_store_83 : decode b_SB_store 83 = .ok (.iload 4, 2) := by decide +kernel
theorem d_SB_store_85 : decode b_SB_store 85 = .ok (.iconst 2, 1) := by decide +kernel
theorem d_SB_store_86 : decode b_SB_store 86 = .ok (.iadd, 1) := by decide +kernel
theorem d_SB_store_87 : decode b_SB_store 87 = .ok (.aload_n 2, 1) := by decide +kernel
theorem d_SB_store_88 : decode b_SB_store 88 = .ok (.getfield 44, 3) := by decide +kernel
theorem d_SB_store_91 : decode b_SB_store 91 = .ok (.iload_n 3, 1) := by decide +kernel
theorem d_SB_store_92 : decode b_SB_store 92 = .ok (.iaload, 1) := by decide +kernel
theorem d_SB_store_93 : decode b_SB_store 93 = .ok (.invokevirtual 27, 3) := by decide +kernel
theorem d_SB_store_96 : decode b_SB_store 96 = .ok (.aload_n 0, 1) := by decide +kernel
theorem d_SB_store_97 : decode b_SB_store 97 = .ok (.getfield 18, 3) := by decide +kernel
theorem d_SB_store_100 : decode b_SB_store 100 = .ok (.iload 4, 2) := by decide +kernel
theorem d_SB_store_102 : decode b_SB_store 102 = .ok (.iconst 3, 1) := by decide +kernel
theorem d_SB_store_103 : decode b_SB_store 103 = .ok (.iadd, 1) := by decide +kernel
theorem d_SB_store_104 : decode b_SB_store 104 = .ok (.aload_n 2, 1) := by decide +kernel
theorem d_SB_store_105 : decode b_SB_store 105 = .ok (.getfield 47, 3) := by decide +kernel
theorem d_SB_store_108 : decode b_SB_store 108 = .ok (.iload_n 3, 1) := by decide +kernel
theorem d_SB_store_109 : decode b_SB_store 109 = .ok (.iaload, 1) := by decide +kernel
theorem d_SB_store_110 : decode b_SB_store 110 = .ok (.invokevirtual 27, 3) := by decide +kernel
theorem d_SB_store_113 : decode b_SB_store 113 = .ok (.iinc 3 1, 3) := by decide +kernel
theorem d_SB_store_116 : decode b_SB_store 116 = .ok (.goto (-86), 3) := by decide +kernel
theorem d_SB_store_119 : decode b_SB_store 119 = .ok (.aload_n 0, 1) := by decide +kernel
theorem d_SB_store_120 : decode b_SB_store 120 = .ok (.getfield 18, 3) := by decide +kernel
theorem d_SB_store_123 : decode b_SB_store 123 = .ok (.iload_n 1, 1) := by decide +kernel
theorem d_SB_store_124 : decode b_SB_store 124 = .ok (.iconst 1, 1) := by decide +kernel
theorem d_SB_store_125 : decode b_SB_store 125 = .ok (.iand, 1) := by decide +kernel
theorem d_SB_store_126 : decode b_SB_store 126 = .ok (.invokevirtual 50, 3) := by decide +kernel
theorem d_SB_store_129 : decode b_SB_store 129 = .ok (.ireturn, 1) := by decide +kernel
theorem d_SB_load_0 : decode b_SB_load 0 = .ok (.aload_n 0, 1) := by decide +kernel
theorem d_SB_load_1 : decode b_SB_load 1 = .ok (.getfield 18, 3) := by decide +kernel
theorem d_SB_load_4 : decode b_SB_load 4 = .ok (.iload_n 1, 1) := by decide +kernel
theorem d_SB_load_5 : decode b_SB_load 5 = .ok (.iconst 2, 1) := by decide +kernel
theorem d_SB_load_6 : decode b_SB_load 6 = .ok (.invokevirtual 54, 3) := by decide +kernel
theorem d_SB_load_9 : decode b_SB_load 9 = .ok (.bipush 9, 2) := by decide +kernel
theorem d_SB_load_11 : decode b_SB_load 11 = .ok (.invokestatic 58, 3) := by decide +kernel
theorem d_SB_load_14 : decode b_SB_load 14 = .ok (.istore_n 3, 1) := by decide +kernel
theorem d_SB_load_15 : decode b_SB_load 15 = .ok (.iconst 0, 1) := by decide +kernel
theorem d_SB_load_16 : decode b_SB_load 16 = .ok (.istore 4, 2) := by decide +kernel
theorem d_SB_load_18 : decode b_SB_load 18 = .ok (.iload 4, 2) := by decide +kernel
theorem d_SB_load_20 : decode b_SB_load 20 = .ok (.iload_n 3, 1) := by decide +kernel
theorem d_SB_load_21 : decode b_SB_load 21 = .ok (.if_icmp .ge 69, 3) := by decide +kernel
theorem d_SB_load_24 : decode b_SB_load 24 = .ok (.iconst 3, 1) := by decide +kernel
theorem d_SB_load_25 : decode b_SB_load 25 = .ok (.iload 4, 2) := by decide +kernel
theorem d_SB_load_27 : decode b_SB_load 27 = .ok (.iconst 4, 1) := by decide +kernel
theorem d_SB_load_28 : decode b_SB_load 28 = .ok (.imul, 1) := by decide +kernel
theorem d_SB_load_29 : decode b_SB_load 29 = .ok (.iadd, 1) := by decide +kernel
theorem d_SB_load_30 : decode b_SB_load 30 = .ok (.istore 5, 2) := by decide +kernel
theorem d_SB_load_32 : decode b_SB_load 32 = .ok (.aload_n 2, 1) := by decide +kernel
theorem d_SB_load_33 : decode b_SB_load 33 = .ok (.aload_n 0, 1) := by decide +kernel
theorem d_SB_load_34 : decode b_SB_load 34 = .ok (.getfield 18, 3) := by decide +kernel
theorem d_SB_load_37 : decode b_SB_load 37 = .ok (.iload_n 1, 1) := by decide +kernel
theorem d_SB_load_38 : decode b_SB_load 38 = .ok (.iload 5, 2) := by decide +kernel
theorem d_SB_load_40 : decode b_SB_load 40 = .ok (.iconst 0, 1) := by decide +kernel
theorem d_SB_load_41 : decode b_SB_load 41 = .ok (.iadd, 1) := by decide +kernel
theorem d_SB_load_42 : decode b_SB_load 42 = .ok (.invokevirtual 54, 3) := by decide +kernel
theorem d_SB_load_45 : decode b_SB_load 45 = .ok (.aload_n 0, 1) := by decide +kernel
theorem d_SB_load_46 : decode b_SB_load 46 = .ok (.getfield 18, 3) := by decide +kernel
theorem d_SB_load_49 : decode b_SB_load 49 = .ok (.iload_n 1, 1) := by decide +kernel
theorem d_SB_load_50 : decode b_SB_load 50 = .ok (.iload 5, 2) := by decide +kernel
theorem d_SB_load_52 : decode b_SB_load 52 = .ok (.iconst 1, 1) := by decide +kernel
theorem d_SB_load_53 : decode b_SB_load 53 = .ok (.iadd, 1) := by decide +kernel
theorem d_SB_load_54 : decode b_SB_load 54 = .ok (.invokevirtual 54, 3) := by decide +kernel
theorem d_SB_load_57 : decode b_SB_load 57 = .ok (.aload_n 0, 1) := by decide +kernel
theorem d_SB_load_58 : decode b_SB_load 58 = .ok (.getfield 18, 3) := by decide +kernel
theorem d_SB_load_61 : decode b_SB_load 61 = .ok (.iload_n 1, 1) := by decide +kernel
theorem d_SB_load_62 : decode b_SB_load 62 = .ok (.iload 5, 2) := by decide +kernel
theorem d_SB_load_64 : decode b_SB_load 64 = .ok (.iconst 2, 1) := by decide +kernel
theorem d_SB_load_65 : decode b_SB_load 65 = .ok (.iadd, 1) := by decide +kernel
theorem d_SB_load_66 : decode b_SB_load 66 = .ok (.invokevirtual 54, 3) := by decide +kernel
theorem d_SB_load_69 : decode b_SB_load 69 = .ok (.aload_n 0, 1) := by decide +kernel
theorem d_SB_load_70 : decode b_SB_load 70 = .ok (.getfield 18, 3) := by decide +kernel
theorem d_SB_load_73 : decode b_SB_load 73 = .ok (.iload_n 1, 1) := by decide +kernel
theorem d_SB_load_74 : decode b_SB_load 74 = .ok (.iload 5, 2) := by decide +kernel
theorem d_SB_load_76 : decode b_SB_load 76 = .ok (.iconst 3, 1) := by decide +kernel
theorem d_SB_load_77 : decode b_SB_load 77 = .ok (.iadd, 1) := by decide +kernel
theorem d_SB_load_78 : decode b_SB_load 78 = .ok (.invokevirtual 54, 3) := by decide +kernel
theorem d_SB_load_81 : decode b_SB_load 81 = .ok (.invokevirtual 63, 3) := by decide +kernel
theorem d_SB_load_84 : decode b_SB_load 84 = .ok (.iinc 4 1, 3) := by decide +kernel
theorem d_SB_load_87 : decode b_SB_load 87 = .ok (.goto (-69), 3) := by decide +kernel
theorem d_SB_load_90 : decode b_SB_load 90 = .ok (.return_, 1) := by decide +kernel
theorem d_SB_epochOf_0 : decode b_SB_epochOf 0 = .ok (.aload_n 0, 1) := by decide +kernel
theorem d_SB_epochOf_1 : decode b_SB_epochOf 1 = .ok (.getfield 18, 3) := by decide +kernel
theorem d_SB_epochOf_4 : decode b_SB_epochOf 4 = .ok (.iload_n 1, 1) := by decide +kernel
theorem d_SB_epochOf_5 : decode b_SB_epochOf 5 = .ok (.iconst 1, 1) := by decide +kernel
theorem d_SB_epochOf_6 : decode b_SB_epochOf 6 = .ok (.invokevirtual 54, 3) := by decide +kernel
theorem d_SB_epochOf_9 : decode b_SB_epochOf 9 = .ok (.ireturn, 1) := by decide +kernel
theorem d_SB_newestGood_0 : decode b_SB_newestGood 0 = .ok (.aload_n 0, 1) := by decide +kernel
theorem d_SB_newestGood_1 : decode b_SB_newestGood 1 = .ok (.iconst 0, 1) := by decide +kernel
theorem d_SB_newestGood_2 : decode b_SB_newestGood 2 = .ok (.invokevirtual 67, 3) := by decide +kernel
theorem d_SB_newestGood_5 : decode b_SB_newestGood 5 = .ok (.istore_n 1, 1) := by decide +kernel
theorem d_SB_newestGood_6 : decode b_SB_newestGood 6 = .ok (.aload_n 0, 1) := by decide +kernel
theorem d_SB_newestGood_7 : decode b_SB_newestGood 7 = .ok (.iconst 1, 1) := by decide +kernel
theorem d_SB_newestGood_8 : decode b_SB_newestGood 8 = .ok (.invokevirtual 67, 3) := by decide +kernel
theorem d_SB_newestGood_11 : decode b_SB_newestGood 11 = .ok (.istore_n 2, 1) := by decide +kernel
theorem d_SB_newestGood_12 : decode b_SB_newestGood 12 = .ok (.iload_n 1, 1) := by decide +kernel
theorem d_SB_newestGood_13 : decode b_SB_newestGood 13 = .ok (.ifCond .eq 26, 3) := by decide +kernel
theorem d_SB_newestGood_16 : decode b_SB_newestGood 16 = .ok (.iload_n 2, 1) := by decide +kernel
theorem d_SB_newestGood_17 : decode b_SB_newestGood 17 = .ok (.ifCond .eq 22, 3) := by decide +kernel
theorem d_SB_newestGood_20 : decode b_SB_newestGood 20 = .ok (.aload_n 0, 1) := by decide +kernel
theorem d_SB_newestGood_21 : decode b_SB_newestGood 21 = .ok (.iconst 0, 1) := by decide +kernel
theorem d_SB_newestGood_22 : decode b_SB_newestGood 22 = .ok (.invokevirtual 70, 3) := by decide +kernel
theorem d_SB_newestGood_25 : decode b_SB_newestGood 25 = .ok (.aload_n 0, 1) := by decide +kernel
theorem d_SB_newestGood_26 : decode b_SB_newestGood 26 = .ok (.iconst 1, 1) := by decide +kernel
theorem d_SB_newestGood_27 : decode b_SB_newestGood 27 = .ok (.invokevirtual 70, 3) := by decide +kernel
theorem d_SB_newestGood_30 : decode b_SB_newestGood 30 = .ok (.if_icmp .le 7, 3) := by decide +kernel
theorem d_SB_newestGood_33 : decode b_SB_newestGood 33 = .ok (.iconst 0, 1) := by decide +kernel
theorem d_SB_newestGood_34 : decode b_SB_newestGood 34 = .ok (.goto 4, 3) := by decide +kernel
theorem d_SB_newestGood_37 : decode b_SB_newestGood 37 = .ok (.iconst 1, 1) := by decide +kernel
theorem d_SB_newestGood_38 : decode b_SB_newestGood 38 = .ok (.ireturn, 1) := by decide +kernel
theorem d_SB_newestGood_39 : decode b_SB_newestGood 39 = .ok (.iload_n 1, 1) := by decide +kernel
theorem d_SB_newestGood_40 : decode b_SB_newestGood 40 = .ok (.ifCond .eq 5, 3) := by decide +kernel
theorem d_SB_newestGood_43 : decode b_SB_newestGood 43 = .ok (.iconst 0, 1) := by decide +kernel
theorem d_SB_newestGood_44 : decode b_SB_newestGood 44 = .ok (.ireturn, 1) := by decide +kernel
theorem d_SB_newestGood_45 : decode b_SB_newestGood 45 = .ok (.iload_n 2, 1) := by decide +kernel
theorem d_SB_newestGood_46 : decode b_SB_newestGood 46 = .ok (.ifCond .eq 7, 3) := by decide +kernel
theorem d_SB_newestGood_49 : decode b_SB_newestGood 49 = .ok (.iconst 1, 1) := by decide +kernel
theorem d_SB_newestGood_50 : decode b_SB_newestGood 50 = .ok (.goto 4, 3) := by decide +kernel
theorem d_SB_newestGood_53 : decode b_SB_newestGood 53 = .ok (.iconst (-1), 1) := by decide +kernel
theorem d_SB_newestGood_54 : decode b_SB_newestGood 54 = .ok (.ireturn, 1) := by decide +kernel
theorem d_SB_isGood_0 : decode b_SB_isGood 0 = .ok (.aload_n 0, 1) := by decide +kernel
theorem d_SB_isGood_1 : decode b_SB_isGood 1 = .ok (.iload_n 1, 1) := by decide +kernel
theorem d_SB_isGood_2 : decode b_SB_isGood 2 = .ok (.invokevirtual 70, 3) := by decide +kernel
theorem d_SB_isGood_5 : decode b_SB_isGood 5 = .ok (.istore_n 2, 1) := by decide +kernel
theorem d_SB_isGood_6 : decode b_SB_isGood 6 = .ok (.iload_n 2, 1) := by decide +kernel
theorem d_SB_isGood_7 : decode b_SB_isGood 7 = .ok (.iconst 1, 1) := by decide +kernel
theorem d_SB_isGood_8 : decode b_SB_isGood 8 = .ok (.if_icmp .lt 30, 3) := by decide +kernel
theorem d_SB_isGood_11 : decode b_SB_isGood 11 = .ok (.iload_n 2, 1) := by decide +kernel
theorem d_SB_isGood_12 : decode b_SB_isGood 12 = .ok (.iconst 1, 1) := by decide +kernel
theorem d_SB_isGood_13 : decode b_SB_isGood 13 = .ok (.iand, 1) := by decide +kernel
theorem d_SB_isGood_14 : decode b_SB_isGood 14 = .ok (.iload_n 1, 1) := by decide +kernel
theorem d_SB_isGood_15 : decode b_SB_isGood 15 = .ok (.if_icmp .ne 23, 3) := by decide +kernel
theorem d_SB_isGood_18 : decode b_SB_isGood 18 = .ok (.aload_n 0, 1) := by decide +kernel
theorem d_SB_isGood_19 : decode b_SB_isGood 19 = .ok (.getfield 18, 3) := by decide +kernel
theorem d_SB_isGood_22 : decode b_SB_isGood 22 = .ok (.iload_n 1, 1) := by decide +kernel
theorem d_SB_isGood_23 : decode b_SB_isGood 23 = .ok (.iconst 0, 1) := by decide +kernel
theorem d_SB_isGood_24 : decode b_SB_isGood 24 = .ok (.invokevirtual 54, 3) := by decide +kernel
theorem d_SB_isGood_27 : decode b_SB_isGood 27 = .ok (.aload_n 0, 1) := by decide +kernel
theorem d_SB_isGood_28 : decode b_SB_isGood 28 = .ok (.getfield 18, 3) := by decide +kernel
theorem d_SB_isGood_31 : decode b_SB_isGood 31 = .ok (.iload_n 1, 1) := by decide +kernel
theorem d_SB_isGood_32 : decode b_SB_isGood 32 = .ok (.invokevirtual 74, 3) := by decide +kernel
theorem d_SB_isGood_35 : decode b_SB_isGood 35 = .ok (.if_icmp .eq 5, 3) := by decide +kernel
theorem d_SB_isGood_38 : decode b_SB_isGood 38 = .ok (.iconst 0, 1) := by decide +kernel
theorem d_SB_isGood_39 : decode b_SB_isGood 39 = .ok (.ireturn, 1) := by decide +kernel
theorem d_SB_isGood_40 : decode b_SB_isGood 40 = .ok (.aload_n 0, 1) := by decide +kernel
theorem d_SB_isGood_41 : decode b_SB_isGood 41 = .ok (.getfield 18, 3) := by decide +kernel
theorem d_SB_isGood_44 : decode b_SB_isGood 44 = .ok (.iload_n 1, 1) := by decide +kernel
theorem d_SB_isGood_45 : decode b_SB_isGood 45 = .ok (.iconst 2, 1) := by decide +kernel
theorem d_SB_isGood_46 : decode b_SB_isGood 46 = .ok (.invokevirtual 54, 3) := by decide +kernel
theorem d_SB_isGood_49 : decode b_SB_isGood 49 = .ok (.istore_n 3, 1) := by decide +kernel
theorem d_SB_isGood_50 : decode b_SB_isGood 50 = .ok (.iload_n 3, 1) := by decide +kernel
theorem d_SB_isGood_51 : decode b_SB_isGood 51 = .ok (.ifCond .lt 14, 3) := by decide +kernel
theorem d_SB_isGood_54 : decode b_SB_isGood 54 = .ok (.iload_n 3, 1) := by decide +kernel
theorem d_SB_isGood_55 : decode b_SB_isGood 55 = .ok (.aload_n 0, 1) := by decide +kernel
theorem d_SB_isGood_56 : decode b_SB_isGood 56 = .ok (.getfield 18, 3) := by decide +kernel
theorem d_SB_isGood_59 : decode b_SB_isGood 59 = .ok (.invokevirtual 77, 3) := by decide +kernel
theorem d_SB_isGood_62 : decode b_SB_isGood 62 = .ok (.if_icmp .le 5, 3) := by decide +kernel
theorem d_SB_isGood_65 : decode b_SB_isGood 65 = .ok (.iconst 0, 1) := by decide +kernel
theorem d_SB_isGood_66 : decode b_SB_isGood 66 = .ok (.ireturn, 1) := by decide +kernel
theorem d_SB_isGood_67 : decode b_SB_isGood 67 = .ok (.aload_n 0, 1) := by decide +kernel
theorem d_SB_isGood_68 : decode b_SB_isGood 68 = .ok (.getfield 12, 3) := by decide +kernel
theorem d_SB_isGood_71 : decode b_SB_isGood 71 = .ok (.invokevirtual 81, 3) := by decide +kernel
theorem d_SB_isGood_74 : decode b_SB_isGood 74 = .ok (.iconst 0, 1) := by decide +kernel
theorem d_SB_isGood_75 : decode b_SB_isGood 75 = .ok (.istore 4, 2) := by decide +kernel
theorem d_SB_isGood_77 : decode b_SB_isGood 77 = .ok (.iload 4, 2) := by decide +kernel
theorem d_SB_isGood_79 : decode b_SB_isGood 79 = .ok (.iload_n 3, 1) := by decide +kernel
theorem d_SB_isGood_80 : decode b_SB_isGood 80 = .ok (.if_icmp .ge 25, 3) := by decide +kernel
theorem d_SB_isGood_83 : decode b_SB_isGood 83 = .ok (.aload_n 0, 1) := by decide +kernel
theorem d_SB_isGood_84 : decode b_SB_isGood 84 = .ok (.iload_n 1, 1) := by decide +kernel
theorem d_SB_isGood_85 : decode b_SB_isGood 85 = .ok (.iconst 3, 1) := by decide +kernel
theorem d_SB_isGood_86 : decode b_SB_isGood 86 = .ok (.iload 4, 2) := by decide +kernel
theorem d_SB_isGood_88 : decode b_SB_isGood 88 = .ok (.iconst 4, 1) := by decide +kernel
theorem d_SB_isGood_89 : decode b_SB_isGood 89 = .ok (.imul, 1) := by decide +kernel
theorem d_SB_isGood_90 : decode b_SB_isGood 90 = .ok (.iadd, 1) := by decide +kernel
theorem d_SB_isGood_91 : decode b_SB_isGood 91 = .ok (.invokevirtual 84, 3) := by decide +kernel
theorem d_SB_isGood_94 : decode b_SB_isGood 94 = .ok (.ifCond .ne 5, 3) := by decide +kernel
theorem d_SB_isGood_97 : decode b_SB_isGood 97 = .ok (.iconst 0, 1) := by decide +kernel
theorem d_SB_isGood_98 : decode b_SB_isGood 98 = .ok (.ireturn, 1) := by decide +kernel
theorem d_SB_isGood_99 : decode b_SB_isGood 99 = .ok (.iinc 4 1, 3) := by decide +kernel
theorem d_SB_isGood_102 : decode b_SB_isGood 102 = .ok (.goto (-25), 3) := by decide +kernel
theorem d_SB_isGood_105 : decode b_SB_isGood 105 = .ok (.iconst 1, 1) := by decide +kernel
theorem d_SB_isGood_106 : decode b_SB_isGood 106 = .ok (.ireturn, 1) := by decide +kernel
theorem d_SB_isRunRight_0 : decode b_SB_isRunRight 0 = .ok (.aload_n 0, 1) := by decide +kernel
theorem d_SB_isRunRight_1 : decode b_SB_isRunRight 1 = .ok (.getfield 18, 3) := by decide +kernel
theorem d_SB_isRunRight_4 : decode b_SB_isRunRight 4 = .ok (.iload_n 1, 1) := by decide +kernel
theorem d_SB_isRunRight_5 : decode b_SB_isRunRight 5 = .ok (.iload_n 2, 1) := by decide +kernel
theorem d_SB_isRunRight_6 : decode b_SB_isRunRight 6 = .ok (.iconst 1, 1) := by decide +kernel
theorem d_SB_isRunRight_7 : decode b_SB_isRunRight 7 = .ok (.iadd, 1) := by decide +kernel
theorem d_SB_isRunRight_8 : decode b_SB_isRunRight 8 = .ok (.invokevirtual 54, 3) := by decide +kernel
theorem d_SB_isRunRight_11 : decode b_SB_isRunRight 11 = .ok (.istore_n 3, 1) := by decide +kernel
theorem d_SB_isRunRight_12 : decode b_SB_isRunRight 12 = .ok (.aload_n 0, 1) := by decide +kernel
theorem d_SB_isRunRight_13 : decode b_SB_isRunRight 13 = .ok (.getfield 18, 3) := by decide +kernel
theorem d_SB_isRunRight_16 : decode b_SB_isRunRight 16 = .ok (.iload_n 1, 1) := by decide +kernel
theorem d_SB_isRunRight_17 : decode b_SB_isRunRight 17 = .ok (.iload_n 2, 1) := by decide +kernel
theorem d_SB_isRunRight_18 : decode b_SB_isRunRight 18 = .ok (.iconst 2, 1) := by decide +kernel
theorem d_SB_isRunRight_19 : decode b_SB_isRunRight 19 = .ok (.iadd, 1) := by decide +kernel
theorem d_SB_isRunRight_20 : decode b_SB_isRunRight 20 = .ok (.invokevirtual 54, 3) := by decide +kernel
theorem d_SB_isRunRight_23 : decode b_SB_isRunRight 23 = .ok (.istore 4, 2) := by decide +kernel
theorem d_SB_isRunRight_25 : decode b_SB_isRunRight 25 = .ok (.aload_n 0, 1) := by decide +kernel
theorem d_SB_isRunRight_26 : decode b_SB_isRunRight 26 = .ok (.getfield 18, 3) := by decide +kernel
theorem d_SB_isRunRight_29 : decode b_SB_isRunRight 29 = .ok (.invokevirtual 88, 3) := by decide +kernel
theorem d_SB_isRunRight_32 : decode b_SB_isRunRight 32 = .ok (.istore 5, 2) := by decide +kernel
theorem d_SB_isRunRight_34 : decode b_SB_isRunRight 34 = .ok (.aload_n 0, 1) := by decide +kernel
theorem d_SB_isRunRight_35 : decode b_SB_isRunRight 35 = .ok (.getfield 18, 3) := by decide +kernel
theorem d_SB_isRunRight_38 : decode b_SB_isRunRight 38 = .ok (.iload_n 1, 1) := by decide +kernel
theorem d_SB_isRunRight_39 : decode b_SB_isRunRight 39 = .ok (.iload_n 2, 1) := by decide +kernel
theorem d_SB_isRunRight_40 : decode b_SB_isRunRight 40 = .ok (.iconst 3, 1) := by decide +kernel
theorem d_SB_isRunRight_41 : decode b_SB_isRunRight 41 = .ok (.iadd, 1) := by decide +kernel
theorem d_SB_isRunRight_42 : decode b_SB_isRunRight 42 = .ok (.invokevirtual 54, 3) := by decide +kernel
theorem d_SB_isRunRight_45 : decode b_SB_isRunRight 45 = .ok (.ifCond .lt 13, 3) := by decide +kernel
theorem d_SB_isRunRight_48 : decode b_SB_isRunRight 48 = .ok (.iload_n 3, 1) := by decide +kernel
theorem d_SB_isRunRight_49 : decode b_SB_isRunRight 49 = .ok (.ifCond .lt 9, 3) := by decide +kernel
theorem d_SB_isRunRight_52 : decode b_SB_isRunRight 52 = .ok (.iload_n 3, 1) := by decide +kernel
theorem d_SB_isRunRight_53 : decode b_SB_isRunRight 53 = .ok (.iload 5, 2) := by decide +kernel
theorem d_SB_isRunRight_55 : decode b_SB_isRunRight 55 = .ok (.if_icmp .lt 5, 3) := by decide +kernel
theorem d_SB_isRunRight_58 : decode b_SB_isRunRight 58 = .ok (.iconst 0, 1) := by decide +kernel
theorem d_SB_isRunRight_59 : decode b_SB_isRunRight 59 = .ok (.ireturn, 1) := by decide +kernel
theorem d_SB_isRunRight_60 : decode b_SB_isRunRight 60 = .ok (.iload 4, 2) := by decide +kernel
theorem d_SB_isRunRight_62 : decode b_SB_isRunRight 62 = .ok (.iconst 1, 1) := by decide +kernel
theorem d_SB_isRunRight_63 : decode b_SB_isRunRight 63 = .ok (.if_icmp .lt 18, 3) := by decide +kernel
theorem d_SB_isRunRight_66 : decode b_SB_isRunRight 66 = .ok (.iload 4, 2) := by decide +kernel
theorem d_SB_isRunRight_68 : decode b_SB_isRunRight 68 = .ok (.aload_n 0, 1) := by decide +kernel
theorem d_SB_isRunRight_69 : decode b_SB_isRunRight 69 = .ok (.getfield 18, 3) := by decide +kernel
theorem d_SB_isRunRight_72 : decode b_SB_isRunRight 72 = .ok (.getfield 91, 3) := by decide +kernel
theorem d_SB_isRunRight_75 : decode b_SB_isRunRight 75 = .ok (.iload 5, 2) := by decide +kernel
theorem d_SB_isRunRight_77 : decode b_SB_isRunRight 77 = .ok (.imul, 1) := by decide +kernel
theorem d_SB_isRunRight_78 : decode b_SB_isRunRight 78 = .ok (.if_icmp .le 5, 3) := by decide +kernel
theorem d_SB_isRunRight_81 : decode b_SB_isRunRight 81 = .ok (.iconst 0, 1) := by decide +kernel
theorem d_SB_isRunRight_82 : decode b_SB_isRunRight 82 = .ok (.ireturn, 1) := by decide +kernel
theorem d_SB_isRunRight_83 : decode b_SB_isRunRight 83 = .ok (.aload_n 0, 1) := by decide +kernel
theorem d_SB_isRunRight_84 : decode b_SB_isRunRight 84 = .ok (.aload_n 0, 1) := by decide +kernel
theorem d_SB_isRunRight_85 : decode b_SB_isRunRight 85 = .ok (.getfield 18, 3) := by decide +kernel
theorem d_SB_isRunRight_88 : decode b_SB_isRunRight 88 = .ok (.iload_n 1, 1) := by decide +kernel
theorem d_SB_isRunRight_89 : decode b_SB_isRunRight 89 = .ok (.iload_n 2, 1) := by decide +kernel
theorem d_SB_isRunRight_90 : decode b_SB_isRunRight 90 = .ok (.iconst 0, 1) := by decide +kernel
theorem d_SB_isRunRight_91 : decode b_SB_isRunRight 91 = .ok (.iadd, 1) := by decide +kernel
theorem d_SB_isRunRight_92 : decode b_SB_isRunRight 92 = .ok (.invokevirtual 54, 3) := by decide +kernel
theorem d_SB_isRunRight_95 : decode b_SB_isRunRight 95 = .ok (.iload_n 3, 1) := by decide +kernel
theorem d_SB_isRunRight_96 : decode b_SB_isRunRight 96 = .ok (.iload_n 3, 1) := by decide +kernel
theorem d_SB_isRunRight_97 : decode b_SB_isRunRight 97 = .ok (.iload 4, 2) := by decide +kernel
theorem d_SB_isRunRight_99 : decode b_SB_isRunRight 99 = .ok (.iadd, 1) := by decide +kernel
theorem d_SB_isRunRight_100 : decode b_SB_isRunRight 100 = .ok (.invokevirtual 94, 3) := by decide +kernel
theorem d_SB_isRunRight_103 : decode b_SB_isRunRight 103 = .ok (.ireturn, 1) := by decide +kernel
theorem d_SB_isChainRight_0 : decode b_SB_isChainRight 0 = .ok (.aload_n 0, 1) := by decide +kernel
theorem d_SB_isChainRight_1 : decode b_SB_isChainRight 1 = .ok (.getfield 18, 3) := by decide +kernel
theorem d_SB_isChainRight_4 : decode b_SB_isChainRight 4 = .ok (.invokevirtual 88, 3) := by decide +kernel
theorem d_SB_isChainRight_7 : decode b_SB_isChainRight 7 = .ok (.istore 4, 2) := by decide +kernel
theorem d_SB_isChainRight_9 : decode b_SB_isChainRight 9 = .ok (.aload_n 0, 1) := by decide +kernel
theorem d_SB_isChainRight_10 : decode b_SB_isChainRight 10 = .ok (.getfield 18, 3) := by decide +kernel
theorem d_SB_isChainRight_13 : decode b_SB_isChainRight 13 = .ok (.iload_n 3, 1) := by decide +kernel
theorem d_SB_isChainRight_14 : decode b_SB_isChainRight 14 = .ok (.invokevirtual 98, 3) := by decide +kernel
theorem d_SB_isChainRight_17 : decode b_SB_isChainRight 17 = .ok (.istore 5, 2) := by decide +kernel
theorem d_SB_isChainRight_19 : decode b_SB_isChainRight 19 = .ok (.iload_n 1, 1) := by decide +kernel
theorem d_SB_isChainRight_20 : decode b_SB_isChainRight 20 = .ok (.istore 6, 2) := by decide +kernel
theorem d_SB_isChainRight_22 : decode b_SB_isChainRight 22 = .ok (.iconst 0, 1) := by decide +kernel
theorem d_SB_isChainRight_23 : decode b_SB_isChainRight 23 = .ok (.istore 7, 2) := by decide +kernel
theorem d_SB_isChainRight_25 : decode b_SB_isChainRight 25 = .ok (.iconst 0, 1) := by decide +kernel
theorem d_SB_isChainRight_26 : decode b_SB_isChainRight 26 = .ok (.istore 8, 2) := by decide +kernel
theorem d_SB_isChainRight_28 : decode b_SB_isChainRight 28 = .ok (.iload 8, 2) := by decide +kernel
theorem d_SB_isChainRight_30 : decode b_SB_isChainRight 30 = .ok (.iload 5, 2) := by decide +kernel
theorem d_SB_isChainRight_32 : decode b_SB_isChainRight 32 = .ok (.if_icmp .ge 75, 3) := by decide +kernel
theorem d_SB_isChainRight_35 : decode b_SB_isChainRight 35 = .ok (.aload_n 0, 1) := by decide +kernel
theorem d_SB_isChainRight_36 : decode b_SB_isChainRight 36 = .ok (.iload 6, 2) := by decide +kernel
theorem d_SB_isChainRight_38 : decode b_SB_isChainRight 38 = .ok (.invokevirtual 101, 3) := by decide +kernel
theorem d_SB_isChainRight_41 : decode b_SB_isChainRight 41 = .ok (.ifCond .ne 5, 3) := by decide +kernel
theorem d_SB_isChainRight_44 : decode b_SB_isChainRight 44 = .ok (.iconst 0, 1) := by decide +kernel
theorem d_SB_isChainRight_45 : decode b_SB_isChainRight 45 = .ok (.ireturn, 1) := by decide +kernel
theorem d_SB_isChainRight_46 : decode b_SB_isChainRight 46 = .ok (.iload 4, 2) := by decide +kernel
theorem d_SB_isChainRight_48 : decode b_SB_isChainRight 48 = .ok (.iload_n 3, 1) := by decide +kernel
theorem d_SB_isChainRight_49 : decode b_SB_isChainRight 49 = .ok (.iload 8, 2) := by decide +kernel
theorem d_SB_isChainRight_51 : decode b_SB_isChainRight 51 = .ok (.iload 4, 2) := by decide +kernel
theorem d_SB_isChainRight_53 : decode b_SB_isChainRight 53 = .ok (.imul, 1) := by decide +kernel
theorem d_SB_isChainRight_54 : decode b_SB_isChainRight 54 = .ok (.isub, 1) := by decide +kernel
theorem d_SB_isChainRight_55 : decode b_SB_isChainRight 55 = .ok (.invokestatic 58, 3) := by decide +kernel
theorem d_SB_isChainRight_58 : decode b_SB_isChainRight 58 = .ok (.istore 9, 2) := by decide +kernel
theorem d_SB_isChainRight_60 : decode b_SB_isChainRight 60 = .ok (.aload_n 0, 1) := by decide +kernel
theorem d_SB_isChainRight_61 : decode b_SB_isChainRight 61 = .ok (.iload 6, 2) := by decide +kernel
theorem d_SB_isChainRight_63 : decode b_SB_isChainRight 63 = .ok (.iload 8, 2) := by decide +kernel
theorem d_SB_isChainRight_65 : decode b_SB_isChainRight 65 = .ok (.ifCond .ne 7, 3) := by decide +kernel
theorem d_SB_isChainRight_68 : decode b_SB_isChainRight 68 = .ok (.iload_n 2, 1) := by decide +kernel
theorem d_SB_isChainRight_69 : decode b_SB_isChainRight 69 = .ok (.goto 4, 3) := by decide +kernel
theorem d_SB_isChainRight_72 : decode b_SB_isChainRight 72 = .ok (.iconst 0, 1) := by decide +kernel
theorem d_SB_isChainRight_73 : decode b_SB_isChainRight 73 = .ok (.iload 9, 2) := by decide +kernel
end
section
theorem d_SB_isChainRight_75 : decode b_SB_isChainRight 75 = .ok (.iload 7, 2) := by decide +kernel
theorem d_SB_isChainRight_77 : decode b_SB_isChainRight 77 = .ok (.invokevirtual 104, 3) := by decide +kernel
theorem d_SB_isChainRight_80 : decode b_SB_isChainRight 80 = .ok (.istore 7, 2) := by decide +kernel
theorem d_SB_isChainRight_82 : decode b_SB_isChainRight 82 = .ok (.iload 7, 2) := by decide +kernel
theorem d_SB_isChainRight_84 : decode b_SB_isChainRight 84 = .ok (.ifCond .ge 5, 3) := by decide +kernel
theorem d_SB_isChainRight_87 : decode b_SB_isChainRight 87 = .ok (.iconst 0, 1) := by decide +kernel
theorem d_SB_isChainRight_88 : decode b_SB_isChainRight 88 = .ok (.ireturn, 1) := by decide +kernel
theorem d_SB_isChainRight_89 : decode b_SB_isChainRight 89 = .ok (.aload_n 0, 1) := by decide +kernel
theorem d_SB_isChainRight_90 : decode b_SB_isChainRight 90 = .ok (.getfield 18, 3) := by decide +kernel
theorem d_SB_isChainRight_93 : decode b_SB_isChainRight 93 = .ok (.iload 6, 2) := by decide +kernel
theorem d_SB_isChainRight_95 : decode b_SB_isChainRight 95 = .ok (.iconst 1, 1) := by decide +kernel
theorem d_SB_isChainRight_96 : decode b_SB_isChainRight 96 = .ok (.invokevirtual 54, 3) := by decide +kernel
theorem d_SB_isChainRight_99 : decode b_SB_isChainRight 99 = .ok (.istore 6, 2) := by decide +kernel
theorem d_SB_isChainRight_101 : decode b_SB_isChainRight 101 = .ok (.iinc 8 1, 3) := by decide +kernel
theorem d_SB_isChainRight_104 : decode b_SB_isChainRight 104 = .ok (.goto (-76), 3) := by decide +kernel
theorem d_SB_isChainRight_107 : decode b_SB_isChainRight 107 = .ok (.iload 6, 2) := by decide +kernel
theorem d_SB_isChainRight_109 : decode b_SB_isChainRight 109 = .ok (.ifCond .ne 7, 3) := by decide +kernel
theorem d_SB_isChainRight_112 : decode b_SB_isChainRight 112 = .ok (.iconst 1, 1) := by decide +kernel
theorem d_SB_isChainRight_113 : decode b_SB_isChainRight 113 = .ok (.goto 4, 3) := by decide +kernel
theorem d_SB_isChainRight_116 : decode b_SB_isChainRight 116 = .ok (.iconst 0, 1) := by decide +kernel
theorem d_SB_isChainRight_117 : decode b_SB_isChainRight 117 = .ok (.ireturn, 1) := by decide +kernel
theorem d_SB_isNewRightBlock_0 : decode b_SB_isNewRightBlock 0 = .ok (.iload_n 1, 1) := by decide +kernel
theorem d_SB_isNewRightBlock_1 : decode b_SB_isNewRightBlock 1 = .ok (.iconst 2, 1) := by decide +kernel
theorem d_SB_isNewRightBlock_2 : decode b_SB_isNewRightBlock 2 = .ok (.if_icmp .lt 25, 3) := by decide +kernel
theorem d_SB_isNewRightBlock_5 : decode b_SB_isNewRightBlock 5 = .ok (.iload_n 1, 1) := by decide +kernel
theorem d_SB_isNewRightBlock_6 : decode b_SB_isNewRightBlock 6 = .ok (.aload_n 0, 1) := by decide +kernel
theorem d_SB_isNewRightBlock_7 : decode b_SB_isNewRightBlock 7 = .ok (.getfield 18, 3) := by decide +kernel
theorem d_SB_isNewRightBlock_10 : decode b_SB_isNewRightBlock 10 = .ok (.getfield 91, 3) := by decide +kernel
theorem d_SB_isNewRightBlock_13 : decode b_SB_isNewRightBlock 13 = .ok (.if_icmp .ge 14, 3) := by decide +kernel
theorem d_SB_isNewRightBlock_16 : decode b_SB_isNewRightBlock 16 = .ok (.aload_n 0, 1) := by decide +kernel
theorem d_SB_isNewRightBlock_17 : decode b_SB_isNewRightBlock 17 = .ok (.getfield 12, 3) := by decide +kernel
theorem d_SB_isNewRightBlock_20 : decode b_SB_isNewRightBlock 20 = .ok (.iload_n 1, 1) := by decide +kernel
theorem d_SB_isNewRightBlock_21 : decode b_SB_isNewRightBlock 21 = .ok (.invokevirtual 108, 3) := by decide +kernel
theorem d_SB_isNewRightBlock_24 : decode b_SB_isNewRightBlock 24 = .ok (.ifCond .eq 5, 3) := by decide +kernel
theorem d_SB_isNewRightBlock_27 : decode b_SB_isNewRightBlock 27 = .ok (.iconst 0, 1) := by decide +kernel
theorem d_SB_isNewRightBlock_28 : decode b_SB_isNewRightBlock 28 = .ok (.ireturn, 1) := by decide +kernel
theorem d_SB_isNewRightBlock_29 : decode b_SB_isNewRightBlock 29 = .ok (.aload_n 0, 1) := by decide +kernel
theorem d_SB_isNewRightBlock_30 : decode b_SB_isNewRightBlock 30 = .ok (.getfield 12, 3) := by decide +kernel
theorem d_SB_isNewRightBlock_33 : decode b_SB_isNewRightBlock 33 = .ok (.iload_n 1, 1) := by decide +kernel
theorem d_SB_isNewRightBlock_34 : decode b_SB_isNewRightBlock 34 = .ok (.invokevirtual 111, 3) := by decide +kernel
theorem d_SB_isNewRightBlock_37 : decode b_SB_isNewRightBlock 37 = .ok (.aload_n 0, 1) := by decide +kernel
theorem d_SB_isNewRightBlock_38 : decode b_SB_isNewRightBlock 38 = .ok (.getfield 18, 3) := by decide +kernel
theorem d_SB_isNewRightBlock_41 : decode b_SB_isNewRightBlock 41 = .ok (.iload_n 1, 1) := by decide +kernel
theorem d_SB_isNewRightBlock_42 : decode b_SB_isNewRightBlock 42 = .ok (.iconst 0, 1) := by decide +kernel
theorem d_SB_isNewRightBlock_43 : decode b_SB_isNewRightBlock 43 = .ok (.invokevirtual 54, 3) := by decide +kernel
theorem d_SB_isNewRightBlock_46 : decode b_SB_isNewRightBlock 46 = .ok (.aload_n 0, 1) := by decide +kernel
theorem d_SB_isNewRightBlock_47 : decode b_SB_isNewRightBlock 47 = .ok (.getfield 18, 3) := by decide +kernel
theorem d_SB_isNewRightBlock_50 : decode b_SB_isNewRightBlock 50 = .ok (.iload_n 1, 1) := by decide +kernel
theorem d_SB_isNewRightBlock_51 : decode b_SB_isNewRightBlock 51 = .ok (.invokevirtual 74, 3) := by decide +kernel
theorem d_SB_isNewRightBlock_54 : decode b_SB_isNewRightBlock 54 = .ok (.if_icmp .ne 7, 3) := by decide +kernel
theorem d_SB_isNewRightBlock_57 : decode b_SB_isNewRightBlock 57 = .ok (.iconst 1, 1) := by decide +kernel
theorem d_SB_isNewRightBlock_58 : decode b_SB_isNewRightBlock 58 = .ok (.goto 4, 3) := by decide +kernel
theorem d_SB_isNewRightBlock_61 : decode b_SB_isNewRightBlock 61 = .ok (.iconst 0, 1) := by decide +kernel
theorem d_SB_isNewRightBlock_62 : decode b_SB_isNewRightBlock 62 = .ok (.ireturn, 1) := by decide +kernel
theorem d_SB_lastOfRising_0 : decode b_SB_lastOfRising 0 = .ok (.iload 4, 2) := by decide +kernel
theorem d_SB_lastOfRising_2 : decode b_SB_lastOfRising 2 = .ok (.istore 5, 2) := by decide +kernel
theorem d_SB_lastOfRising_4 : decode b_SB_lastOfRising 4 = .ok (.iload_n 2, 1) := by decide +kernel
theorem d_SB_lastOfRising_5 : decode b_SB_lastOfRising 5 = .ok (.istore 6, 2) := by decide +kernel
theorem d_SB_lastOfRising_7 : decode b_SB_lastOfRising 7 = .ok (.iload 6, 2) := by decide +kernel
theorem d_SB_lastOfRising_9 : decode b_SB_lastOfRising 9 = .ok (.iload_n 3, 1) := by decide +kernel
theorem d_SB_lastOfRising_10 : decode b_SB_lastOfRising 10 = .ok (.if_icmp .ge 36, 3) := by decide +kernel
theorem d_SB_lastOfRising_13 : decode b_SB_lastOfRising 13 = .ok (.aload_n 0, 1) := by decide +kernel
theorem d_SB_lastOfRising_14 : decode b_SB_lastOfRising 14 = .ok (.getfield 18, 3) := by decide +kernel
theorem d_SB_lastOfRising_17 : decode b_SB_lastOfRising 17 = .ok (.iload_n 1, 1) := by decide +kernel
theorem d_SB_lastOfRising_18 : decode b_SB_lastOfRising 18 = .ok (.iconst 2, 1) := by decide +kernel
theorem d_SB_lastOfRising_19 : decode b_SB_lastOfRising 19 = .ok (.iload 6, 2) := by decide +kernel
theorem d_SB_lastOfRising_21 : decode b_SB_lastOfRising 21 = .ok (.iadd, 1) := by decide +kernel
theorem d_SB_lastOfRising_22 : decode b_SB_lastOfRising 22 = .ok (.invokevirtual 54, 3) := by decide +kernel
theorem d_SB_lastOfRising_25 : decode b_SB_lastOfRising 25 = .ok (.istore 7, 2) := by decide +kernel
theorem d_SB_lastOfRising_27 : decode b_SB_lastOfRising 27 = .ok (.iload 7, 2) := by decide +kernel
theorem d_SB_lastOfRising_29 : decode b_SB_lastOfRising 29 = .ok (.iload 5, 2) := by decide +kernel
theorem d_SB_lastOfRising_31 : decode b_SB_lastOfRising 31 = .ok (.if_icmp .ge 5, 3) := by decide +kernel
theorem d_SB_lastOfRising_34 : decode b_SB_lastOfRising 34 = .ok (.iconst (-1), 1) := by decide +kernel
theorem d_SB_lastOfRising_35 : decode b_SB_lastOfRising 35 = .ok (.ireturn, 1) := by decide +kernel
theorem d_SB_lastOfRising_36 : decode b_SB_lastOfRising 36 = .ok (.iload 7, 2) := by decide +kernel
theorem d_SB_lastOfRising_38 : decode b_SB_lastOfRising 38 = .ok (.istore 5, 2) := by decide +kernel
theorem d_SB_lastOfRising_40 : decode b_SB_lastOfRising 40 = .ok (.iinc 6 1, 3) := by decide +kernel
theorem d_SB_lastOfRising_43 : decode b_SB_lastOfRising 43 = .ok (.goto (-36), 3) := by decide +kernel
theorem d_SB_lastOfRising_46 : decode b_SB_lastOfRising 46 = .ok (.iload 5, 2) := by decide +kernel
theorem d_SB_lastOfRising_48 : decode b_SB_lastOfRising 48 = .ok (.ireturn, 1) := by decide +kernel
theorem d_SQ_init_0 : decode b_SQ_init 0 = .ok (.aload_n 0, 1) := by decide +kernel
theorem d_SQ_init_1 : decode b_SQ_init 1 = .ok (.invokespecial 3, 3) := by decide +kernel
theorem d_SQ_init_4 : decode b_SQ_init 4 = .ok (.aload_n 0, 1) := by decide +kernel
theorem d_SQ_init_5 : decode b_SQ_init 5 = .ok (.new 9, 3) := by decide +kernel
theorem d_SQ_init_8 : decode b_SQ_init 8 = .ok (.dup, 1) := by decide +kernel
theorem d_SQ_init_9 : decode b_SQ_init 9 = .ok (.invokespecial 11, 3) := by decide +kernel
theorem d_SQ_init_12 : decode b_SQ_init 12 = .ok (.putfield 12, 3) := by decide +kernel
theorem d_SQ_init_15 : decode b_SQ_init 15 = .ok (.aload_n 0, 1) := by decide +kernel
theorem d_SQ_init_16 : decode b_SQ_init 16 = .ok (.new 16, 3) := by decide +kernel
theorem d_SQ_init_19 : decode b_SQ_init 19 = .ok (.dup, 1) := by decide +kernel
theorem d_SQ_init_20 : decode b_SQ_init 20 = .ok (.invokespecial 18, 3) := by decide +kernel
theorem d_SQ_init_23 : decode b_SQ_init 23 = .ok (.putfield 19, 3) := by decide +kernel
theorem d_SQ_init_26 : decode b_SQ_init 26 = .ok (.aload_n 0, 1) := by decide +kernel
theorem d_SQ_init_27 : decode b_SQ_init 27 = .ok (.new 23, 3) := by decide +kernel
theorem d_SQ_init_30 : decode b_SQ_init 30 = .ok (.dup, 1) := by decide +kernel
theorem d_SQ_init_31 : decode b_SQ_init 31 = .ok (.aload_n 0, 1) := by decide +kernel
theorem d_SQ_init_32 : decode b_SQ_init 32 = .ok (.getfield 12, 3) := by decide +kernel
theorem d_SQ_init_35 : decode b_SQ_init 35 = .ok (.invokespecial 25, 3) := by decide +kernel
theorem d_SQ_init_38 : decode b_SQ_init 38 = .ok (.putfield 28, 3) := by decide +kernel
theorem d_SQ_init_41 : decode b_SQ_init 41 = .ok (.aload_n 0, 1) := by decide +kernel
theorem d_SQ_init_42 : decode b_SQ_init 42 = .ok (.new 32, 3) := by decide +kernel
theorem d_SQ_init_45 : decode b_SQ_init 45 = .ok (.dup, 1) := by decide +kernel
theorem d_SQ_init_46 : decode b_SQ_init 46 = .ok (.aload_n 0, 1) := by decide +kernel
theorem d_SQ_init_47 : decode b_SQ_init 47 = .ok (.getfield 12, 3) := by decide +kernel
theorem d_SQ_init_50 : decode b_SQ_init 50 = .ok (.invokespecial 34, 3) := by decide +kernel
theorem d_SQ_init_53 : decode b_SQ_init 53 = .ok (.putfield 35, 3) := by decide +kernel
theorem d_SQ_init_56 : decode b_SQ_init 56 = .ok (.aload_n 0, 1) := by decide +kernel
theorem d_SQ_init_57 : decode b_SQ_init 57 = .ok (.new 39, 3) := by decide +kernel
theorem d_SQ_init_60 : decode b_SQ_init 60 = .ok (.dup, 1) := by decide +kernel
theorem d_SQ_init_61 : decode b_SQ_init 61 = .ok (.invokespecial 41, 3) := by decide +kernel
theorem d_SQ_init_64 : decode b_SQ_init 64 = .ok (.putfield 42, 3) := by decide +kernel
theorem d_SQ_init_67 : decode b_SQ_init 67 = .ok (.aload_n 0, 1) := by decide +kernel
theorem d_SQ_init_68 : decode b_SQ_init 68 = .ok (.new 39, 3) := by decide +kernel
theorem d_SQ_init_71 : decode b_SQ_init 71 = .ok (.dup, 1) := by decide +kernel
theorem d_SQ_init_72 : decode b_SQ_init 72 = .ok (.invokespecial 41, 3) := by decide +kernel
theorem d_SQ_init_75 : decode b_SQ_init 75 = .ok (.putfield 46, 3) := by decide +kernel
theorem d_SQ_init_78 : decode b_SQ_init 78 = .ok (.aload_n 0, 1) := by decide +kernel
theorem d_SQ_init_79 : decode b_SQ_init 79 = .ok (.sipush 200, 3) := by decide +kernel
theorem d_SQ_init_82 : decode b_SQ_init 82 = .ok (.newarray .int, 2) := by decide +kernel
theorem d_SQ_init_84 : decode b_SQ_init 84 = .ok (.putfield 49, 3) := by decide +kernel
theorem d_SQ_init_87 : decode b_SQ_init 87 = .ok (.return_, 1) := by decide +kernel
theorem d_SQ_format_0 : decode b_SQ_format 0 = .ok (.iload_n 1, 1) := by decide +kernel
theorem d_SQ_format_1 : decode b_SQ_format 1 = .ok (.iconst 4, 1) := by decide +kernel
theorem d_SQ_format_2 : decode b_SQ_format 2 = .ok (.if_icmp .lt 10, 3) := by decide +kernel
theorem d_SQ_format_5 : decode b_SQ_format 5 = .ok (.iload_n 1, 1) := by decide +kernel
theorem d_SQ_format_6 : decode b_SQ_format 6 = .ok (.sipush 200, 3) := by decide +kernel
theorem d_SQ_format_9 : decode b_SQ_format 9 = .ok (.if_icmp .le 13, 3) := by decide +kernel
theorem d_SQ_format_12 : decode b_SQ_format 12 = .ok (.new 53, 3) := by decide +kernel
theorem d_SQ_format_15 : decode b_SQ_format 15 = .ok (.dup, 1) := by decide +kernel
theorem d_SQ_format_16 : decode b_SQ_format 16 = .ok (.ldc 55, 2) := by decide +kernel
theorem d_SQ_format_18 : decode b_SQ_format 18 = .ok (.invokespecial 57, 3) := by decide +kernel
theorem d_SQ_format_21 : decode b_SQ_format 21 = .ok (.athrow, 1) := by decide +kernel
theorem d_SQ_format_22 : decode b_SQ_format 22 = .ok (.iload_n 2, 1) := by decide +kernel
theorem d_SQ_format_23 : decode b_SQ_format 23 = .ok (.bipush 11, 2) := by decide +kernel
theorem d_SQ_format_25 : decode b_SQ_format 25 = .ok (.if_icmp .lt 9, 3) := by decide +kernel
theorem d_SQ_format_28 : decode b_SQ_format 28 = .ok (.iload_n 2, 1) := by decide +kernel
theorem d_SQ_format_29 : decode b_SQ_format 29 = .ok (.bipush 40, 2) := by decide +kernel
theorem d_SQ_format_31 : decode b_SQ_format 31 = .ok (.if_icmp .le 13, 3) := by decide +kernel
theorem d_SQ_format_34 : decode b_SQ_format 34 = .ok (.new 53, 3) := by decide +kernel
theorem d_SQ_format_37 : decode b_SQ_format 37 = .ok (.dup, 1) := by decide +kernel
theorem d_SQ_format_38 : decode b_SQ_format 38 = .ok (.ldc 60, 2) := by decide +kernel
theorem d_SQ_format_40 : decode b_SQ_format 40 = .ok (.invokespecial 57, 3) := by decide +kernel
theorem d_SQ_format_43 : decode b_SQ_format 43 = .ok (.athrow, 1) := by decide +kernel
theorem d_SQ_format_44 : decode b_SQ_format 44 = .ok (.iload_n 3, 1) := by decide +kernel
theorem d_SQ_format_45 : decode b_SQ_format 45 = .ok (.iconst 1, 1) := by decide +kernel
theorem d_SQ_format_46 : decode b_SQ_format 46 = .ok (.if_icmp .lt 9, 3) := by decide +kernel
theorem d_SQ_format_49 : decode b_SQ_format 49 = .ok (.iload_n 3, 1) := by decide +kernel
theorem d_SQ_format_50 : decode b_SQ_format 50 = .ok (.bipush 100, 2) := by decide +kernel
theorem d_SQ_format_52 : decode b_SQ_format 52 = .ok (.if_icmp .le 13, 3) := by decide +kernel
theorem d_SQ_format_55 : decode b_SQ_format 55 = .ok (.new 53, 3) := by decide +kernel
theorem d_SQ_format_58 : decode b_SQ_format 58 = .ok (.dup, 1) := by decide +kernel
theorem d_SQ_format_59 : decode b_SQ_format 59 = .ok (.ldc 62, 2) := by decide +kernel
theorem d_SQ_format_61 : decode b_SQ_format 61 = .ok (.invokespecial 57, 3) := by decide +kernel
theorem d_SQ_format_64 : decode b_SQ_format 64 = .ok (.athrow, 1) := by decide +kernel
theorem d_SQ_format_65 : decode b_SQ_format 65 = .ok (.iload 4, 2) := by decide +kernel
theorem d_SQ_format_67 : decode b_SQ_format 67 = .ok (.iconst 2, 1) := by decide +kernel
theorem d_SQ_format_68 : decode b_SQ_format 68 = .ok (.if_icmp .lt 9, 3) := by decide +kernel
theorem d_SQ_format_71 : decode b_SQ_format 71 = .ok (.iload 4, 2) := by decide +kernel
theorem d_SQ_format_73 : decode b_SQ_format 73 = .ok (.iconst 5, 1) := by decide +kernel
theorem d_SQ_format_74 : decode b_SQ_format 74 = .ok (.if_icmp .le 13, 3) := by decide +kernel
theorem d_SQ_format_77 : decode b_SQ_format 77 = .ok (.new 53, 3) := by decide +kernel
theorem d_SQ_format_80 : decode b_SQ_format 80 = .ok (.dup, 1) := by decide +kernel
theorem d_SQ_format_81 : decode b_SQ_format 81 = .ok (.ldc 64, 2) := by decide +kernel
theorem d_SQ_format_83 : decode b_SQ_format 83 = .ok (.invokespecial 57, 3) := by decide +kernel
theorem d_SQ_format_86 : decode b_SQ_format 86 = .ok (.athrow, 1) := by decide +kernel
theorem d_SQ_format_87 : decode b_SQ_format 87 = .ok (.aload_n 0, 1) := by decide +kernel
theorem d_SQ_format_88 : decode b_SQ_format 88 = .ok (.invokevirtual 66, 3) := by decide +kernel
theorem d_SQ_format_91 : decode b_SQ_format 91 = .ok (.aload_n 0, 1) := by decide +kernel
theorem d_SQ_format_92 : decode b_SQ_format 92 = .ok (.getfield 12, 3) := by decide +kernel
theorem d_SQ_format_95 : decode b_SQ_format 95 = .ok (.iload_n 1, 1) := by decide +kernel
theorem d_SQ_format_96 : decode b_SQ_format 96 = .ok (.iload_n 2, 1) := by decide +kernel
theorem d_SQ_format_97 : decode b_SQ_format 97 = .ok (.invokevirtual 69, 3) := by decide +kernel
theorem d_SQ_format_100 : decode b_SQ_format 100 = .ok (.aload_n 0, 1) := by decide +kernel
theorem d_SQ_format_101 : decode b_SQ_format 101 = .ok (.getfield 19, 3) := by decide +kernel
theorem d_SQ_format_104 : decode b_SQ_format 104 = .ok (.iload_n 3, 1) := by decide +kernel
theorem d_SQ_format_105 : decode b_SQ_format 105 = .ok (.putfield 73, 3) := by decide +kernel
theorem d_SQ_format_108 : decode b_SQ_format 108 = .ok (.aload_n 0, 1) := by decide +kernel
theorem d_SQ_format_109 : decode b_SQ_format 109 = .ok (.iload 4, 2) := by decide +kernel
theorem d_SQ_format_111 : decode b_SQ_format 111 = .ok (.putfield 77, 3) := by decide +kernel
theorem d_SQ_format_114 : decode b_SQ_format 114 = .ok (.aload_n 0, 1) := by decide +kernel
theorem d_SQ_format_115 : decode b_SQ_format 115 = .ok (.iconst 1, 1) := by decide +kernel
theorem d_SQ_format_116 : decode b_SQ_format 116 = .ok (.putfield 80, 3) := by decide +kernel
theorem d_SQ_format_119 : decode b_SQ_format 119 = .ok (.aload_n 0, 1) := by decide +kernel
theorem d_SQ_format_120 : decode b_SQ_format 120 = .ok (.invokevirtual 84, 3) := by decide +kernel
theorem d_SQ_format_123 : decode b_SQ_format 123 = .ok (.pop, 1) := by decide +kernel
theorem d_SQ_format_124 : decode b_SQ_format 124 = .ok (.return_, 1) := by decide +kernel
theorem d_SQ_insert_0 : decode b_SQ_insert 0 = .ok (.aload_n 0, 1) := by decide +kernel
theorem d_SQ_insert_1 : decode b_SQ_insert 1 = .ok (.invokevirtual 88, 3) := by decide +kernel
theorem d_SQ_insert_4 : decode b_SQ_insert 4 = .ok (.iload_n 1, 1) := by decide +kernel
theorem d_SQ_insert_5 : decode b_SQ_insert 5 = .ok (.ifCond .ge 13, 3) := by decide +kernel
theorem d_SQ_insert_8 : decode b_SQ_insert 8 = .ok (.new 53, 3) := by decide +kernel
theorem d_SQ_insert_11 : decode b_SQ_insert 11 = .ok (.dup, 1) := by decide +kernel
theorem d_SQ_insert_12 : decode b_SQ_insert 12 = .ok (.ldc 91, 2) := by decide +kernel
theorem d_SQ_insert_14 : decode b_SQ_insert 14 = .ok (.invokespecial 57, 3) := by decide +kernel
theorem d_SQ_insert_17 : decode b_SQ_insert 17 = .ok (.athrow, 1) := by decide +kernel
theorem d_SQ_insert_18 : decode b_SQ_insert 18 = .ok (.aload_n 0, 1) := by decide +kernel
theorem d_SQ_insert_19 : decode b_SQ_insert 19 = .ok (.getfield 19, 3) := by decide +kernel
theorem d_SQ_insert_22 : decode b_SQ_insert 22 = .ok (.invokevirtual 93, 3) := by decide +kernel
theorem d_SQ_insert_25 : decode b_SQ_insert 25 = .ok (.ifCond .eq 14, 3) := by decide +kernel
theorem d_SQ_insert_28 : decode b_SQ_insert 28 = .ok (.aload_n 0, 1) := by decide +kernel
theorem d_SQ_insert_29 : decode b_SQ_insert 29 = .ok (.invokevirtual 97, 3) := by decide +kernel
theorem d_SQ_insert_32 : decode b_SQ_insert 32 = .ok (.istore_n 2, 1) := by decide +kernel
theorem d_SQ_insert_33 : decode b_SQ_insert 33 = .ok (.iload_n 2, 1) := by decide +kernel
theorem d_SQ_insert_34 : decode b_SQ_insert 34 = .ok (.ifCond .eq 5, 3) := by decide +kernel
theorem d_SQ_insert_37 : decode b_SQ_insert 37 = .ok (.iload_n 2, 1) := by decide +kernel
theorem d_SQ_insert_38 : decode b_SQ_insert 38 = .ok (.ireturn, 1) := by decide +kernel
theorem d_SQ_insert_39 : decode b_SQ_insert 39 = .ok (.aload_n 0, 1) := by decide +kernel
theorem d_SQ_insert_40 : decode b_SQ_insert 40 = .ok (.getfield 19, 3) := by decide +kernel
theorem d_SQ_insert_43 : decode b_SQ_insert 43 = .ok (.iload_n 1, 1) := by decide +kernel
theorem d_SQ_insert_44 : decode b_SQ_insert 44 = .ok (.invokevirtual 100, 3) := by decide +kernel
theorem d_SQ_insert_47 : decode b_SQ_insert 47 = .ok (.iconst 0, 1) := by decide +kernel
theorem d_SQ_insert_48 : decode b_SQ_insert 48 = .ok (.ireturn, 1) := by decide +kernel
theorem d_SQ_min_0 : decode b_SQ_min 0 = .ok (.aload_n 0, 1) := by decide +kernel
theorem d_SQ_min_1 : decode b_SQ_min 1 = .ok (.invokevirtual 88, 3) := by decide +kernel
theorem d_SQ_min_4 : decode b_SQ_min 4 = .ok (.aload_n 0, 1) := by decide +kernel
theorem d_SQ_min_5 : decode b_SQ_min 5 = .ok (.getfield 28, 3) := by decide +kernel
theorem d_SQ_min_8 : decode b_SQ_min 8 = .ok (.iconst 0, 1) := by decide +kernel
theorem d_SQ_min_9 : decode b_SQ_min 9 = .ok (.invokevirtual 104, 3) := by decide +kernel
theorem d_SQ_min_12 : decode b_SQ_min 12 = .ok (.istore_n 1, 1) := by decide +kernel
theorem d_SQ_min_13 : decode b_SQ_min 13 = .ok (.aload_n 0, 1) := by decide +kernel
theorem d_SQ_min_14 : decode b_SQ_min 14 = .ok (.iload_n 1, 1) := by decide +kernel
theorem d_SQ_min_15 : decode b_SQ_min 15 = .ok (.invokevirtual 108, 3) := by decide +kernel
theorem d_SQ_min_18 : decode b_SQ_min 18 = .ok (.ifCond .eq 13, 3) := by decide +kernel
theorem d_SQ_min_21 : decode b_SQ_min 21 = .ok (.aload_n 0, 1) := by decide +kernel
theorem d_SQ_min_22 : decode b_SQ_min 22 = .ok (.getfield 19, 3) := by decide +kernel
theorem d_SQ_min_25 : decode b_SQ_min 25 = .ok (.invokevirtual 112, 3) := by decide +kernel
theorem d_SQ_min_28 : decode b_SQ_min 28 = .ok (.goto 11, 3) := by decide +kernel
theorem d_SQ_min_31 : decode b_SQ_min 31 = .ok (.aload_n 0, 1) := by decide +kernel
theorem d_SQ_min_32 : decode b_SQ_min 32 = .ok (.getfield 28, 3) := by decide +kernel
theorem d_SQ_min_35 : decode b_SQ_min 35 = .ok (.iload_n 1, 1) := by decide +kernel
theorem d_SQ_min_36 : decode b_SQ_min 36 = .ok (.invokevirtual 115, 3) := by decide +kernel
theorem d_SQ_min_39 : decode b_SQ_min 39 = .ok (.ireturn, 1) := by decide +kernel
theorem d_SQ_take_0 : decode b_SQ_take 0 = .ok (.aload_n 0, 1) := by decide +kernel
theorem d_SQ_take_1 : decode b_SQ_take 1 = .ok (.invokevirtual 88, 3) := by decide +kernel
theorem d_SQ_take_4 : decode b_SQ_take 4 = .ok (.aload_n 0, 1) := by decide +kernel
theorem d_SQ_take_5 : decode b_SQ_take 5 = .ok (.getfield 28, 3) := by decide +kernel
theorem d_SQ_take_8 : decode b_SQ_take 8 = .ok (.iconst 0, 1) := by decide +kernel
theorem d_SQ_take_9 : decode b_SQ_take 9 = .ok (.invokevirtual 104, 3) := by decide +kernel
theorem d_SQ_take_12 : decode b_SQ_take 12 = .ok (.istore_n 1, 1) := by decide +kernel
theorem d_SQ_take_13 : decode b_SQ_take 13 = .ok (.aload_n 0, 1) := by decide +kernel
theorem d_SQ_take_14 : decode b_SQ_take 14 = .ok (.iload_n 1, 1) := by decide +kernel
theorem d_SQ_take_15 : decode b_SQ_take 15 = .ok (.invokevirtual 108, 3) := by decide +kernel
theorem d_SQ_take_18 : decode b_SQ_take 18 = .ok (.ifCond .eq 11, 3) := by decide +kernel
theorem d_SQ_take_21 : decode b_SQ_take 21 = .ok (.aload_n 0, 1) := by decide +kernel
theorem d_SQ_take_22 : decode b_SQ_take 22 = .ok (.getfield 19, 3) := by decide +kernel
theorem d_SQ_take_25 : decode b_SQ_take 25 = .ok (.invokevirtual 119, 3) := by decide +kernel
theorem d_SQ_take_28 : decode b_SQ_take 28 = .ok (.ireturn, 1) := by decide +kernel
theorem d_SQ_take_29 : decode b_SQ_take 29 = .ok (.aload_n 0, 1) := by decide +kernel
theorem d_SQ_take_30 : decode b_SQ_take 30 = .ok (.getfield 28, 3) := by decide +kernel
theorem d_SQ_take_33 : decode b_SQ_take 33 = .ok (.iload_n 1, 1) := by decide +kernel
theorem d_SQ_take_34 : decode b_SQ_take 34 = .ok (.invokevirtual 122, 3) := by decide +kernel
theorem d_SQ_take_37 : decode b_SQ_take 37 = .ok (.istore_n 2, 1) := by decide +kernel
theorem d_SQ_take_38 : decode b_SQ_take 38 = .ok (.aload_n 0, 1) := by decide +kernel
theorem d_SQ_take_39 : decode b_SQ_take 39 = .ok (.getfield 28, 3) := by decide +kernel
theorem d_SQ_take_42 : decode b_SQ_take 42 = .ok (.invokevirtual 125, 3) := by decide +kernel
theorem d_SQ_take_45 : decode b_SQ_take 45 = .ok (.iload_n 2, 1) := by decide +kernel
theorem d_SQ_take_46 : decode b_SQ_take 46 = .ok (.ireturn, 1) := by decide +kernel
theorem d_SQ_sync_0 : decode b_SQ_sync 0 = .ok (.aload_n 0, 1) := by decide +kernel
theorem d_SQ_sync_1 : decode b_SQ_sync 1 = .ok (.invokevirtual 88, 3) := by decide +kernel
theorem d_SQ_sync_4 : decode b_SQ_sync 4 = .ok (.aload_n 0, 1) := by decide +kernel
theorem d_SQ_sync_5 : decode b_SQ_sync 5 = .ok (.getfield 19, 3) := by decide +kernel
theorem d_SQ_sync_8 : decode b_SQ_sync 8 = .ok (.invokevirtual 128, 3) := by decide +kernel
theorem d_SQ_sync_11 : decode b_SQ_sync 11 = .ok (.ifCond .le 14, 3) := by decide +kernel
theorem d_SQ_sync_14 : decode b_SQ_sync 14 = .ok (.aload_n 0, 1) := by decide +kernel
theorem d_SQ_sync_15 : decode b_SQ_sync 15 = .ok (.invokevirtual 97, 3) := by decide +kernel
theorem d_SQ_sync_18 : decode b_SQ_sync 18 = .ok (.istore_n 1, 1) := by decide +kernel
theorem d_SQ_sync_19 : decode b_SQ_sync 19 = .ok (.iload_n 1, 1) := by decide +kernel
theorem d_SQ_sync_20 : decode b_SQ_sync 20 = .ok (.ifCond .eq 5, 3) := by decide +kernel
theorem d_SQ_sync_23 : decode b_SQ_sync 23 = .ok (.iload_n 1, 1) := by decide +kernel
theorem d_SQ_sync_24 : decode b_SQ_sync 24 = .ok (.ireturn, 1) := by decide +kernel
theorem d_SQ_sync_25 : decode b_SQ_sync 25 = .ok (.aload_n 0, 1) := by decide +kernel
theorem d_SQ_sync_26 : decode b_SQ_sync 26 = .ok (.invokevirtual 84, 3) := by decide +kernel
theorem d_SQ_sync_29 : decode b_SQ_sync 29 = .ok (.ireturn, 1) := by decide +kernel
theorem d_SQ_cutAt_0 : decode b_SQ_cutAt 0 = .ok (.aload_n 0, 1) := by decide +kernel
theorem d_SQ_cutAt_1 : decode b_SQ_cutAt 1 = .ok (.invokevirtual 88, 3) := by decide +kernel
theorem d_SQ_cutAt_4 : decode b_SQ_cutAt 4 = .ok (.iload_n 1, 1) := by decide +kernel
theorem d_SQ_cutAt_5 : decode b_SQ_cutAt 5 = .ok (.ifCond .lt 10, 3) := by decide +kernel
theorem d_SQ_cutAt_8 : decode b_SQ_cutAt 8 = .ok (.iload_n 1, 1) := by decide +kernel
theorem d_SQ_cutAt_9 : decode b_SQ_cutAt 9 = .ok (.sipush 10000, 3) := by decide +kernel
theorem d_SQ_cutAt_12 : decode b_SQ_cutAt 12 = .ok (.if_icmp .le 13, 3) := by decide +kernel
theorem d_SQ_cutAt_15 : decode b_SQ_cutAt 15 = .ok (.new 53, 3) := by decide +kernel
theorem d_SQ_cutAt_18 : decode b_SQ_cutAt 18 = .ok (.dup, 1) := by decide +kernel
theorem d_SQ_cutAt_19 : decode b_SQ_cutAt 19 = .ok (.ldc 131, 2) := by decide +kernel
theorem d_SQ_cutAt_21 : decode b_SQ_cutAt 21 = .ok (.invokespecial 57, 3) := by decide +kernel
theorem d_SQ_cutAt_24 : decode b_SQ_cutAt 24 = .ok (.athrow, 1) := by decide +kernel
theorem d_SQ_cutAt_25 : decode b_SQ_cutAt 25 = .ok (.aload_n 0, 1) := by decide +kernel
theorem d_SQ_cutAt_26 : decode b_SQ_cutAt 26 = .ok (.getfield 12, 3) := by decide +kernel
theorem d_SQ_cutAt_29 : decode b_SQ_cutAt 29 = .ok (.iload_n 1, 1) := by decide +kernel
theorem d_SQ_cutAt_30 : decode b_SQ_cutAt 30 = .ok (.putfield 133, 3) := by decide +kernel
theorem d_SQ_cutAt_33 : decode b_SQ_cutAt 33 = .ok (.return_, 1) := by decide +kernel
theorem d_SQ_cut_0 : decode b_SQ_cut 0 = .ok (.aload_n 0, 1) := by decide +kernel
theorem d_SQ_cut_1 : decode b_SQ_cut 1 = .ok (.invokevirtual 136, 3) := by decide +kernel
theorem d_SQ_cut_4 : decode b_SQ_cut 4 = .ok (.aload_n 0, 1) := by decide +kernel
theorem d_SQ_cut_5 : decode b_SQ_cut 5 = .ok (.invokevirtual 66, 3) := by decide +kernel
theorem d_SQ_cut_8 : decode b_SQ_cut 8 = .ok (.return_, 1) := by decide +kernel
theorem d_SQ_recover_0 : decode b_SQ_recover 0 = .ok (.aload_n 0, 1) := by decide +kernel
theorem d_SQ_recover_1 : decode b_SQ_recover 1 = .ok (.invokevirtual 136, 3) := by decide +kernel
theorem d_SQ_recover_4 : decode b_SQ_recover 4 = .ok (.aload_n 0, 1) := by decide +kernel
theorem d_SQ_recover_5 : decode b_SQ_recover 5 = .ok (.invokevirtual 66, 3) := by decide +kernel
theorem d_SQ_recover_8 : decode b_SQ_recover 8 = .ok (.aload_n 0, 1) := by decide +kernel
theorem d_SQ_recover_9 : decode b_SQ_recover 9 = .ok (.getfield 35, 3) := by decide +kernel
theorem d_SQ_recover_12 : decode b_SQ_recover 12 = .ok (.invokevirtual 139, 3) := by decide +kernel
theorem d_SQ_recover_15 : decode b_SQ_recover 15 = .ok (.istore_n 1, 1) := by decide +kernel
theorem d_SQ_recover_16 : decode b_SQ_recover 16 = .ok (.iload_n 1, 1) := by decide +kernel
theorem d_SQ_recover_17 : decode b_SQ_recover 17 = .ok (.ifCond .ge 6, 3) := by decide +kernel
theorem d_SQ_recover_20 : decode b_SQ_recover 20 = .ok (.bipush (-3), 2) := by decide +kernel
theorem d_SQ_recover_22 : decode b_SQ_recover 22 = .ok (.ireturn, 1) := by decide +kernel
theorem d_SQ_recover_23 : decode b_SQ_recover 23 = .ok (.aload_n 0, 1) := by decide +kernel
theorem d_SQ_recover_24 : decode b_SQ_recover 24 = .ok (.getfield 35, 3) := by decide +kernel
theorem d_SQ_recover_27 : decode b_SQ_recover 27 = .ok (.iload_n 1, 1) := by decide +kernel
theorem d_SQ_recover_28 : decode b_SQ_recover 28 = .ok (.aload_n 0, 1) := by decide +kernel
theorem d_SQ_recover_29 : decode b_SQ_recover 29 = .ok (.getfield 28, 3) := by decide +kernel
theorem d_SQ_recover_32 : decode b_SQ_recover 32 = .ok (.invokevirtual 142, 3) := by decide +kernel
theorem d_SQ_recover_35 : decode b_SQ_recover 35 = .ok (.aload_n 0, 1) := by decide +kernel
theorem d_SQ_recover_36 : decode b_SQ_recover 36 = .ok (.aload_n 0, 1) := by decide +kernel
theorem d_SQ_recover_37 : decode b_SQ_recover 37 = .ok (.getfield 35, 3) := by decide +kernel
theorem d_SQ_recover_40 : decode b_SQ_recover 40 = .ok (.iload_n 1, 1) := by decide +kernel
theorem d_SQ_recover_41 : decode b_SQ_recover 41 = .ok (.invokevirtual 146, 3) := by decide +kernel
theorem d_SQ_recover_44 : decode b_SQ_recover 44 = .ok (.putfield 149, 3) := by decide +kernel
theorem d_SQ_recover_47 : decode b_SQ_recover 47 = .ok (.aload_n 0, 1) := by decide +kernel
theorem d_SQ_recover_48 : decode b_SQ_recover 48 = .ok (.getfield 28, 3) := by decide +kernel
theorem d_SQ_recover_51 : decode b_SQ_recover 51 = .ok (.aload_n 0, 1) := by decide +kernel
theorem d_SQ_recover_52 : decode b_SQ_recover 52 = .ok (.getfield 42, 3) := by decide +kernel
theorem d_SQ_recover_55 : decode b_SQ_recover 55 = .ok (.invokevirtual 152, 3) := by decide +kernel
theorem d_SQ_recover_58 : decode b_SQ_recover 58 = .ok (.aload_n 0, 1) := by decide +kernel
theorem d_SQ_recover_59 : decode b_SQ_recover 59 = .ok (.iconst 1, 1) := by decide +kernel
theorem d_SQ_recover_60 : decode b_SQ_recover 60 = .ok (.putfield 80, 3) := by decide +kernel
theorem d_SQ_recover_63 : decode b_SQ_recover 63 = .ok (.aload_n 0, 1) := by decide +kernel
theorem d_SQ_recover_64 : decode b_SQ_recover 64 = .ok (.getfield 28, 3) := by decide +kernel
theorem d_SQ_recover_67 : decode b_SQ_recover 67 = .ok (.invokevirtual 156, 3) := by decide +kernel
theorem d_SQ_recover_70 : decode b_SQ_recover 70 = .ok (.ireturn, 1) := by decide +kernel
theorem d_SQ_size_0 : decode b_SQ_size 0 = .ok (.aload_n 0, 1) := by decide +kernel
theorem d_SQ_size_1 : decode b_SQ_size 1 = .ok (.getfield 80, 3) := by decide +kernel
theorem d_SQ_size_4 : decode b_SQ_size 4 = .ok (.ifCond .eq 21, 3) := by decide +kernel
theorem d_SQ_size_7 : decode b_SQ_size 7 = .ok (.aload_n 0, 1) := by decide +kernel
theorem d_SQ_size_8 : decode b_SQ_size 8 = .ok (.getfield 19, 3) := by decide +kernel
theorem d_SQ_size_11 : decode b_SQ_size 11 = .ok (.invokevirtual 128, 3) := by decide +kernel
theorem d_SQ_size_14 : decode b_SQ_size 14 = .ok (.aload_n 0, 1) := by decide +kernel
theorem d_SQ_size_15 : decode b_SQ_size 15 = .ok (.getfield 28, 3) := by decide +kernel
theorem d_SQ_size_18 : decode b_SQ_size 18 = .ok (.invokevirtual 156, 3) := by decide +kernel
theorem d_SQ_size_21 : decode b_SQ_size 21 = .ok (.iadd, 1) := by decide +kernel
theorem d_SQ_size_22 : decode b_SQ_size 22 = .ok (.goto 4, 3) := by decide +kernel
theorem d_SQ_size_25 : decode b_SQ_size 25 = .ok (.iconst 0, 1) := by decide +kernel
theorem d_SQ_size_26 : decode b_SQ_size 26 = .ok (.ireturn, 1) := by decide +kernel
theorem d_SQ_run_0 : decode b_SQ_run 0 = .ok (.aload_n 0, 1) := by decide +kernel
theorem d_SQ_run_1 : decode b_SQ_run 1 = .ok (.invokevirtual 88, 3) := by decide +kernel
theorem d_SQ_run_4 : decode b_SQ_run 4 = .ok (.aload_n 0, 1) := by decide +kernel
theorem d_SQ_run_5 : decode b_SQ_run 5 = .ok (.getfield 28, 3) := by decide +kernel
theorem d_SQ_run_8 : decode b_SQ_run 8 = .ok (.iload_n 1, 1) := by decide +kernel
theorem d_SQ_run_9 : decode b_SQ_run 9 = .ok (.invokevirtual 159, 3) := by decide +kernel
theorem d_SQ_run_12 : decode b_SQ_run 12 = .ok (.ifCond .ne 13, 3) := by decide +kernel
theorem d_SQ_run_15 : decode b_SQ_run 15 = .ok (.new 162, 3) := by decide +kernel
theorem d_SQ_run_18 : decode b_SQ_run 18 = .ok (.dup, 1) := by decide +kernel
theorem d_SQ_run_19 : decode b_SQ_run 19 = .ok (.ldc 164, 2) := by decide +kernel
theorem d_SQ_run_21 : decode b_SQ_run 21 = .ok (.invokespecial 166, 3) := by decide +kernel
theorem d_SQ_run_24 : decode b_SQ_run 24 = .ok (.athrow, 1) := by decide +kernel
theorem d_SQ_run_25 : decode b_SQ_run 25 = .ok (.iload_n 2, 1) := by decide +kernel
theorem d_SQ_run_26 : decode b_SQ_run 26 = .ok (.tableswitch 114 0 5 #[38, 48, 58, 68, 78, 105], 38) := by decide +kernel
theorem d_SQ_run_64 : decode b_SQ_run 64 = .ok (.aload_n 0, 1) := by decide +kernel
theorem d_SQ_run_65 : decode b_SQ_run 65 = .ok (.getfield 28, 3) := by decide +kernel
theorem d_SQ_run_68 : decode b_SQ_run 68 = .ok (.getfield 167, 3) := by decide +kernel
theorem d_SQ_run_71 : decode b_SQ_run 71 = .ok (.iload_n 1, 1) := by decide +kernel
theorem d_SQ_run_72 : decode b_SQ_run 72 = .ok (.iaload, 1) := by decide +kernel
theorem d_SQ_run_73 : decode b_SQ_run 73 = .ok (.ireturn, 1) := by decide +kernel
theorem d_SQ_run_74 : decode b_SQ_run 74 = .ok (.aload_n 0, 1) := by decide +kernel
theorem d_SQ_run_75 : decode b_SQ_run 75 = .ok (.getfield 28, 3) := by decide +kernel
theorem d_SQ_run_78 : decode b_SQ_run 78 = .ok (.getfield 170, 3) := by decide +kernel
theorem d_SQ_run_81 : decode b_SQ_run 81 = .ok (.iload_n 1, 1) := by decide +kernel
theorem d_SQ_run_82 : decode b_SQ_run 82 = .ok (.iaload, 1) := by decide +kernel
theorem d_SQ_run_83 : decode b_SQ_run 83 = .ok (.ireturn, 1) := by decide +kernel
theorem d_SQ_run_84 : decode b_SQ_run 84 = .ok (.aload_n 0, 1) := by decide +kernel
theorem d_SQ_run_85 : decode b_SQ_run 85 = .ok (.getfield 28, 3) := by decide +kernel
theorem d_SQ_run_88 : decode b_SQ_run 88 = .ok (.getfield 173, 3) := by decide +kernel
theorem d_SQ_run_91 : decode b_SQ_run 91 = .ok (.iload_n 1, 1) := by decide +kernel
theorem d_SQ_run_92 : decode b_SQ_run 92 = .ok (.iaload, 1) := by decide +kernel
theorem d_SQ_run_93 : decode b_SQ_run 93 = .ok (.ireturn, 1) := by decide +kernel
theorem d_SQ_run_94 : decode b_SQ_run 94 = .ok (.aload_n 0, 1) := by decide +kernel
theorem d_SQ_run_95 : decode b_SQ_run 95 = .ok (.getfield 28, 3) := by decide +kernel
theorem d_SQ_run_98 : decode b_SQ_run 98 = .ok (.getfield 176, 3) := by decide +kernel
theorem d_SQ_run_101 : decode b_SQ_run 101 = .ok (.iload_n 1, 1) := by decide +kernel
theorem d_SQ_run_102 : decode b_SQ_run 102 = .ok (.iaload, 1) := by decide +kernel
theorem d_SQ_run_103 : decode b_SQ_run 103 = .ok (.ireturn, 1) := by decide +kernel
theorem d_SQ_run_104 : decode b_SQ_run 104 = .ok (.aload_n 0, 1) := by decide +kernel
theorem d_SQ_run_105 : decode b_SQ_run 105 = .ok (.getfield 12, 3) := by decide +kernel
theorem d_SQ_run_108 : decode b_SQ_run 108 = .ok (.aload_n 0, 1) := by decide +kernel
theorem d_SQ_run_109 : decode b_SQ_run 109 = .ok (.getfield 28, 3) := by decide +kernel
theorem d_SQ_run_112 : decode b_SQ_run 112 = .ok (.getfield 170, 3) := by decide +kernel
theorem d_SQ_run_115 : decode b_SQ_run 115 = .ok (.iload_n 1, 1) := by decide +kernel
theorem d_SQ_run_116 : decode b_SQ_run 116 = .ok (.iaload, 1) := by decide +kernel
theorem d_SQ_run_117 : decode b_SQ_run 117 = .ok (.aload_n 0, 1) := by decide +kernel
theorem d_SQ_run_118 : decode b_SQ_run 118 = .ok (.getfield 28, 3) := by decide +kernel
theorem d_SQ_run_121 : decode b_SQ_run 121 = .ok (.getfield 173, 3) := by decide +kernel
theorem d_SQ_run_124 : decode b_SQ_run 124 = .ok (.iload_n 1, 1) := by decide +kernel
theorem d_SQ_run_125 : decode b_SQ_run 125 = .ok (.iaload, 1) := by decide +kernel
theorem d_SQ_run_126 : decode b_SQ_run 126 = .ok (.iadd, 1) := by decide +kernel
theorem d_SQ_run_127 : decode b_SQ_run 127 = .ok (.invokevirtual 179, 3) := by decide +kernel
theorem d_SQ_run_130 : decode b_SQ_run 130 = .ok (.ireturn, 1) := by decide +kernel
theorem d_SQ_run_131 : decode b_SQ_run 131 = .ok (.aload_n 0, 1) := by decide +kernel
theorem d_SQ_run_132 : decode b_SQ_run 132 = .ok (.getfield 28, 3) := by decide +kernel
theorem d_SQ_run_135 : decode b_SQ_run 135 = .ok (.iload_n 1, 1) := by decide +kernel
theorem d_SQ_run_136 : decode b_SQ_run 136 = .ok (.invokevirtual 115, 3) := by decide +kernel
theorem d_SQ_run_139 : decode b_SQ_run 139 = .ok (.ireturn, 1) := by decide +kernel
theorem d_SQ_run_140 : decode b_SQ_run 140 = .ok (.new 162, 3) := by decide +kernel
theorem d_SQ_run_143 : decode b_SQ_run 143 = .ok (.dup, 1) := by decide +kernel
theorem d_SQ_run_144 : decode b_SQ_run 144 = .ok (.ldc 182, 2) := by decide +kernel
theorem d_SQ_run_146 : decode b_SQ_run 146 = .ok (.invokespecial 166, 3) := by decide +kernel
theorem d_SQ_run_149 : decode b_SQ_run 149 = .ok (.athrow, 1) := by decide +kernel
theorem d_SQ_about_0 : decode b_SQ_about 0 = .ok (.iload_n 1, 1) := by decide +kernel
theorem d_SQ_about_1 : decode b_SQ_about 1 = .ok (.tableswitch 153 0 6 #[43, 62, 81, 97, 113, 132, 140], 43) := by decide +kernel
theorem d_SQ_about_44 : decode b_SQ_about 44 = .ok (.aload_n 0, 1) := by decide +kernel
theorem d_SQ_about_45 : decode b_SQ_about 45 = .ok (.getfield 80, 3) := by decide +kernel
theorem d_SQ_about_48 : decode b_SQ_about 48 = .ok (.ifCond .eq 13, 3) := by decide +kernel
theorem d_SQ_about_51 : decode b_SQ_about 51 = .ok (.aload_n 0, 1) := by decide +kernel
theorem d_SQ_about_52 : decode b_SQ_about 52 = .ok (.getfield 28, 3) := by decide +kernel
theorem d_SQ_about_55 : decode b_SQ_about 55 = .ok (.getfield 184, 3) := by decide +kernel
theorem d_SQ_about_58 : decode b_SQ_about 58 = .ok (.goto 4, 3) := by decide +kernel
theorem d_SQ_about_61 : decode b_SQ_about 61 = .ok (.iconst 0, 1) := by decide +kernel
theorem d_SQ_about_62 : decode b_SQ_about 62 = .ok (.ireturn, 1) := by decide +kernel
theorem d_SQ_about_63 : decode b_SQ_about 63 = .ok (.aload_n 0, 1) := by decide +kernel
theorem d_SQ_about_64 : decode b_SQ_about 64 = .ok (.getfield 80, 3) := by decide +kernel
theorem d_SQ_about_67 : decode b_SQ_about 67 = .ok (.ifCond .eq 13, 3) := by decide +kernel
theorem d_SQ_about_70 : decode b_SQ_about 70 = .ok (.aload_n 0, 1) := by decide +kernel
theorem d_SQ_about_71 : decode b_SQ_about 71 = .ok (.getfield 19, 3) := by decide +kernel
theorem d_SQ_about_74 : decode b_SQ_about 74 = .ok (.invokevirtual 128, 3) := by decide +kernel
theorem d_SQ_about_77 : decode b_SQ_about 77 = .ok (.goto 4, 3) := by decide +kernel
theorem d_SQ_about_80 : decode b_SQ_about 80 = .ok (.iconst 0, 1) := by decide +kernel
theorem d_SQ_about_81 : decode b_SQ_about 81 = .ok (.ireturn, 1) := by decide +kernel
theorem d_SQ_about_82 : decode b_SQ_about 82 = .ok (.aload_n 0, 1) := by decide +kernel
theorem d_SQ_about_83 : decode b_SQ_about 83 = .ok (.getfield 80, 3) := by decide +kernel
theorem d_SQ_about_86 : decode b_SQ_about 86 = .ok (.ifCond .eq 10, 3) := by decide +kernel
theorem d_SQ_about_89 : decode b_SQ_about 89 = .ok (.aload_n 0, 1) := by decide +kernel
theorem d_SQ_about_90 : decode b_SQ_about 90 = .ok (.invokevirtual 187, 3) := by decide +kernel
theorem d_SQ_about_93 : decode b_SQ_about 93 = .ok (.goto 4, 3) := by decide +kernel
theorem d_SQ_about_96 : decode b_SQ_about 96 = .ok (.iconst 0, 1) := by decide +kernel
theorem d_SQ_about_97 : decode b_SQ_about 97 = .ok (.ireturn, 1) := by decide +kernel
theorem d_SQ_about_98 : decode b_SQ_about 98 = .ok (.aload_n 0, 1) := by decide +kernel
theorem d_SQ_about_99 : decode b_SQ_about 99 = .ok (.getfield 80, 3) := by decide +kernel
theorem d_SQ_about_102 : decode b_SQ_about 102 = .ok (.ifCond .eq 10, 3) := by decide +kernel
theorem d_SQ_about_105 : decode b_SQ_about 105 = .ok (.aload_n 0, 1) := by decide +kernel
theorem d_SQ_about_106 : decode b_SQ_about 106 = .ok (.getfield 149, 3) := by decide +kernel
theorem d_SQ_about_109 : decode b_SQ_about 109 = .ok (.goto 4, 3) := by decide +kernel
theorem d_SQ_about_112 : decode b_SQ_about 112 = .ok (.iconst 0, 1) := by decide +kernel
theorem d_SQ_about_113 : decode b_SQ_about 113 = .ok (.ireturn, 1) := by decide +kernel
theorem d_SQ_about_114 : decode b_SQ_about 114 = .ok (.aload_n 0, 1) := by decide +kernel
theorem d_SQ_about_115 : decode b_SQ_about 115 = .ok (.getfield 80, 3) := by decide +kernel
theorem d_SQ_about_118 : decode b_SQ_about 118 = .ok (.ifCond .eq 13, 3) := by decide +kernel
theorem d_SQ_about_121 : decode b_SQ_about 121 = .ok (.aload_n 0, 1) := by decide +kernel
theorem d_SQ_about_122 : decode b_SQ_about 122 = .ok (.getfield 12, 3) := by decide +kernel
theorem d_SQ_about_125 : decode b_SQ_about 125 = .ok (.invokevirtual 190, 3) := by decide +kernel
theorem d_SQ_about_128 : decode b_SQ_about 128 = .ok (.goto 4, 3) := by decide +kernel
theorem d_SQ_about_131 : decode b_SQ_about 131 = .ok (.iconst 0, 1) := by decide +kernel
theorem d_SQ_about_132 : decode b_SQ_about 132 = .ok (.ireturn, 1) := by decide +kernel
theorem d_SQ_about_133 : decode b_SQ_about 133 = .ok (.aload_n 0, 1) := by decide +kernel
theorem d_SQ_about_134 : decode b_SQ_about 134 = .ok (.getfield 12, 3) := by decide +kernel
theorem d_SQ_about_137 : decode b_SQ_about 137 = .ok (.getfield 193, 3) := by decide +kernel
theorem d_SQ_about_140 : decode b_SQ_about 140 = .ok (.ireturn, 1) := by decide +kernel
theorem d_SQ_about_141 : decode b_SQ_about 141 = .ok (.aload_n 0, 1) := by decide +kernel
theorem d_SQ_about_142 : decode b_SQ_about 142 = .ok (.getfield 80, 3) := by decide +kernel
theorem d_SQ_about_145 : decode b_SQ_about 145 = .ok (.ifCond .eq 7, 3) := by decide +kernel
theorem d_SQ_about_148 : decode b_SQ_about 148 = .ok (.iconst 0, 1) := by decide +kernel
theorem d_SQ_about_149 : decode b_SQ_about 149 = .ok (.goto 4, 3) := by decide +kernel
theorem d_SQ_about_152 : decode b_SQ_about 152 = .ok (.iconst 1, 1) := by decide +kernel
theorem d_SQ_about_153 : decode b_SQ_about 153 = .ok (.ireturn, 1) := by decide +kernel
theorem d_SQ_about_154 : decode b_SQ_about 154 = .ok (.new 162, 3) := by decide +kernel
theorem d_SQ_about_157 : decode b_SQ_about 157 = .ok (.dup, 1) := by decide +kernel
theorem d_SQ_about_158 : decode b_SQ_about 158 = .ok (.ldc 196, 2) := by decide +kernel
theorem d_SQ_about_160 : decode b_SQ_about 160 = .ok (.invokespecial 166, 3) := by decide +kernel
theorem d_SQ_about_163 : decode b_SQ_about 163 = .ok (.athrow, 1) := by decide +kernel
theorem d_SQ_word_0 : decode b_SQ_word 0 = .ok (.aload_n 0, 1) := by decide +kernel
theorem d_SQ_word_1 : decode b_SQ_word 1 = .ok (.iload_n 1, 1) := by decide +kernel
theorem d_SQ_word_2 : decode b_SQ_word 2 = .ok (.iload_n 2, 1) := by decide +kernel
theorem d_SQ_word_3 : decode b_SQ_word 3 = .ok (.invokevirtual 198, 3) := by decide +kernel
theorem d_SQ_word_6 : decode b_SQ_word 6 = .ok (.aload_n 0, 1) := by decide +kernel
theorem d_SQ_word_7 : decode b_SQ_word 7 = .ok (.getfield 12, 3) := by decide +kernel
theorem d_SQ_word_10 : decode b_SQ_word 10 = .ok (.iload_n 1, 1) := by decide +kernel
theorem d_SQ_word_11 : decode b_SQ_word 11 = .ok (.iload_n 2, 1) := by decide +kernel
theorem d_SQ_word_12 : decode b_SQ_word 12 = .ok (.invokevirtual 201, 3) := by decide +kernel
theorem d_SQ_word_15 : decode b_SQ_word 15 = .ok (.ireturn, 1) := by decide +kernel
theorem d_SQ_spoil_0 : decode b_SQ_spoil 0 = .ok (.aload_n 0, 1) := by decide +kernel
theorem d_SQ_spoil_1 : decode b_SQ_spoil 1 = .ok (.getfield 80, 3) := by decide +kernel
theorem d_SQ_spoil_4 : decode b_SQ_spoil 4 = .ok (.ifCond .eq 13, 3) := by decide +kernel
theorem d_SQ_spoil_7 : decode b_SQ_spoil 7 = .ok (.new 205, 3) := by decide +kernel
theorem d_SQ_spoil_10 : decode b_SQ_spoil 10 = .ok (.dup, 1) := by decide +kernel
theorem d_SQ_spoil_11 : decode b_SQ_spoil 11 = .ok (.ldc 207, 2) := by decide +kernel
theorem d_SQ_spoil_13 : decode b_SQ_spoil 13 = .ok (.invokespecial 209, 3) := by decide +kernel
theorem d_SQ_spoil_16 : decode b_SQ_spoil 16 = .ok (.athrow, 1) := by decide +kernel
theorem d_SQ_spoil_17 : decode b_SQ_spoil 17 = .ok (.aload_n 0, 1) := by decide +kernel
theorem d_SQ_spoil_18 : decode b_SQ_spoil 18 = .ok (.iload_n 1, 1) := by decide +kernel
theorem d_SQ_spoil_19 : decode b_SQ_spoil 19 = .ok (.iload_n 2, 1) := by decide +kernel
theorem d_SQ_spoil_20 : decode b_SQ_spoil 20 = .ok (.invokevirtual 198, 3) := by decide +kernel
theorem d_SQ_spoil_23 : decode b_SQ_spoil 23 = .ok (.aload_n 0, 1) := by decide +kernel
theorem d_SQ_spoil_24 : decode b_SQ_spoil 24 = .ok (.getfield 12, 3) := by decide +kernel
theorem d_SQ_spoil_27 : decode b_SQ_spoil 27 = .ok (.iload_n 1, 1) := by decide +kernel
theorem d_SQ_spoil_28 : decode b_SQ_spoil 28 = .ok (.iload_n 2, 1) := by decide +kernel
theorem d_SQ_spoil_29 : decode b_SQ_spoil 29 = .ok (.iload_n 3, 1) := by decide +kernel
theorem d_SQ_spoil_30 : decode b_SQ_spoil 30 = .ok (.invokevirtual 210, 3) := by decide +kernel
theorem d_SQ_spoil_33 : decode b_SQ_spoil 33 = .ok (.return_, 1) := by decide +kernel
theorem d_SQ_requireLive_0 : decode b_SQ_requireLive 0 = .ok (.aload_n 0, 1) := by decide +kernel
theorem d_SQ_requireLive_1 : decode b_SQ_requireLive 1 = .ok (.getfield 80, 3) := by decide +kernel
theorem d_SQ_requireLive_4 : decode b_SQ_requireLive 4 = .ok (.ifCond .ne 13, 3) := by decide +kernel
theorem d_SQ_requireLive_7 : decode b_SQ_requireLive 7 = .ok (.new 205, 3) := by decide +kernel
theorem d_SQ_requireLive_10 : decode b_SQ_requireLive 10 = .ok (.dup, 1) := by decide +kernel
theorem d_SQ_requireLive_11 : decode b_SQ_requireLive 11 = .ok (.ldc 214, 2) := by decide +kernel
theorem d_SQ_requireLive_13 : decode b_SQ_requireLive 13 = .ok (.invokespecial 209, 3) := by decide +kernel
theorem d_SQ_requireLive_16 : decode b_SQ_requireLive 16 = .ok (.athrow, 1) := by decide +kernel
theorem d_SQ_requireLive_17 : decode b_SQ_requireLive 17 = .ok (.return_, 1) := by decide +kernel
theorem d_SQ_requireDisk_0 : decode b_SQ_requireDisk 0 = .ok (.aload_n 0, 1) := by decide +kernel
theorem d_SQ_requireDisk_1 : decode b_SQ_requireDisk 1 = .ok (.getfield 12, 3) := by decide +kernel
theorem d_SQ_requireDisk_4 : decode b_SQ_requireDisk 4 = .ok (.getfield 216, 3) := by decide +kernel
theorem d_SQ_requireDisk_7 : decode b_SQ_requireDisk 7 = .ok (.ifCond .ne 13, 3) := by decide +kernel
theorem d_SQ_requireDisk_10 : decode b_SQ_requireDisk 10 = .ok (.new 205, 3) := by decide +kernel
theorem d_SQ_requireDisk_13 : decode b_SQ_requireDisk 13 = .ok (.dup, 1) := by decide +kernel
theorem d_SQ_requireDisk_14 : decode b_SQ_requireDisk 14 = .ok (.ldc 219, 2) := by decide +kernel
theorem d_SQ_requireDisk_16 : decode b_SQ_requireDisk 16 = .ok (.invokespecial 209, 3) := by decide +kernel
theorem d_SQ_requireDisk_19 : decode b_SQ_requireDisk 19 = .ok (.athrow, 1) := by decide +kernel
theorem d_SQ_requireDisk_20 : decode b_SQ_requireDisk 20 = .ok (.return_, 1) := by decide +kernel
theorem d_SQ_requireWord_0 : decode b_SQ_requireWord 0 = .ok (.aload_n 0, 1) := by decide +kernel
theorem d_SQ_requireWord_1 : decode b_SQ_requireWord 1 = .ok (.getfield 12, 3) := by decide +kernel
theorem d_SQ_requireWord_4 : decode b_SQ_requireWord 4 = .ok (.iload_n 1, 1) := by decide +kernel
theorem d_SQ_requireWord_5 : decode b_SQ_requireWord 5 = .ok (.iload_n 2, 1) := by decide +kernel
theorem d_SQ_requireWord_6 : decode b_SQ_requireWord 6 = .ok (.invokevirtual 221, 3) := by decide +kernel
theorem d_SQ_requireWord_9 : decode b_SQ_requireWord 9 = .ok (.ifCond .ne 13, 3) := by decide +kernel
theorem d_SQ_requireWord_12 : decode b_SQ_requireWord 12 = .ok (.new 162, 3) := by decide +kernel
theorem d_SQ_requireWord_15 : decode b_SQ_requireWord 15 = .ok (.dup, 1) := by decide +kernel
theorem d_SQ_requireWord_16 : decode b_SQ_requireWord 16 = .ok (.ldc 224, 2) := by decide +kernel
theorem d_SQ_requireWord_18 : decode b_SQ_requireWord 18 = .ok (.invokespecial 166, 3) := by decide +kernel
theorem d_SQ_requireWord_21 : decode b_SQ_requireWord 21 = .ok (.athrow, 1) := by decide +kernel
theorem d_SQ_requireWord_22 : decode b_SQ_requireWord 22 = .ok (.return_, 1) := by decide +kernel
theorem d_SQ_powerOff_0 : decode b_SQ_powerOff 0 = .ok (.aload_n 0, 1) := by decide +kernel
theorem d_SQ_powerOff_1 : decode b_SQ_powerOff 1 = .ok (.iconst 0, 1) := by decide +kernel
theorem d_SQ_powerOff_2 : decode b_SQ_powerOff 2 = .ok (.putfield 80, 3) := by decide +kernel
theorem d_SQ_powerOff_5 : decode b_SQ_powerOff 5 = .ok (.aload_n 0, 1) := by decide +kernel
theorem d_SQ_powerOff_6 : decode b_SQ_powerOff 6 = .ok (.iconst 0, 1) := by decide +kernel
theorem d_SQ_powerOff_7 : decode b_SQ_powerOff 7 = .ok (.putfield 149, 3) := by decide +kernel
theorem d_SQ_powerOff_10 : decode b_SQ_powerOff 10 = .ok (.aload_n 0, 1) := by decide +kernel
theorem d_SQ_powerOff_11 : decode b_SQ_powerOff 11 = .ok (.getfield 19, 3) := by decide +kernel
theorem d_SQ_powerOff_14 : decode b_SQ_powerOff 14 = .ok (.invokevirtual 226, 3) := by decide +kernel
theorem d_SQ_powerOff_17 : decode b_SQ_powerOff 17 = .ok (.aload_n 0, 1) := by decide +kernel
theorem d_SQ_powerOff_18 : decode b_SQ_powerOff 18 = .ok (.getfield 28, 3) := by decide +kernel
theorem d_SQ_powerOff_21 : decode b_SQ_powerOff 21 = .ok (.invokevirtual 229, 3) := by decide +kernel
theorem d_SQ_powerOff_24 : decode b_SQ_powerOff 24 = .ok (.aload_n 0, 1) := by decide +kernel
theorem d_SQ_powerOff_25 : decode b_SQ_powerOff 25 = .ok (.getfield 42, 3) := by decide +kernel
theorem d_SQ_powerOff_28 : decode b_SQ_powerOff 28 = .ok (.invokevirtual 230, 3) := by decide +kernel
theorem d_SQ_powerOff_31 : decode b_SQ_powerOff 31 = .ok (.aload_n 0, 1) := by decide +kernel
theorem d_SQ_powerOff_32 : decode b_SQ_powerOff 32 = .ok (.getfield 12, 3) := by decide +kernel
theorem d_SQ_powerOff_35 : decode b_SQ_powerOff 35 = .ok (.iconst 0, 1) := by decide +kernel
theorem d_SQ_powerOff_36 : decode b_SQ_powerOff 36 = .ok (.putfield 133, 3) := by decide +kernel
theorem d_SQ_powerOff_39 : decode b_SQ_powerOff 39 = .ok (.return_, 1) := by decide +kernel
theorem d_SQ_isLeastInMemory_0 : decode b_SQ_isLeastInMemory 0 = .ok (.aload_n 0, 1) := by decide +kernel
theorem d_SQ_isLeastInMemory_1 : decode b_SQ_isLeastInMemory 1 = .ok (.getfield 19, 3) := by decide +kernel
theorem d_SQ_isLeastInMemory_4 : decode b_SQ_isLeastInMemory 4 = .ok (.invokevirtual 128, 3) := by decide +kernel
theorem d_SQ_isLeastInMemory_7 : decode b_SQ_isLeastInMemory 7 = .ok (.ifCond .le 29, 3) := by decide +kernel
theorem d_SQ_isLeastInMemory_10 : decode b_SQ_isLeastInMemory 10 = .ok (.iload_n 1, 1) := by decide +kernel
theorem d_SQ_isLeastInMemory_11 : decode b_SQ_isLeastInMemory 11 = .ok (.ifCond .lt 21, 3) := by decide +kernel
theorem d_SQ_isLeastInMemory_14 : decode b_SQ_isLeastInMemory 14 = .ok (.aload_n 0, 1) := by decide +kernel
theorem d_SQ_isLeastInMemory_15 : decode b_SQ_isLeastInMemory 15 = .ok (.getfield 19, 3) := by decide +kernel
theorem d_SQ_isLeastInMemory_18 : decode b_SQ_isLeastInMemory 18 = .ok (.invokevirtual 112, 3) := by decide +kernel
theorem d_SQ_isLeastInMemory_21 : decode b_SQ_isLeastInMemory 21 = .ok (.aload_n 0, 1) := by decide +kernel
theorem d_SQ_isLeastInMemory_22 : decode b_SQ_isLeastInMemory 22 = .ok (.getfield 28, 3) := by decide +kernel
theorem d_SQ_isLeastInMemory_25 : decode b_SQ_isLeastInMemory 25 = .ok (.iload_n 1, 1) := by decide +kernel
theorem d_SQ_isLeastInMemory_26 : decode b_SQ_isLeastInMemory 26 = .ok (.invokevirtual 115, 3) := by decide +kernel
theorem d_SQ_isLeastInMemory_29 : decode b_SQ_isLeastInMemory 29 = .ok (.if_icmp .gt 7, 3) := by decide +kernel
theorem d_SQ_isLeastInMemory_32 : decode b_SQ_isLeastInMemory 32 = .ok (.iconst 1, 1) := by decide +kernel
theorem d_SQ_isLeastInMemory_33 : decode b_SQ_isLeastInMemory 33 = .ok (.goto 4, 3) := by decide +kernel
theorem d_SQ_isLeastInMemory_36 : decode b_SQ_isLeastInMemory 36 = .ok (.iconst 0, 1) := by decide +kernel
theorem d_SQ_isLeastInMemory_37 : decode b_SQ_isLeastInMemory 37 = .ok (.ireturn, 1) := by decide +kernel
theorem d_SQ_spill_0 : decode b_SQ_spill 0 = .ok (.aload_n 0, 1) := by decide +kernel
theorem d_SQ_spill_1 : decode b_SQ_spill 1 = .ok (.getfield 28, 3) := by decide +kernel
theorem d_SQ_spill_4 : decode b_SQ_spill 4 = .ok (.getfield 184, 3) := by decide +kernel
theorem d_SQ_spill_7 : decode b_SQ_spill 7 = .ok (.aload_n 0, 1) := by decide +kernel
theorem d_SQ_spill_8 : decode b_SQ_spill 8 = .ok (.getfield 12, 3) := by decide +kernel
theorem d_SQ_spill_11 : decode b_SQ_spill 11 = .ok (.invokevirtual 190, 3) := by decide +kernel
theorem d_SQ_spill_14 : decode b_SQ_spill 14 = .ok (.if_icmp .lt 34, 3) := by decide +kernel
theorem d_SQ_spill_17 : decode b_SQ_spill 17 = .ok (.aload_n 0, 1) := by decide +kernel
theorem d_SQ_spill_18 : decode b_SQ_spill 18 = .ok (.getfield 28, 3) := by decide +kernel
theorem d_SQ_spill_21 : decode b_SQ_spill 21 = .ok (.invokevirtual 231, 3) := by decide +kernel
theorem d_SQ_spill_24 : decode b_SQ_spill 24 = .ok (.aload_n 0, 1) := by decide +kernel
theorem d_SQ_spill_25 : decode b_SQ_spill 25 = .ok (.aload_n 0, 1) := by decide +kernel
theorem d_SQ_spill_26 : decode b_SQ_spill 26 = .ok (.getfield 28, 3) := by decide +kernel
theorem d_SQ_spill_29 : decode b_SQ_spill 29 = .ok (.aload_n 0, 1) := by decide +kernel
theorem d_SQ_spill_30 : decode b_SQ_spill 30 = .ok (.getfield 28, 3) := by decide +kernel
theorem d_SQ_spill_33 : decode b_SQ_spill 33 = .ok (.invokevirtual 234, 3) := by decide +kernel
theorem d_SQ_spill_36 : decode b_SQ_spill 36 = .ok (.iconst 1, 1) := by decide +kernel
theorem d_SQ_spill_37 : decode b_SQ_spill 37 = .ok (.iadd, 1) := by decide +kernel
theorem d_SQ_spill_38 : decode b_SQ_spill 38 = .ok (.invokevirtual 237, 3) := by decide +kernel
theorem d_SQ_spill_41 : decode b_SQ_spill 41 = .ok (.istore_n 1, 1) := by decide +kernel
theorem d_SQ_spill_42 : decode b_SQ_spill 42 = .ok (.iload_n 1, 1) := by decide +kernel
theorem d_SQ_spill_43 : decode b_SQ_spill 43 = .ok (.ifCond .eq 5, 3) := by decide +kernel
theorem d_SQ_spill_46 : decode b_SQ_spill 46 = .ok (.iload_n 1, 1) := by decide +kernel
theorem d_SQ_spill_47 : decode b_SQ_spill 47 = .ok (.ireturn, 1) := by decide +kernel
theorem d_SQ_spill_48 : decode b_SQ_spill 48 = .ok (.aload_n 0, 1) := by decide +kernel
theorem d_SQ_spill_49 : decode b_SQ_spill 49 = .ok (.aload_n 0, 1) := by decide +kernel
theorem d_SQ_spill_50 : decode b_SQ_spill 50 = .ok (.getfield 19, 3) := by decide +kernel
theorem d_SQ_spill_53 : decode b_SQ_spill 53 = .ok (.iconst 0, 1) := by decide +kernel
theorem d_SQ_spill_54 : decode b_SQ_spill 54 = .ok (.invokevirtual 237, 3) := by decide +kernel
theorem d_SQ_spill_57 : decode b_SQ_spill 57 = .ok (.istore_n 1, 1) := by decide +kernel
theorem d_SQ_spill_58 : decode b_SQ_spill 58 = .ok (.iload_n 1, 1) := by decide +kernel
theorem d_SQ_spill_59 : decode b_SQ_spill 59 = .ok (.ifCond .ne 10, 3) := by decide +kernel
theorem d_SQ_spill_62 : decode b_SQ_spill 62 = .ok (.aload_n 0, 1) := by decide +kernel
theorem d_SQ_spill_63 : decode b_SQ_spill 63 = .ok (.invokevirtual 241, 3) := by decide +kernel
end
section
theorem d_SQ_spill_66 : decode b_SQ_spill 66 = .ok (.goto 4, 3) := by decide +kernel
theorem d_SQ_spill_69 : decode b_SQ_spill 69 = .ok (.iload_n 1, 1) := by decide +kernel
theorem d_SQ_spill_70 : decode b_SQ_spill 70 = .ok (.ireturn, 1) := by decide +kernel
theorem d_SQ_mergeCrowdedLevels_0 : decode b_SQ_mergeCrowdedLevels 0 = .ok (.iconst 0, 1) := by decide +kernel
theorem d_SQ_mergeCrowdedLevels_1 : decode b_SQ_mergeCrowdedLevels 1 = .ok (.istore_n 1, 1) := by decide +kernel
theorem d_SQ_mergeCrowdedLevels_2 : decode b_SQ_mergeCrowdedLevels 2 = .ok (.iload_n 1, 1) := by decide +kernel
theorem d_SQ_mergeCrowdedLevels_3 : decode b_SQ_mergeCrowdedLevels 3 = .ok (.bipush 9, 2) := by decide +kernel
theorem d_SQ_mergeCrowdedLevels_5 : decode b_SQ_mergeCrowdedLevels 5 = .ok (.if_icmp .ge 77, 3) := by decide +kernel
theorem d_SQ_mergeCrowdedLevels_8 : decode b_SQ_mergeCrowdedLevels 8 = .ok (.aload_n 0, 1) := by decide +kernel
theorem d_SQ_mergeCrowdedLevels_9 : decode b_SQ_mergeCrowdedLevels 9 = .ok (.getfield 28, 3) := by decide +kernel
theorem d_SQ_mergeCrowdedLevels_12 : decode b_SQ_mergeCrowdedLevels 12 = .ok (.aload_n 0, 1) := by decide +kernel
theorem d_SQ_mergeCrowdedLevels_13 : decode b_SQ_mergeCrowdedLevels 13 = .ok (.getfield 77, 3) := by decide +kernel
theorem d_SQ_mergeCrowdedLevels_16 : decode b_SQ_mergeCrowdedLevels 16 = .ok (.invokevirtual 244, 3) := by decide +kernel
theorem d_SQ_mergeCrowdedLevels_19 : decode b_SQ_mergeCrowdedLevels 19 = .ok (.istore_n 2, 1) := by decide +kernel
theorem d_SQ_mergeCrowdedLevels_20 : decode b_SQ_mergeCrowdedLevels 20 = .ok (.iload_n 2, 1) := by decide +kernel
theorem d_SQ_mergeCrowdedLevels_21 : decode b_SQ_mergeCrowdedLevels 21 = .ok (.ifCond .ge 5, 3) := by decide +kernel
theorem d_SQ_mergeCrowdedLevels_24 : decode b_SQ_mergeCrowdedLevels 24 = .ok (.iconst 0, 1) := by decide +kernel
theorem d_SQ_mergeCrowdedLevels_25 : decode b_SQ_mergeCrowdedLevels 25 = .ok (.ireturn, 1) := by decide +kernel
theorem d_SQ_mergeCrowdedLevels_26 : decode b_SQ_mergeCrowdedLevels 26 = .ok (.aload_n 0, 1) := by decide +kernel
theorem d_SQ_mergeCrowdedLevels_27 : decode b_SQ_mergeCrowdedLevels 27 = .ok (.getfield 28, 3) := by decide +kernel
theorem d_SQ_mergeCrowdedLevels_30 : decode b_SQ_mergeCrowdedLevels 30 = .ok (.getfield 176, 3) := by decide +kernel
theorem d_SQ_mergeCrowdedLevels_33 : decode b_SQ_mergeCrowdedLevels 33 = .ok (.iload_n 2, 1) := by decide +kernel
theorem d_SQ_mergeCrowdedLevels_34 : decode b_SQ_mergeCrowdedLevels 34 = .ok (.iaload, 1) := by decide +kernel
theorem d_SQ_mergeCrowdedLevels_35 : decode b_SQ_mergeCrowdedLevels 35 = .ok (.istore_n 3, 1) := by decide +kernel
theorem d_SQ_mergeCrowdedLevels_36 : decode b_SQ_mergeCrowdedLevels 36 = .ok (.aload_n 0, 1) := by decide +kernel
theorem d_SQ_mergeCrowdedLevels_37 : decode b_SQ_mergeCrowdedLevels 37 = .ok (.getfield 28, 3) := by decide +kernel
theorem d_SQ_mergeCrowdedLevels_40 : decode b_SQ_mergeCrowdedLevels 40 = .ok (.iload_n 3, 1) := by decide +kernel
theorem d_SQ_mergeCrowdedLevels_41 : decode b_SQ_mergeCrowdedLevels 41 = .ok (.invokevirtual 247, 3) := by decide +kernel
theorem d_SQ_mergeCrowdedLevels_44 : decode b_SQ_mergeCrowdedLevels 44 = .ok (.aload_n 0, 1) := by decide +kernel
theorem d_SQ_mergeCrowdedLevels_45 : decode b_SQ_mergeCrowdedLevels 45 = .ok (.aload_n 0, 1) := by decide +kernel
theorem d_SQ_mergeCrowdedLevels_46 : decode b_SQ_mergeCrowdedLevels 46 = .ok (.getfield 28, 3) := by decide +kernel
theorem d_SQ_mergeCrowdedLevels_49 : decode b_SQ_mergeCrowdedLevels 49 = .ok (.iload_n 3, 1) := by decide +kernel
theorem d_SQ_mergeCrowdedLevels_50 : decode b_SQ_mergeCrowdedLevels 50 = .ok (.iconst 1, 1) := by decide +kernel
theorem d_SQ_mergeCrowdedLevels_51 : decode b_SQ_mergeCrowdedLevels 51 = .ok (.iadd, 1) := by decide +kernel
theorem d_SQ_mergeCrowdedLevels_52 : decode b_SQ_mergeCrowdedLevels 52 = .ok (.invokevirtual 237, 3) := by decide +kernel
theorem d_SQ_mergeCrowdedLevels_55 : decode b_SQ_mergeCrowdedLevels 55 = .ok (.istore 4, 2) := by decide +kernel
theorem d_SQ_mergeCrowdedLevels_57 : decode b_SQ_mergeCrowdedLevels 57 = .ok (.iload 4, 2) := by decide +kernel
theorem d_SQ_mergeCrowdedLevels_59 : decode b_SQ_mergeCrowdedLevels 59 = .ok (.ifCond .eq 17, 3) := by decide +kernel
theorem d_SQ_mergeCrowdedLevels_62 : decode b_SQ_mergeCrowdedLevels 62 = .ok (.iload 4, 2) := by decide +kernel
theorem d_SQ_mergeCrowdedLevels_64 : decode b_SQ_mergeCrowdedLevels 64 = .ok (.bipush (-2), 2) := by decide +kernel
theorem d_SQ_mergeCrowdedLevels_66 : decode b_SQ_mergeCrowdedLevels 66 = .ok (.if_icmp .ne 7, 3) := by decide +kernel
theorem d_SQ_mergeCrowdedLevels_69 : decode b_SQ_mergeCrowdedLevels 69 = .ok (.iconst 0, 1) := by decide +kernel
theorem d_SQ_mergeCrowdedLevels_70 : decode b_SQ_mergeCrowdedLevels 70 = .ok (.goto 5, 3) := by decide +kernel
theorem d_SQ_mergeCrowdedLevels_73 : decode b_SQ_mergeCrowdedLevels 73 = .ok (.iload 4, 2) := by decide +kernel
theorem d_SQ_mergeCrowdedLevels_75 : decode b_SQ_mergeCrowdedLevels 75 = .ok (.ireturn, 1) := by decide +kernel
theorem d_SQ_mergeCrowdedLevels_76 : decode b_SQ_mergeCrowdedLevels 76 = .ok (.iinc 1 1, 3) := by decide +kernel
theorem d_SQ_mergeCrowdedLevels_79 : decode b_SQ_mergeCrowdedLevels 79 = .ok (.goto (-77), 3) := by decide +kernel
theorem d_SQ_mergeCrowdedLevels_82 : decode b_SQ_mergeCrowdedLevels 82 = .ok (.iconst 0, 1) := by decide +kernel
theorem d_SQ_mergeCrowdedLevels_83 : decode b_SQ_mergeCrowdedLevels 83 = .ok (.ireturn, 1) := by decide +kernel
theorem d_SQ_makeRun_0 : decode b_SQ_makeRun 0 = .ok (.aload_n 1, 1) := by decide +kernel
theorem d_SQ_makeRun_1 : decode b_SQ_makeRun 1 = .ok (.invokevirtual 250, 3) := by decide +kernel
theorem d_SQ_makeRun_4 : decode b_SQ_makeRun 4 = .ok (.istore_n 3, 1) := by decide +kernel
theorem d_SQ_makeRun_5 : decode b_SQ_makeRun 5 = .ok (.aload_n 0, 1) := by decide +kernel
theorem d_SQ_makeRun_6 : decode b_SQ_makeRun 6 = .ok (.getfield 12, 3) := by decide +kernel
theorem d_SQ_makeRun_9 : decode b_SQ_makeRun 9 = .ok (.iload_n 3, 1) := by decide +kernel
theorem d_SQ_makeRun_10 : decode b_SQ_makeRun 10 = .ok (.invokevirtual 179, 3) := by decide +kernel
theorem d_SQ_makeRun_13 : decode b_SQ_makeRun 13 = .ok (.istore 4, 2) := by decide +kernel
theorem d_SQ_makeRun_15 : decode b_SQ_makeRun 15 = .ok (.iload 4, 2) := by decide +kernel
theorem d_SQ_makeRun_17 : decode b_SQ_makeRun 17 = .ok (.iconst 1, 1) := by decide +kernel
theorem d_SQ_makeRun_18 : decode b_SQ_makeRun 18 = .ok (.if_icmp .lt 12, 3) := by decide +kernel
theorem d_SQ_makeRun_21 : decode b_SQ_makeRun 21 = .ok (.aload_n 0, 1) := by decide +kernel
theorem d_SQ_makeRun_22 : decode b_SQ_makeRun 22 = .ok (.invokevirtual 187, 3) := by decide +kernel
theorem d_SQ_makeRun_25 : decode b_SQ_makeRun 25 = .ok (.iload 4, 2) := by decide +kernel
theorem d_SQ_makeRun_27 : decode b_SQ_makeRun 27 = .ok (.if_icmp .ge 6, 3) := by decide +kernel
theorem d_SQ_makeRun_30 : decode b_SQ_makeRun 30 = .ok (.bipush (-2), 2) := by decide +kernel
theorem d_SQ_makeRun_32 : decode b_SQ_makeRun 32 = .ok (.ireturn, 1) := by decide +kernel
theorem d_SQ_makeRun_33 : decode b_SQ_makeRun 33 = .ok (.aload_n 0, 1) := by decide +kernel
theorem d_SQ_makeRun_34 : decode b_SQ_makeRun 34 = .ok (.getfield 12, 3) := by decide +kernel
theorem d_SQ_makeRun_37 : decode b_SQ_makeRun 37 = .ok (.invokevirtual 253, 3) := by decide +kernel
theorem d_SQ_makeRun_40 : decode b_SQ_makeRun 40 = .ok (.istore 5, 2) := by decide +kernel
theorem d_SQ_makeRun_42 : decode b_SQ_makeRun 42 = .ok (.iconst 0, 1) := by decide +kernel
theorem d_SQ_makeRun_43 : decode b_SQ_makeRun 43 = .ok (.istore 6, 2) := by decide +kernel
theorem d_SQ_makeRun_45 : decode b_SQ_makeRun 45 = .ok (.iload 6, 2) := by decide +kernel
theorem d_SQ_makeRun_47 : decode b_SQ_makeRun 47 = .ok (.iload 4, 2) := by decide +kernel
theorem d_SQ_makeRun_49 : decode b_SQ_makeRun 49 = .ok (.if_icmp .ge 115, 3) := by decide +kernel
theorem d_SQ_makeRun_52 : decode b_SQ_makeRun 52 = .ok (.aload_n 0, 1) := by decide +kernel
theorem d_SQ_makeRun_53 : decode b_SQ_makeRun 53 = .ok (.getfield 12, 3) := by decide +kernel
theorem d_SQ_makeRun_56 : decode b_SQ_makeRun 56 = .ok (.invokevirtual 256, 3) := by decide +kernel
theorem d_SQ_makeRun_59 : decode b_SQ_makeRun 59 = .ok (.aload_n 0, 1) := by decide +kernel
theorem d_SQ_makeRun_60 : decode b_SQ_makeRun 60 = .ok (.getfield 12, 3) := by decide +kernel
theorem d_SQ_makeRun_63 : decode b_SQ_makeRun 63 = .ok (.iconst 1, 1) := by decide +kernel
theorem d_SQ_makeRun_64 : decode b_SQ_makeRun 64 = .ok (.iload 6, 2) := by decide +kernel
theorem d_SQ_makeRun_66 : decode b_SQ_makeRun 66 = .ok (.iconst 1, 1) := by decide +kernel
theorem d_SQ_makeRun_67 : decode b_SQ_makeRun 67 = .ok (.iadd, 1) := by decide +kernel
theorem d_SQ_makeRun_68 : decode b_SQ_makeRun 68 = .ok (.iload 4, 2) := by decide +kernel
theorem d_SQ_makeRun_70 : decode b_SQ_makeRun 70 = .ok (.if_icmp .ge 15, 3) := by decide +kernel
theorem d_SQ_makeRun_73 : decode b_SQ_makeRun 73 = .ok (.aload_n 0, 1) := by decide +kernel
theorem d_SQ_makeRun_74 : decode b_SQ_makeRun 74 = .ok (.getfield 49, 3) := by decide +kernel
theorem d_SQ_makeRun_77 : decode b_SQ_makeRun 77 = .ok (.iload 6, 2) := by decide +kernel
theorem d_SQ_makeRun_79 : decode b_SQ_makeRun 79 = .ok (.iconst 1, 1) := by decide +kernel
theorem d_SQ_makeRun_80 : decode b_SQ_makeRun 80 = .ok (.iadd, 1) := by decide +kernel
theorem d_SQ_makeRun_81 : decode b_SQ_makeRun 81 = .ok (.iaload, 1) := by decide +kernel
theorem d_SQ_makeRun_82 : decode b_SQ_makeRun 82 = .ok (.goto 4, 3) := by decide +kernel
theorem d_SQ_makeRun_85 : decode b_SQ_makeRun 85 = .ok (.iconst 0, 1) := by decide +kernel
theorem d_SQ_makeRun_86 : decode b_SQ_makeRun 86 = .ok (.invokevirtual 259, 3) := by decide +kernel
theorem d_SQ_makeRun_89 : decode b_SQ_makeRun 89 = .ok (.iload 5, 2) := by decide +kernel
theorem d_SQ_makeRun_91 : decode b_SQ_makeRun 91 = .ok (.iload_n 3, 1) := by decide +kernel
theorem d_SQ_makeRun_92 : decode b_SQ_makeRun 92 = .ok (.iload 6, 2) := by decide +kernel
theorem d_SQ_makeRun_94 : decode b_SQ_makeRun 94 = .ok (.iload 5, 2) := by decide +kernel
theorem d_SQ_makeRun_96 : decode b_SQ_makeRun 96 = .ok (.imul, 1) := by decide +kernel
theorem d_SQ_makeRun_97 : decode b_SQ_makeRun 97 = .ok (.isub, 1) := by decide +kernel
theorem d_SQ_makeRun_98 : decode b_SQ_makeRun 98 = .ok (.invokestatic 262, 3) := by decide +kernel
theorem d_SQ_makeRun_101 : decode b_SQ_makeRun 101 = .ok (.istore 7, 2) := by decide +kernel
theorem d_SQ_makeRun_103 : decode b_SQ_makeRun 103 = .ok (.iconst 0, 1) := by decide +kernel
theorem d_SQ_makeRun_104 : decode b_SQ_makeRun 104 = .ok (.istore 8, 2) := by decide +kernel
theorem d_SQ_makeRun_106 : decode b_SQ_makeRun 106 = .ok (.iload 8, 2) := by decide +kernel
theorem d_SQ_makeRun_108 : decode b_SQ_makeRun 108 = .ok (.iload 7, 2) := by decide +kernel
theorem d_SQ_makeRun_110 : decode b_SQ_makeRun 110 = .ok (.if_icmp .ge 24, 3) := by decide +kernel
theorem d_SQ_makeRun_113 : decode b_SQ_makeRun 113 = .ok (.aload_n 0, 1) := by decide +kernel
theorem d_SQ_makeRun_114 : decode b_SQ_makeRun 114 = .ok (.getfield 12, 3) := by decide +kernel
theorem d_SQ_makeRun_117 : decode b_SQ_makeRun 117 = .ok (.iconst 2, 1) := by decide +kernel
theorem d_SQ_makeRun_118 : decode b_SQ_makeRun 118 = .ok (.iload 8, 2) := by decide +kernel
theorem d_SQ_makeRun_120 : decode b_SQ_makeRun 120 = .ok (.iadd, 1) := by decide +kernel
theorem d_SQ_makeRun_121 : decode b_SQ_makeRun 121 = .ok (.aload_n 1, 1) := by decide +kernel
theorem d_SQ_makeRun_122 : decode b_SQ_makeRun 122 = .ok (.invokevirtual 267, 3) := by decide +kernel
theorem d_SQ_makeRun_125 : decode b_SQ_makeRun 125 = .ok (.invokevirtual 259, 3) := by decide +kernel
theorem d_SQ_makeRun_128 : decode b_SQ_makeRun 128 = .ok (.iinc 8 1, 3) := by decide +kernel
theorem d_SQ_makeRun_131 : decode b_SQ_makeRun 131 = .ok (.goto (-25), 3) := by decide +kernel
theorem d_SQ_makeRun_134 : decode b_SQ_makeRun 134 = .ok (.aload_n 0, 1) := by decide +kernel
theorem d_SQ_makeRun_135 : decode b_SQ_makeRun 135 = .ok (.getfield 12, 3) := by decide +kernel
theorem d_SQ_makeRun_138 : decode b_SQ_makeRun 138 = .ok (.aload_n 0, 1) := by decide +kernel
theorem d_SQ_makeRun_139 : decode b_SQ_makeRun 139 = .ok (.getfield 49, 3) := by decide +kernel
theorem d_SQ_makeRun_142 : decode b_SQ_makeRun 142 = .ok (.iload 6, 2) := by decide +kernel
theorem d_SQ_makeRun_144 : decode b_SQ_makeRun 144 = .ok (.iaload, 1) := by decide +kernel
theorem d_SQ_makeRun_145 : decode b_SQ_makeRun 145 = .ok (.invokevirtual 268, 3) := by decide +kernel
theorem d_SQ_makeRun_148 : decode b_SQ_makeRun 148 = .ok (.ifCond .ne 10, 3) := by decide +kernel
theorem d_SQ_makeRun_151 : decode b_SQ_makeRun 151 = .ok (.aload_n 0, 1) := by decide +kernel
theorem d_SQ_makeRun_152 : decode b_SQ_makeRun 152 = .ok (.invokevirtual 66, 3) := by decide +kernel
theorem d_SQ_makeRun_155 : decode b_SQ_makeRun 155 = .ok (.bipush (-9), 2) := by decide +kernel
theorem d_SQ_makeRun_157 : decode b_SQ_makeRun 157 = .ok (.ireturn, 1) := by decide +kernel
theorem d_SQ_makeRun_158 : decode b_SQ_makeRun 158 = .ok (.iinc 6 1, 3) := by decide +kernel
theorem d_SQ_makeRun_161 : decode b_SQ_makeRun 161 = .ok (.goto (-116), 3) := by decide +kernel
theorem d_SQ_makeRun_164 : decode b_SQ_makeRun 164 = .ok (.aload_n 0, 1) := by decide +kernel
theorem d_SQ_makeRun_165 : decode b_SQ_makeRun 165 = .ok (.getfield 28, 3) := by decide +kernel
theorem d_SQ_makeRun_168 : decode b_SQ_makeRun 168 = .ok (.invokevirtual 125, 3) := by decide +kernel
theorem d_SQ_makeRun_171 : decode b_SQ_makeRun 171 = .ok (.aload_n 0, 1) := by decide +kernel
theorem d_SQ_makeRun_172 : decode b_SQ_makeRun 172 = .ok (.getfield 28, 3) := by decide +kernel
theorem d_SQ_makeRun_175 : decode b_SQ_makeRun 175 = .ok (.aload_n 0, 1) := by decide +kernel
theorem d_SQ_makeRun_176 : decode b_SQ_makeRun 176 = .ok (.getfield 49, 3) := by decide +kernel
theorem d_SQ_makeRun_179 : decode b_SQ_makeRun 179 = .ok (.iconst 0, 1) := by decide +kernel
theorem d_SQ_makeRun_180 : decode b_SQ_makeRun 180 = .ok (.iaload, 1) := by decide +kernel
theorem d_SQ_makeRun_181 : decode b_SQ_makeRun 181 = .ok (.iconst 0, 1) := by decide +kernel
theorem d_SQ_makeRun_182 : decode b_SQ_makeRun 182 = .ok (.iload_n 3, 1) := by decide +kernel
theorem d_SQ_makeRun_183 : decode b_SQ_makeRun 183 = .ok (.iload_n 2, 1) := by decide +kernel
theorem d_SQ_makeRun_184 : decode b_SQ_makeRun 184 = .ok (.invokevirtual 271, 3) := by decide +kernel
theorem d_SQ_makeRun_187 : decode b_SQ_makeRun 187 = .ok (.iconst 0, 1) := by decide +kernel
theorem d_SQ_makeRun_188 : decode b_SQ_makeRun 188 = .ok (.ireturn, 1) := by decide +kernel
theorem d_SQ_gatherFree_0 : decode b_SQ_gatherFree 0 = .ok (.aload_n 0, 1) := by decide +kernel
theorem d_SQ_gatherFree_1 : decode b_SQ_gatherFree 1 = .ok (.getfield 46, 3) := by decide +kernel
theorem d_SQ_gatherFree_4 : decode b_SQ_gatherFree 4 = .ok (.aload_n 0, 1) := by decide +kernel
theorem d_SQ_gatherFree_5 : decode b_SQ_gatherFree 5 = .ok (.getfield 42, 3) := by decide +kernel
theorem d_SQ_gatherFree_8 : decode b_SQ_gatherFree 8 = .ok (.invokevirtual 274, 3) := by decide +kernel
theorem d_SQ_gatherFree_11 : decode b_SQ_gatherFree 11 = .ok (.aload_n 0, 1) := by decide +kernel
theorem d_SQ_gatherFree_12 : decode b_SQ_gatherFree 12 = .ok (.getfield 28, 3) := by decide +kernel
theorem d_SQ_gatherFree_15 : decode b_SQ_gatherFree 15 = .ok (.aload_n 0, 1) := by decide +kernel
theorem d_SQ_gatherFree_16 : decode b_SQ_gatherFree 16 = .ok (.getfield 46, 3) := by decide +kernel
theorem d_SQ_gatherFree_19 : decode b_SQ_gatherFree 19 = .ok (.invokevirtual 152, 3) := by decide +kernel
theorem d_SQ_gatherFree_22 : decode b_SQ_gatherFree 22 = .ok (.iconst 0, 1) := by decide +kernel
theorem d_SQ_gatherFree_23 : decode b_SQ_gatherFree 23 = .ok (.istore_n 1, 1) := by decide +kernel
theorem d_SQ_gatherFree_24 : decode b_SQ_gatherFree 24 = .ok (.iconst 2, 1) := by decide +kernel
theorem d_SQ_gatherFree_25 : decode b_SQ_gatherFree 25 = .ok (.istore_n 2, 1) := by decide +kernel
theorem d_SQ_gatherFree_26 : decode b_SQ_gatherFree 26 = .ok (.iload_n 2, 1) := by decide +kernel
theorem d_SQ_gatherFree_27 : decode b_SQ_gatherFree 27 = .ok (.aload_n 0, 1) := by decide +kernel
theorem d_SQ_gatherFree_28 : decode b_SQ_gatherFree 28 = .ok (.getfield 12, 3) := by decide +kernel
theorem d_SQ_gatherFree_31 : decode b_SQ_gatherFree 31 = .ok (.getfield 216, 3) := by decide +kernel
theorem d_SQ_gatherFree_34 : decode b_SQ_gatherFree 34 = .ok (.if_icmp .ge 39, 3) := by decide +kernel
theorem d_SQ_gatherFree_37 : decode b_SQ_gatherFree 37 = .ok (.iload_n 1, 1) := by decide +kernel
theorem d_SQ_gatherFree_38 : decode b_SQ_gatherFree 38 = .ok (.aload_n 0, 1) := by decide +kernel
theorem d_SQ_gatherFree_39 : decode b_SQ_gatherFree 39 = .ok (.getfield 49, 3) := by decide +kernel
theorem d_SQ_gatherFree_42 : decode b_SQ_gatherFree 42 = .ok (.arraylength, 1) := by decide +kernel
theorem d_SQ_gatherFree_43 : decode b_SQ_gatherFree 43 = .ok (.if_icmp .ge 30, 3) := by decide +kernel
theorem d_SQ_gatherFree_46 : decode b_SQ_gatherFree 46 = .ok (.aload_n 0, 1) := by decide +kernel
theorem d_SQ_gatherFree_47 : decode b_SQ_gatherFree 47 = .ok (.getfield 46, 3) := by decide +kernel
theorem d_SQ_gatherFree_50 : decode b_SQ_gatherFree 50 = .ok (.iload_n 2, 1) := by decide +kernel
theorem d_SQ_gatherFree_51 : decode b_SQ_gatherFree 51 = .ok (.invokevirtual 277, 3) := by decide +kernel
theorem d_SQ_gatherFree_54 : decode b_SQ_gatherFree 54 = .ok (.ifCond .ne 13, 3) := by decide +kernel
theorem d_SQ_gatherFree_57 : decode b_SQ_gatherFree 57 = .ok (.aload_n 0, 1) := by decide +kernel
theorem d_SQ_gatherFree_58 : decode b_SQ_gatherFree 58 = .ok (.getfield 49, 3) := by decide +kernel
theorem d_SQ_gatherFree_61 : decode b_SQ_gatherFree 61 = .ok (.iload_n 1, 1) := by decide +kernel
theorem d_SQ_gatherFree_62 : decode b_SQ_gatherFree 62 = .ok (.iload_n 2, 1) := by decide +kernel
theorem d_SQ_gatherFree_63 : decode b_SQ_gatherFree 63 = .ok (.iastore, 1) := by decide +kernel
theorem d_SQ_gatherFree_64 : decode b_SQ_gatherFree 64 = .ok (.iinc 1 1, 3) := by decide +kernel
theorem d_SQ_gatherFree_67 : decode b_SQ_gatherFree 67 = .ok (.iinc 2 1, 3) := by decide +kernel
theorem d_SQ_gatherFree_70 : decode b_SQ_gatherFree 70 = .ok (.goto (-44), 3) := by decide +kernel
theorem d_SQ_gatherFree_73 : decode b_SQ_gatherFree 73 = .ok (.iload_n 1, 1) := by decide +kernel
theorem d_SQ_gatherFree_74 : decode b_SQ_gatherFree 74 = .ok (.ireturn, 1) := by decide +kernel
theorem d_SQ_writeNextEpoch_0 : decode b_SQ_writeNextEpoch 0 = .ok (.aload_n 0, 1) := by decide +kernel
theorem d_SQ_writeNextEpoch_1 : decode b_SQ_writeNextEpoch 1 = .ok (.dup, 1) := by decide +kernel
theorem d_SQ_writeNextEpoch_2 : decode b_SQ_writeNextEpoch 2 = .ok (.getfield 149, 3) := by decide +kernel
theorem d_SQ_writeNextEpoch_5 : decode b_SQ_writeNextEpoch 5 = .ok (.iconst 1, 1) := by decide +kernel
theorem d_SQ_writeNextEpoch_6 : decode b_SQ_writeNextEpoch 6 = .ok (.iadd, 1) := by decide +kernel
theorem d_SQ_writeNextEpoch_7 : decode b_SQ_writeNextEpoch 7 = .ok (.putfield 149, 3) := by decide +kernel
theorem d_SQ_writeNextEpoch_10 : decode b_SQ_writeNextEpoch 10 = .ok (.aload_n 0, 1) := by decide +kernel
theorem d_SQ_writeNextEpoch_11 : decode b_SQ_writeNextEpoch 11 = .ok (.getfield 35, 3) := by decide +kernel
theorem d_SQ_writeNextEpoch_14 : decode b_SQ_writeNextEpoch 14 = .ok (.aload_n 0, 1) := by decide +kernel
theorem d_SQ_writeNextEpoch_15 : decode b_SQ_writeNextEpoch 15 = .ok (.getfield 149, 3) := by decide +kernel
theorem d_SQ_writeNextEpoch_18 : decode b_SQ_writeNextEpoch 18 = .ok (.aload_n 0, 1) := by decide +kernel
theorem d_SQ_writeNextEpoch_19 : decode b_SQ_writeNextEpoch 19 = .ok (.getfield 28, 3) := by decide +kernel
theorem d_SQ_writeNextEpoch_22 : decode b_SQ_writeNextEpoch 22 = .ok (.invokevirtual 278, 3) := by decide +kernel
theorem d_SQ_writeNextEpoch_25 : decode b_SQ_writeNextEpoch 25 = .ok (.ifCond .ne 10, 3) := by decide +kernel
theorem d_SQ_writeNextEpoch_28 : decode b_SQ_writeNextEpoch 28 = .ok (.aload_n 0, 1) := by decide +kernel
theorem d_SQ_writeNextEpoch_29 : decode b_SQ_writeNextEpoch 29 = .ok (.invokevirtual 66, 3) := by decide +kernel
theorem d_SQ_writeNextEpoch_32 : decode b_SQ_writeNextEpoch 32 = .ok (.bipush (-9), 2) := by decide +kernel
theorem d_SQ_writeNextEpoch_34 : decode b_SQ_writeNextEpoch 34 = .ok (.ireturn, 1) := by decide +kernel
theorem d_SQ_writeNextEpoch_35 : decode b_SQ_writeNextEpoch 35 = .ok (.aload_n 0, 1) := by decide +kernel
theorem d_SQ_writeNextEpoch_36 : decode b_SQ_writeNextEpoch 36 = .ok (.getfield 42, 3) := by decide +kernel
theorem d_SQ_writeNextEpoch_39 : decode b_SQ_writeNextEpoch 39 = .ok (.invokevirtual 230, 3) := by decide +kernel
theorem d_SQ_writeNextEpoch_42 : decode b_SQ_writeNextEpoch 42 = .ok (.aload_n 0, 1) := by decide +kernel
theorem d_SQ_writeNextEpoch_43 : decode b_SQ_writeNextEpoch 43 = .ok (.getfield 28, 3) := by decide +kernel
theorem d_SQ_writeNextEpoch_46 : decode b_SQ_writeNextEpoch 46 = .ok (.aload_n 0, 1) := by decide +kernel
theorem d_SQ_writeNextEpoch_47 : decode b_SQ_writeNextEpoch 47 = .ok (.getfield 42, 3) := by decide +kernel
theorem d_SQ_writeNextEpoch_50 : decode b_SQ_writeNextEpoch 50 = .ok (.invokevirtual 152, 3) := by decide +kernel
theorem d_SQ_writeNextEpoch_53 : decode b_SQ_writeNextEpoch 53 = .ok (.iconst 0, 1) := by decide +kernel
theorem d_SQ_writeNextEpoch_54 : decode b_SQ_writeNextEpoch 54 = .ok (.ireturn, 1) := by decide +kernel
theorem d_AR_fill_0 : decode b_AR_fill 0 = .ok (.iconst 0, 1) := by decide +kernel
theorem d_AR_fill_1 : decode b_AR_fill 1 = .ok (.istore_n 2, 1) := by decide +kernel
theorem d_AR_fill_2 : decode b_AR_fill 2 = .ok (.aload_n 0, 1) := by decide +kernel
theorem d_AR_fill_3 : decode b_AR_fill 3 = .ok (.arraylength, 1) := by decide +kernel
theorem d_AR_fill_4 : decode b_AR_fill 4 = .ok (.istore_n 3, 1) := by decide +kernel
theorem d_AR_fill_5 : decode b_AR_fill 5 = .ok (.iload_n 2, 1) := by decide +kernel
theorem d_AR_fill_6 : decode b_AR_fill 6 = .ok (.iload_n 3, 1) := by decide +kernel
theorem d_AR_fill_7 : decode b_AR_fill 7 = .ok (.if_icmp .ge 13, 3) := by decide +kernel
theorem d_AR_fill_10 : decode b_AR_fill 10 = .ok (.aload_n 0, 1) := by decide +kernel
theorem d_AR_fill_11 : decode b_AR_fill 11 = .ok (.iload_n 2, 1) := by decide +kernel
theorem d_AR_fill_12 : decode b_AR_fill 12 = .ok (.iload_n 1, 1) := by decide +kernel
theorem d_AR_fill_13 : decode b_AR_fill 13 = .ok (.iastore, 1) := by decide +kernel
theorem d_AR_fill_14 : decode b_AR_fill 14 = .ok (.iinc 2 1, 3) := by decide +kernel
theorem d_AR_fill_17 : decode b_AR_fill 17 = .ok (.goto (-12), 3) := by decide +kernel
theorem d_AR_fill_20 : decode b_AR_fill 20 = .ok (.return_, 1) := by decide +kernel
end
section
/-! The walk's judgement over worlds and lists of locals alone: heap, written places and slots are hidden. -/
abbrev gX := va_G × ClassId × ClassId × ClassId
def gT (X : gX) : List (ClassId × FieldType) := [(X.2.1, .int), (X.2.2.1, .boolean), (X.2.2.2, .long)]
abbrev gE := ((Program × Launch × Env × Room) × (State × MethodId × Array Value × List Frame × Method × Code)) × ((State → Prop) × (Nat → Prop) × Heap × Nat)
def gW (X : gX) (E : gE) (cells slots : Nat) (ws : va_W) (lv : List (Nat × Value)) (pc : Nat) (st : List Value) : Prop := match E with
  | (((p, l, e, R), (s, m, args, below, meth, c)), (Q, A, H0, nL)) => ∀ (H : Heap) (locs : List Loc) (ls : Array Slot), va_P X.1 vwCl ws H → va_D A ws → va_S A H0 H locs → lv_has ls nL lv → W p l e R s m args below meth c H locs cells slots Q (F0 m pc ls st)
/-- what a walk stands on: the machine, the code, the words and the nest's words, the classes -/
def gC (X : gX) (E : gE) (cc : ByteArray) (nL0 : Nat) (own : String) : Prop := match E with
  | (((p, _, _, _), (s, m, args, _, _, c)), (_, A, H0, nL)) => (p.tables.exec = Jvm.exec ∧ c.code = cc ∧ c.maxLocals = nL ∧ s.vm.findClass own = some m.cls ∧ ∀ w ∈ gTs, w.before args s = true) ∧ va_K X.1 vwCl (gT X) s ∧ (∀ w ∈ gNl, va_Nw w s) ∧ (∀ q, H0.size ≤ q → A q) ∧ nL = nL0
/-- a place of a list -/
theorem gm {α : Type} {l : List α} {a : α} (i : Nat) (h : l[i]? = some a) : a ∈ l := List.mem_of_getElem? h
/-- locals in the order of their numbers -/
def lins : List (Nat × Value) → Nat → Value → List (Nat × Value)
  | [], i, v => [(i, v)]
  | (j, x) :: t, i, v => bif Nat.blt i j then (i, v) :: (j, x) :: t else (j, x) :: lins t i v
theorem lins_mem : ∀ (l : List (Nat × Value)) (i : Nat) (v : Value) (q : Nat × Value), q ∈ lins l i v → q = (i, v) ∨ q ∈ l
  | [], i, v, q, h => Or.inl (by simpa [lins] using h)
  | (j, x) :: t, i, v, q, h => by
    unfold lins at h
    cases hb : Nat.blt i j with
    | true =>
      rw [hb] at h
      rcases List.mem_cons.mp h with h | h
      · exact Or.inl h
      · exact Or.inr h
    | false =>
      rw [hb] at h
      rcases List.mem_cons.mp h with h | h
      · exact Or.inr (by rw [h]; exact List.mem_cons_self)
      · rcases lins_mem t i v q h with h | h
        · exact Or.inl h
        · exact Or.inr (List.mem_cons_of_mem _ h)
def lset (lv : List (Nat × Value)) (i : Nat) (v : Value) : List (Nat × Value) := lins (lv.filter (fun q => !(q.1 == i) && !(q.1 + 1 == i && q.2.category == 2))) i v
theorem lset_has {ls : Array Slot} {nL i : Nat} {v : Value} {lv lv' : List (Nat × Value)} (h : lv_has ls nL ((i, v) :: lv.filter (fun q => !(q.1 == i) && !(q.1 + 1 == i && q.2.category == 2)))) (e : lset lv i v = lv') : lv_has ls nL lv' := by
  subst e
  refine ⟨h.1, h.2.1, fun q hq => h.2.2 q ?_⟩
  rcases lins_mem _ _ _ _ hq with h | h
  · rw [h]; exact List.mem_cons_self
  · exact List.mem_cons_of_mem _ h
section GW
variable {X : gX} {E : gE} {cc : ByteArray} {nL0 : Nat} {own : String} {cells slots pc : Nat} {ws : va_W} {lv : List (Nat × Value)} {st : List Value}
theorem g_iconst (C : gC X E cc nL0 own) {n : Int} (v : Int32) (hdg : decode cc pc = .ok (.iconst n, 1)) (hv : Int32.ofInt n = v) (kk : gW X E cells slots ws lv (pc + 1) (.int v :: st)) : gW X E cells slots ws lv pc st := by
  obtain ⟨⟨⟨p, l, e, R⟩, s, m, args, below, meth, c⟩, Q, A, H0, nL⟩ := E
  obtain ⟨⟨hx, hb, hml, hown, hts⟩, hK, hN, hA, hn0⟩ := C
  intro H locs ls hP hD hS hl
  exact lv_iconst hx hb hdg hv (kk H locs ls hP hD hS hl)
theorem g_bipush (C : gC X E cc nL0 own) {n : Int} (v : Int32) (hdg : decode cc pc = .ok (.bipush n, 2)) (hv : (Int8.ofInt n).toInt32 = v) (kk : gW X E cells slots ws lv (pc + 2) (.int v :: st)) : gW X E cells slots ws lv pc st := by
  obtain ⟨⟨⟨p, l, e, R⟩, s, m, args, below, meth, c⟩, Q, A, H0, nL⟩ := E
  obtain ⟨⟨hx, hb, hml, hown, hts⟩, hK, hN, hA, hn0⟩ := C
  intro H locs ls hP hD hS hl
  exact lv_bipush hx hb hdg hv (kk H locs ls hP hD hS hl)
theorem g_sipush (C : gC X E cc nL0 own) {n : Int} (v : Int32) (hdg : decode cc pc = .ok (.sipush n, 3)) (hv : (Int16.ofInt n).toInt32 = v) (kk : gW X E cells slots ws lv (pc + 3) (.int v :: st)) : gW X E cells slots ws lv pc st := by
  obtain ⟨⟨⟨p, l, e, R⟩, s, m, args, below, meth, c⟩, Q, A, H0, nL⟩ := E
  obtain ⟨⟨hx, hb, hml, hown, hts⟩, hK, hN, hA, hn0⟩ := C
  intro H locs ls hP hD hS hl
  exact lv_sipush hx hb hdg hv (kk H locs ls hP hD hS hl)
theorem g_ldc (C : gC X E cc nL0 own) {index : Nat} (v : Int32) (hc : Jvm.Cond.constant own index v ∈ gTs) (hdg : decode cc pc = .ok (.ldc index, 2)) (kk : gW X E cells slots ws lv (pc + 2) (.int v :: st)) : gW X E cells slots ws lv pc st := by
  obtain ⟨⟨⟨p, l, e, R⟩, s, m, args, below, meth, c⟩, Q, A, H0, nL⟩ := E
  obtain ⟨⟨hx, hb, hml, hown, hts⟩, hK, hN, hA, hn0⟩ := C
  intro H locs ls hP hD hS hl
  exact lv_ldc hx hb hown (hts _ hc) hdg (kk H locs ls hP hD hS hl)
theorem g_iload_n (C : gC X E cc nL0 own) {k : Fin 4} {i : Nat} {x : Int32} (hdg : decode cc pc = .ok (.iload_n k, 1)) (hi : (k : Nat) = i) (j : Nat) (hj : lv[j]? = some (i, .int x)) (kk : gW X E cells slots ws lv (pc + 1) (.int x :: st)) : gW X E cells slots ws lv pc st := by
  obtain ⟨⟨⟨p, l, e, R⟩, s, m, args, below, meth, c⟩, Q, A, H0, nL⟩ := E
  obtain ⟨⟨hx, hb, hml, hown, hts⟩, hK, hN, hA, hn0⟩ := C
  intro H locs ls hP hD hS hl
  exact lv_iload_n hx hb hdg hi (lv_at hl j hj) (kk H locs ls hP hD hS hl)
theorem g_iload (C : gC X E cc nL0 own) {i : Nat} {x : Int32} (hdg : decode cc pc = .ok (.iload i, 2)) (j : Nat) (hj : lv[j]? = some (i, .int x)) (kk : gW X E cells slots ws lv (pc + 2) (.int x :: st)) : gW X E cells slots ws lv pc st := by
  obtain ⟨⟨⟨p, l, e, R⟩, s, m, args, below, meth, c⟩, Q, A, H0, nL⟩ := E
  obtain ⟨⟨hx, hb, hml, hown, hts⟩, hK, hN, hA, hn0⟩ := C
  intro H locs ls hP hD hS hl
  exact lv_iload hx hb hdg (lv_at hl j hj) (kk H locs ls hP hD hS hl)
theorem g_istore_n (C : gC X E cc nL0 own) {k : Fin 4} {i : Nat} {x : Int32} {lv2 : List (Nat × Value)} (hdg : decode cc pc = .ok (.istore_n k, 1)) (hi : (k : Nat) = i) (hn : i < nL0) (e2 : lset lv i (.int x) = lv2) (kk : gW X E cells slots ws lv2 (pc + 1) st) : gW X E cells slots ws lv pc (.int x :: st) := by
  obtain ⟨⟨⟨p, l, e, R⟩, s, m, args, below, meth, c⟩, Q, A, H0, nL⟩ := E
  obtain ⟨⟨hx, hb, hml, hown, hts⟩, hK, hN, hA, hn0⟩ := C
  intro H locs ls hP hD hS hl
  subst hn0
  exact lv_istore_n hx hb hdg hi hl hn rfl (fun ls2 hl2 => kk H locs ls2 hP hD hS (lset_has hl2 e2))
theorem g_istore (C : gC X E cc nL0 own) {i : Nat} {x : Int32} {lv2 : List (Nat × Value)} (hdg : decode cc pc = .ok (.istore i, 2)) (hn : i < nL0) (e2 : lset lv i (.int x) = lv2) (kk : gW X E cells slots ws lv2 (pc + 2) st) : gW X E cells slots ws lv pc (.int x :: st) := by
  obtain ⟨⟨⟨p, l, e, R⟩, s, m, args, below, meth, c⟩, Q, A, H0, nL⟩ := E
  obtain ⟨⟨hx, hb, hml, hown, hts⟩, hK, hN, hA, hn0⟩ := C
  intro H locs ls hP hD hS hl
  subst hn0
  exact lv_istore hx hb hdg hl hn rfl (fun ls2 hl2 => kk H locs ls2 hP hD hS (lset_has hl2 e2))
theorem g_aload_n (C : gC X E cc nL0 own) {k : Fin 4} {i : Nat} {x : Nat} (hdg : decode cc pc = .ok (.aload_n k, 1)) (hi : (k : Nat) = i) (j : Nat) (hj : lv[j]? = some (i, .ref x)) (kk : gW X E cells slots ws lv (pc + 1) (.ref x :: st)) : gW X E cells slots ws lv pc st := by
  obtain ⟨⟨⟨p, l, e, R⟩, s, m, args, below, meth, c⟩, Q, A, H0, nL⟩ := E
  obtain ⟨⟨hx, hb, hml, hown, hts⟩, hK, hN, hA, hn0⟩ := C
  intro H locs ls hP hD hS hl
  exact lv_aload_n hx hb hdg hi (lv_at hl j hj) (kk H locs ls hP hD hS hl)
theorem g_aload (C : gC X E cc nL0 own) {i : Nat} {x : Nat} (hdg : decode cc pc = .ok (.aload i, 2)) (j : Nat) (hj : lv[j]? = some (i, .ref x)) (kk : gW X E cells slots ws lv (pc + 2) (.ref x :: st)) : gW X E cells slots ws lv pc st := by
  obtain ⟨⟨⟨p, l, e, R⟩, s, m, args, below, meth, c⟩, Q, A, H0, nL⟩ := E
  obtain ⟨⟨hx, hb, hml, hown, hts⟩, hK, hN, hA, hn0⟩ := C
  intro H locs ls hP hD hS hl
  exact lv_aload hx hb hdg (lv_at hl j hj) (kk H locs ls hP hD hS hl)
theorem g_astore_n (C : gC X E cc nL0 own) {k : Fin 4} {i : Nat} {x : Nat} {lv2 : List (Nat × Value)} (hdg : decode cc pc = .ok (.astore_n k, 1)) (hi : (k : Nat) = i) (hn : i < nL0) (e2 : lset lv i (.ref x) = lv2) (kk : gW X E cells slots ws lv2 (pc + 1) st) : gW X E cells slots ws lv pc (.ref x :: st) := by
  obtain ⟨⟨⟨p, l, e, R⟩, s, m, args, below, meth, c⟩, Q, A, H0, nL⟩ := E
  obtain ⟨⟨hx, hb, hml, hown, hts⟩, hK, hN, hA, hn0⟩ := C
  intro H locs ls hP hD hS hl
  subst hn0
  exact lv_astore_n hx hb hdg hi hl hn rfl (fun ls2 hl2 => kk H locs ls2 hP hD hS (lset_has hl2 e2))
theorem g_astore (C : gC X E cc nL0 own) {i : Nat} {x : Nat} {lv2 : List (Nat × Value)} (hdg : decode cc pc = .ok (.astore i, 2)) (hn : i < nL0) (e2 : lset lv i (.ref x) = lv2) (kk : gW X E cells slots ws lv2 (pc + 2) st) : gW X E cells slots ws lv pc (.ref x :: st) := by
  obtain ⟨⟨⟨p, l, e, R⟩, s, m, args, below, meth, c⟩, Q, A, H0, nL⟩ := E
  obtain ⟨⟨hx, hb, hml, hown, hts⟩, hK, hN, hA, hn0⟩ := C
  intro H locs ls hP hD hS hl
  subst hn0
  exact lv_astore hx hb hdg hl hn rfl (fun ls2 hl2 => kk H locs ls2 hP hD hS (lset_has hl2 e2))
theorem g_iinc (C : gC X E cc nL0 own) {i : Nat} {n : Int} {x v : Int32} {lv2 : List (Nat × Value)} (hdg : decode cc pc = .ok (.iinc i n, 3)) (j : Nat) (hj : lv[j]? = some (i, .int x)) (hv : x + Int32.ofInt n = v) (hn : i < nL0) (e2 : lset lv i (.int v) = lv2) (kk : gW X E cells slots ws lv2 (pc + 3) st) : gW X E cells slots ws lv pc st := by
  obtain ⟨⟨⟨p, l, e, R⟩, s, m, args, below, meth, c⟩, Q, A, H0, nL⟩ := E
  obtain ⟨⟨hx, hb, hml, hown, hts⟩, hK, hN, hA, hn0⟩ := C
  intro H locs ls hP hD hS hl
  subst hn0
  exact lv_iinc hx hb hdg hl hj hv hn rfl (fun ls2 hl2 => kk H locs ls2 hP hD hS (lset_has hl2 e2))
theorem g_iadd (C : gC X E cc nL0 own) {x y : Int32} (hdg : decode cc pc = .ok (.iadd, 1)) (kk : gW X E cells slots ws lv (pc + 1) (.int (x + y) :: st)) : gW X E cells slots ws lv pc (.int y :: .int x :: st) := by
  obtain ⟨⟨⟨p, l, e, R⟩, s, m, args, below, meth, c⟩, Q, A, H0, nL⟩ := E
  obtain ⟨⟨hx, hb, hml, hown, hts⟩, hK, hN, hA, hn0⟩ := C
  intro H locs ls hP hD hS hl
  exact lv_iadd hx hb hdg  (kk H locs ls hP hD hS hl)
theorem g_isub (C : gC X E cc nL0 own) {x y : Int32} (hdg : decode cc pc = .ok (.isub, 1)) (kk : gW X E cells slots ws lv (pc + 1) (.int (x - y) :: st)) : gW X E cells slots ws lv pc (.int y :: .int x :: st) := by
  obtain ⟨⟨⟨p, l, e, R⟩, s, m, args, below, meth, c⟩, Q, A, H0, nL⟩ := E
  obtain ⟨⟨hx, hb, hml, hown, hts⟩, hK, hN, hA, hn0⟩ := C
  intro H locs ls hP hD hS hl
  exact lv_isub hx hb hdg  (kk H locs ls hP hD hS hl)
theorem g_imul (C : gC X E cc nL0 own) {x y : Int32} (hdg : decode cc pc = .ok (.imul, 1)) (kk : gW X E cells slots ws lv (pc + 1) (.int (x * y) :: st)) : gW X E cells slots ws lv pc (.int y :: .int x :: st) := by
  obtain ⟨⟨⟨p, l, e, R⟩, s, m, args, below, meth, c⟩, Q, A, H0, nL⟩ := E
  obtain ⟨⟨hx, hb, hml, hown, hts⟩, hK, hN, hA, hn0⟩ := C
  intro H locs ls hP hD hS hl
  exact lv_imul hx hb hdg  (kk H locs ls hP hD hS hl)
theorem g_iand (C : gC X E cc nL0 own) {x y : Int32} (hdg : decode cc pc = .ok (.iand, 1)) (kk : gW X E cells slots ws lv (pc + 1) (.int (x &&& y) :: st)) : gW X E cells slots ws lv pc (.int y :: .int x :: st) := by
  obtain ⟨⟨⟨p, l, e, R⟩, s, m, args, below, meth, c⟩, Q, A, H0, nL⟩ := E
  obtain ⟨⟨hx, hb, hml, hown, hts⟩, hK, hN, hA, hn0⟩ := C
  intro H locs ls hP hD hS hl
  exact lv_iand hx hb hdg  (kk H locs ls hP hD hS hl)
theorem g_ior (C : gC X E cc nL0 own) {x y : Int32} (hdg : decode cc pc = .ok (.ior, 1)) (kk : gW X E cells slots ws lv (pc + 1) (.int (x ||| y) :: st)) : gW X E cells slots ws lv pc (.int y :: .int x :: st) := by
  obtain ⟨⟨⟨p, l, e, R⟩, s, m, args, below, meth, c⟩, Q, A, H0, nL⟩ := E
  obtain ⟨⟨hx, hb, hml, hown, hts⟩, hK, hN, hA, hn0⟩ := C
  intro H locs ls hP hD hS hl
  exact lv_ior hx hb hdg  (kk H locs ls hP hD hS hl)
theorem g_ixor (C : gC X E cc nL0 own) {x y : Int32} (hdg : decode cc pc = .ok (.ixor, 1)) (kk : gW X E cells slots ws lv (pc + 1) (.int (x ^^^ y) :: st)) : gW X E cells slots ws lv pc (.int y :: .int x :: st) := by
  obtain ⟨⟨⟨p, l, e, R⟩, s, m, args, below, meth, c⟩, Q, A, H0, nL⟩ := E
  obtain ⟨⟨hx, hb, hml, hown, hts⟩, hK, hN, hA, hn0⟩ := C
  intro H locs ls hP hD hS hl
  exact lv_ixor hx hb hdg  (kk H locs ls hP hD hS hl)
theorem g_idiv (C : gC X E cc nL0 own) {x y : Int32} (hne : ¬ y = 0) (hdg : decode cc pc = .ok (.idiv, 1)) (kk : gW X E cells slots ws lv (pc + 1) (.int (x / y) :: st)) : gW X E cells slots ws lv pc (.int y :: .int x :: st) := by
  obtain ⟨⟨⟨p, l, e, R⟩, s, m, args, below, meth, c⟩, Q, A, H0, nL⟩ := E
  obtain ⟨⟨hx, hb, hml, hown, hts⟩, hK, hN, hA, hn0⟩ := C
  intro H locs ls hP hD hS hl
  exact lv_idiv hx hb hdg hne (kk H locs ls hP hD hS hl)
theorem g_irem (C : gC X E cc nL0 own) {x y : Int32} (hne : ¬ y = 0) (hdg : decode cc pc = .ok (.irem, 1)) (kk : gW X E cells slots ws lv (pc + 1) (.int (x - x / y * y) :: st)) : gW X E cells slots ws lv pc (.int y :: .int x :: st) := by
  obtain ⟨⟨⟨p, l, e, R⟩, s, m, args, below, meth, c⟩, Q, A, H0, nL⟩ := E
  obtain ⟨⟨hx, hb, hml, hown, hts⟩, hK, hN, hA, hn0⟩ := C
  intro H locs ls hP hD hS hl
  exact lv_irem hx hb hdg hne (kk H locs ls hP hD hS hl)
theorem g_dup (C : gC X E cc nL0 own) {a : Value} (ha : a.category = 1) (hdg : decode cc pc = .ok (.dup, 1)) (kk : gW X E cells slots ws lv (pc + 1) (a :: a :: st)) : gW X E cells slots ws lv pc (a :: st) := by
  obtain ⟨⟨⟨p, l, e, R⟩, s, m, args, below, meth, c⟩, Q, A, H0, nL⟩ := E
  obtain ⟨⟨hx, hb, hml, hown, hts⟩, hK, hN, hA, hn0⟩ := C
  intro H locs ls hP hD hS hl
  exact lv_dup hx hb hdg ha (kk H locs ls hP hD hS hl)
theorem g_pop (C : gC X E cc nL0 own) {a : Value} (ha : a.category = 1) (hdg : decode cc pc = .ok (.pop, 1)) (kk : gW X E cells slots ws lv (pc + 1) st) : gW X E cells slots ws lv pc (a :: st) := by
  obtain ⟨⟨⟨p, l, e, R⟩, s, m, args, below, meth, c⟩, Q, A, H0, nL⟩ := E
  obtain ⟨⟨hx, hb, hml, hown, hts⟩, hK, hN, hA, hn0⟩ := C
  intro H locs ls hP hD hS hl
  exact lv_pop hx hb hdg ha (kk H locs ls hP hD hS hl)
theorem g_dup_x1 (C : gC X E cc nL0 own) {a b : Value} (ha : a.category = 1) (h2 : b.category = 1) (hdg : decode cc pc = .ok (.dup_x1, 1)) (kk : gW X E cells slots ws lv (pc + 1) (a :: b :: a :: st)) : gW X E cells slots ws lv pc (a :: b :: st) := by
  obtain ⟨⟨⟨p, l, e, R⟩, s, m, args, below, meth, c⟩, Q, A, H0, nL⟩ := E
  obtain ⟨⟨hx, hb, hml, hown, hts⟩, hK, hN, hA, hn0⟩ := C
  intro H locs ls hP hD hS hl
  exact lv_dup_x1 hx hb hdg ha h2 (kk H locs ls hP hD hS hl)
theorem g_dup2 (C : gC X E cc nL0 own) {a b : Value} (ha : a.category = 1) (h2 : b.category = 1) (hdg : decode cc pc = .ok (.dup2, 1)) (kk : gW X E cells slots ws lv (pc + 1) (a :: b :: a :: b :: st)) : gW X E cells slots ws lv pc (a :: b :: st) := by
  obtain ⟨⟨⟨p, l, e, R⟩, s, m, args, below, meth, c⟩, Q, A, H0, nL⟩ := E
  obtain ⟨⟨hx, hb, hml, hown, hts⟩, hK, hN, hA, hn0⟩ := C
  intro H locs ls hP hD hS hl
  exact lv_dup2_11 hx hb hdg ha h2 (kk H locs ls hP hD hS hl)
theorem g_goto (C : gC X E cc nL0 own) {off : Int} (tgt : Nat) (hdg : decode cc pc = .ok (.goto off, 3)) (ht : (pc : Int) + off = (tgt : Int)) (kk : gW X E cells slots ws lv tgt st) : gW X E cells slots ws lv pc st := by
  obtain ⟨⟨⟨p, l, e, R⟩, s, m, args, below, meth, c⟩, Q, A, H0, nL⟩ := E
  obtain ⟨⟨hx, hb, hml, hown, hts⟩, hK, hN, hA, hn0⟩ := C
  intro H locs ls hP hD hS hl
  exact lv_goto hx hb hdg ht (kk H locs ls hP hD hS hl)
theorem g_if_eq (C : gC X E cc nL0 own) {x : Int32} {off : Int} (tgt : Nat) (hdg : decode cc pc = .ok (.ifCond .eq off, 3)) (ht : (pc : Int) + off = (tgt : Int)) (kt : x = 0 → gW X E cells slots ws lv tgt st) (kf : ¬ x = 0 → gW X E cells slots ws lv (pc + 3) st) : gW X E cells slots ws lv pc (.int x :: st) := by
  obtain ⟨⟨⟨p, l, e, R⟩, s, m, args, below, meth, c⟩, Q, A, H0, nL⟩ := E
  obtain ⟨⟨hx, hb, hml, hown, hts⟩, hK, hN, hA, hn0⟩ := C
  intro H locs ls hP hD hS hl
  exact lv_if_eq hx hb hdg ht (fun h => kt h H locs ls hP hD hS hl) (fun h => kf h H locs ls hP hD hS hl)
theorem g_icmp_eq (C : gC X E cc nL0 own) {x y : Int32} {off : Int} (tgt : Nat) (hdg : decode cc pc = .ok (.if_icmp .eq off, 3)) (ht : (pc : Int) + off = (tgt : Int)) (kt : x = y → gW X E cells slots ws lv tgt st) (kf : ¬ x = y → gW X E cells slots ws lv (pc + 3) st) : gW X E cells slots ws lv pc (.int y :: .int x :: st) := by
  obtain ⟨⟨⟨p, l, e, R⟩, s, m, args, below, meth, c⟩, Q, A, H0, nL⟩ := E
  obtain ⟨⟨hx, hb, hml, hown, hts⟩, hK, hN, hA, hn0⟩ := C
  intro H locs ls hP hD hS hl
  exact lv_icmp_eq hx hb hdg ht (fun h => kt h H locs ls hP hD hS hl) (fun h => kf h H locs ls hP hD hS hl)
theorem g_if_ne (C : gC X E cc nL0 own) {x : Int32} {off : Int} (tgt : Nat) (hdg : decode cc pc = .ok (.ifCond .ne off, 3)) (ht : (pc : Int) + off = (tgt : Int)) (kt : ¬ x = 0 → gW X E cells slots ws lv tgt st) (kf : x = 0 → gW X E cells slots ws lv (pc + 3) st) : gW X E cells slots ws lv pc (.int x :: st) := by
  obtain ⟨⟨⟨p, l, e, R⟩, s, m, args, below, meth, c⟩, Q, A, H0, nL⟩ := E
  obtain ⟨⟨hx, hb, hml, hown, hts⟩, hK, hN, hA, hn0⟩ := C
  intro H locs ls hP hD hS hl
  exact lv_if_ne hx hb hdg ht (fun h => kt h H locs ls hP hD hS hl) (fun h => kf h H locs ls hP hD hS hl)
theorem g_icmp_ne (C : gC X E cc nL0 own) {x y : Int32} {off : Int} (tgt : Nat) (hdg : decode cc pc = .ok (.if_icmp .ne off, 3)) (ht : (pc : Int) + off = (tgt : Int)) (kt : ¬ x = y → gW X E cells slots ws lv tgt st) (kf : x = y → gW X E cells slots ws lv (pc + 3) st) : gW X E cells slots ws lv pc (.int y :: .int x :: st) := by
  obtain ⟨⟨⟨p, l, e, R⟩, s, m, args, below, meth, c⟩, Q, A, H0, nL⟩ := E
  obtain ⟨⟨hx, hb, hml, hown, hts⟩, hK, hN, hA, hn0⟩ := C
  intro H locs ls hP hD hS hl
  exact lv_icmp_ne hx hb hdg ht (fun h => kt h H locs ls hP hD hS hl) (fun h => kf h H locs ls hP hD hS hl)
theorem g_if_lt (C : gC X E cc nL0 own) {x : Int32} {off : Int} (tgt : Nat) (hdg : decode cc pc = .ok (.ifCond .lt off, 3)) (ht : (pc : Int) + off = (tgt : Int)) (kt : x < 0 → gW X E cells slots ws lv tgt st) (kf : ¬ x < 0 → gW X E cells slots ws lv (pc + 3) st) : gW X E cells slots ws lv pc (.int x :: st) := by
  obtain ⟨⟨⟨p, l, e, R⟩, s, m, args, below, meth, c⟩, Q, A, H0, nL⟩ := E
  obtain ⟨⟨hx, hb, hml, hown, hts⟩, hK, hN, hA, hn0⟩ := C
  intro H locs ls hP hD hS hl
  exact lv_if_lt hx hb hdg ht (fun h => kt h H locs ls hP hD hS hl) (fun h => kf h H locs ls hP hD hS hl)
theorem g_icmp_lt (C : gC X E cc nL0 own) {x y : Int32} {off : Int} (tgt : Nat) (hdg : decode cc pc = .ok (.if_icmp .lt off, 3)) (ht : (pc : Int) + off = (tgt : Int)) (kt : x < y → gW X E cells slots ws lv tgt st) (kf : ¬ x < y → gW X E cells slots ws lv (pc + 3) st) : gW X E cells slots ws lv pc (.int y :: .int x :: st) := by
  obtain ⟨⟨⟨p, l, e, R⟩, s, m, args, below, meth, c⟩, Q, A, H0, nL⟩ := E
  obtain ⟨⟨hx, hb, hml, hown, hts⟩, hK, hN, hA, hn0⟩ := C
  intro H locs ls hP hD hS hl
  exact lv_icmp_lt hx hb hdg ht (fun h => kt h H locs ls hP hD hS hl) (fun h => kf h H locs ls hP hD hS hl)
theorem g_if_ge (C : gC X E cc nL0 own) {x : Int32} {off : Int} (tgt : Nat) (hdg : decode cc pc = .ok (.ifCond .ge off, 3)) (ht : (pc : Int) + off = (tgt : Int)) (kt : 0 ≤ x → gW X E cells slots ws lv tgt st) (kf : ¬ 0 ≤ x → gW X E cells slots ws lv (pc + 3) st) : gW X E cells slots ws lv pc (.int x :: st) := by
  obtain ⟨⟨⟨p, l, e, R⟩, s, m, args, below, meth, c⟩, Q, A, H0, nL⟩ := E
  obtain ⟨⟨hx, hb, hml, hown, hts⟩, hK, hN, hA, hn0⟩ := C
  intro H locs ls hP hD hS hl
  exact lv_if_ge hx hb hdg ht (fun h => kt h H locs ls hP hD hS hl) (fun h => kf h H locs ls hP hD hS hl)
theorem g_icmp_ge (C : gC X E cc nL0 own) {x y : Int32} {off : Int} (tgt : Nat) (hdg : decode cc pc = .ok (.if_icmp .ge off, 3)) (ht : (pc : Int) + off = (tgt : Int)) (kt : y ≤ x → gW X E cells slots ws lv tgt st) (kf : ¬ y ≤ x → gW X E cells slots ws lv (pc + 3) st) : gW X E cells slots ws lv pc (.int y :: .int x :: st) := by
  obtain ⟨⟨⟨p, l, e, R⟩, s, m, args, below, meth, c⟩, Q, A, H0, nL⟩ := E
  obtain ⟨⟨hx, hb, hml, hown, hts⟩, hK, hN, hA, hn0⟩ := C
  intro H locs ls hP hD hS hl
  exact lv_icmp_ge hx hb hdg ht (fun h => kt h H locs ls hP hD hS hl) (fun h => kf h H locs ls hP hD hS hl)
theorem g_if_gt (C : gC X E cc nL0 own) {x : Int32} {off : Int} (tgt : Nat) (hdg : decode cc pc = .ok (.ifCond .gt off, 3)) (ht : (pc : Int) + off = (tgt : Int)) (kt : 0 < x → gW X E cells slots ws lv tgt st) (kf : ¬ 0 < x → gW X E cells slots ws lv (pc + 3) st) : gW X E cells slots ws lv pc (.int x :: st) := by
  obtain ⟨⟨⟨p, l, e, R⟩, s, m, args, below, meth, c⟩, Q, A, H0, nL⟩ := E
  obtain ⟨⟨hx, hb, hml, hown, hts⟩, hK, hN, hA, hn0⟩ := C
  intro H locs ls hP hD hS hl
  exact lv_if_gt hx hb hdg ht (fun h => kt h H locs ls hP hD hS hl) (fun h => kf h H locs ls hP hD hS hl)
theorem g_icmp_gt (C : gC X E cc nL0 own) {x y : Int32} {off : Int} (tgt : Nat) (hdg : decode cc pc = .ok (.if_icmp .gt off, 3)) (ht : (pc : Int) + off = (tgt : Int)) (kt : y < x → gW X E cells slots ws lv tgt st) (kf : ¬ y < x → gW X E cells slots ws lv (pc + 3) st) : gW X E cells slots ws lv pc (.int y :: .int x :: st) := by
  obtain ⟨⟨⟨p, l, e, R⟩, s, m, args, below, meth, c⟩, Q, A, H0, nL⟩ := E
  obtain ⟨⟨hx, hb, hml, hown, hts⟩, hK, hN, hA, hn0⟩ := C
  intro H locs ls hP hD hS hl
  exact lv_icmp_gt hx hb hdg ht (fun h => kt h H locs ls hP hD hS hl) (fun h => kf h H locs ls hP hD hS hl)
theorem g_if_le (C : gC X E cc nL0 own) {x : Int32} {off : Int} (tgt : Nat) (hdg : decode cc pc = .ok (.ifCond .le off, 3)) (ht : (pc : Int) + off = (tgt : Int)) (kt : x ≤ 0 → gW X E cells slots ws lv tgt st) (kf : ¬ x ≤ 0 → gW X E cells slots ws lv (pc + 3) st) : gW X E cells slots ws lv pc (.int x :: st) := by
  obtain ⟨⟨⟨p, l, e, R⟩, s, m, args, below, meth, c⟩, Q, A, H0, nL⟩ := E
  obtain ⟨⟨hx, hb, hml, hown, hts⟩, hK, hN, hA, hn0⟩ := C
  intro H locs ls hP hD hS hl
  exact lv_if_le hx hb hdg ht (fun h => kt h H locs ls hP hD hS hl) (fun h => kf h H locs ls hP hD hS hl)
theorem g_icmp_le (C : gC X E cc nL0 own) {x y : Int32} {off : Int} (tgt : Nat) (hdg : decode cc pc = .ok (.if_icmp .le off, 3)) (ht : (pc : Int) + off = (tgt : Int)) (kt : x ≤ y → gW X E cells slots ws lv tgt st) (kf : ¬ x ≤ y → gW X E cells slots ws lv (pc + 3) st) : gW X E cells slots ws lv pc (.int y :: .int x :: st) := by
  obtain ⟨⟨⟨p, l, e, R⟩, s, m, args, below, meth, c⟩, Q, A, H0, nL⟩ := E
  obtain ⟨⟨hx, hb, hml, hown, hts⟩, hK, hN, hA, hn0⟩ := C
  intro H locs ls hP hD hS hl
  exact lv_icmp_le hx hb hdg ht (fun h => kt h H locs ls hP hD hS hl) (fun h => kf h H locs ls hP hD hS hl)
/-- a value on the stack gets a name -/
theorem g_topi {x : Int32} (kk : ∀ y : Int32, y = x → gW X E cells slots ws lv pc (.int y :: st)) : gW X E cells slots ws lv pc (.int x :: st) := kk x rfl
/-- the world in other words -/
theorem g_w {ws2 : va_W} (h : ws = ws2) (kk : gW X E cells slots ws2 lv pc st) : gW X E cells slots ws lv pc st := by rw [h]; exact kk
/-- fewer locals -/
theorem g_lv (C : gC X E cc nL0 own) {lv2 : List (Nat × Value)} (ks : List Nat) (h : lv_pick lv ks = lv2) (kk : gW X E cells slots ws lv2 pc st) : gW X E cells slots ws lv pc st := by
  obtain ⟨⟨⟨p, l, e, R⟩, s, m, args, below, meth, c⟩, Q, A, H0, nL⟩ := E
  obtain ⟨⟨hx, hb, hml, hown, hts⟩, hK, hN, hA, hn0⟩ := C
  intro H locs ls hP hD hS hl
  exact kk H locs ls hP hD hS (lv_sub hl ks h)
theorem g_get (C : gC X E cc nL0 own) (q0 k : Nat) {ref C0 : String} {T : u_T} {N ci index a : Nat} {fs : List Value} {v : Value} (hin : ∀ w ∈ u_ws C0 T N, w ∈ gTs) (he : ws[q0]? = some (a, .inr (ci, fs))) (hc : vwCl[ci]? = some (C0, T, N)) (hk : k < N) (hlink : Cond.fieldLink own index ref (T k).2.1 (T k).2.2.1 ∈ gTs) (href : (T k).1 = ref) (hv : fs[k]? = some v) (hdg : decode cc pc = .ok (.getfield index, 3)) (kk : gW X E cells slots ws lv (pc + 3) (v :: st)) : gW X E cells slots ws lv pc (.ref a :: st) := by
  obtain ⟨⟨⟨p, l, e, R⟩, s, m, args, below, meth, c⟩, Q, A, H0, nL⟩ := E
  obtain ⟨⟨hx, hb, hml, hown, hts⟩, hK, hN, hA, hn0⟩ := C
  intro H locs ls hP hD hS hl
  exact va_get hx hb hts hin hown hK hP q0 he hc k hk (hts _ hlink) (fun x h => by rw [← href]; exact h) hv hdg (kk H locs ls hP hD hS hl)
theorem g_put (C : gC X E cc nL0 own) (q0 k : Nat) {ref C0 : String} {T : u_T} {N ci index a : Nat} {fs : List Value} {v : Value} {ws2 : va_W} (hin : ∀ w ∈ u_ws C0 T N, w ∈ gTs) (ty0 : Nat → FieldType) (hty : ∀ k, k < N → parseFieldDescriptor (T k).2.2.1 = some (ty0 k)) (hnm : ∀ a, a < N → ∀ b, b < N → a ≠ b → (T a).2.1 ≠ (T b).2.1) (he : ws[q0]? = some (a, .inr (ci, fs))) (hc : vwCl[ci]? = some (C0, T, N)) (hk : k < N) (hlink : Cond.fieldLink own index ref (T k).2.1 (T k).2.2.1 ∈ gTs) (href : (T k).1 = ref) (hfin : (T k).2.2.2 = false) (hn : narrow (ty0 k) v = v) (hfit : fits (ty0 k) v = true) (hlen : k < fs.length) (e2 : ws.set q0 (a, .inr (ci, fs.set k v)) = ws2) (hdg : decode cc pc = .ok (.putfield index, 3)) (kk : gW X E cells slots ws2 lv (pc + 3) st) : gW X E cells slots ws lv pc (v :: .ref a :: st) := by
  obtain ⟨⟨⟨p, l, e, R⟩, s, m, args, below, meth, c⟩, Q, A, H0, nL⟩ := E
  obtain ⟨⟨hx, hb, hml, hown, hts⟩, hK, hN, hA, hn0⟩ := C
  intro H locs ls hP hD hS hl
  exact va_put hx hb hts hin ty0 hty hnm hown hK hP hD hS q0 he hc k hk (hts _ hlink) (fun x h => by rw [← href]; exact h) hfin (hty k hk) hn hfit hlen hdg (fun H1 locs1 hP1 hD1 hS1 => kk H1 locs1 ls (e2 ▸ hP1) (e2 ▸ hD1) hS1 hl)
theorem g_getN (C : gC X E cc nL0 own) (q0 k : Nat) {ref C0 host : String} {T : u_T} {N ci index a : Nat} {fs : List Value} {v : Value} (hin : ∀ w ∈ u_ws C0 T N, w ∈ gTs) (he : ws[q0]? = some (a, .inr (ci, fs))) (hc : vwCl[ci]? = some (C0, T, N)) (hk : k < N) (hlink : Cond.fieldLinkNest own index ref (T k).2.1 (T k).2.2.1 host ∈ gNl) (href : (T k).1 = ref) (hv : fs[k]? = some v) (hdg : decode cc pc = .ok (.getfield index, 3)) (kk : gW X E cells slots ws lv (pc + 3) (v :: st)) : gW X E cells slots ws lv pc (.ref a :: st) := by
  obtain ⟨⟨⟨p, l, e, R⟩, s, m, args, below, meth, c⟩, Q, A, H0, nL⟩ := E
  obtain ⟨⟨hx, hb, hml, hown, hts⟩, hK, hN, hA, hn0⟩ := C
  intro H locs ls hP hD hS hl
  exact va_getN hx hb hts hin hown hK hP q0 he hc k hk (va_Nw.use rfl (hN _ hlink)) (fun x h => by rw [← href]; exact h) hv hdg (kk H locs ls hP hD hS hl)
theorem g_putN (C : gC X E cc nL0 own) (q0 k : Nat) {ref C0 host : String} {T : u_T} {N ci index a : Nat} {fs : List Value} {v : Value} {ws2 : va_W} (hin : ∀ w ∈ u_ws C0 T N, w ∈ gTs) (ty0 : Nat → FieldType) (hty : ∀ k, k < N → parseFieldDescriptor (T k).2.2.1 = some (ty0 k)) (hnm : ∀ a, a < N → ∀ b, b < N → a ≠ b → (T a).2.1 ≠ (T b).2.1) (he : ws[q0]? = some (a, .inr (ci, fs))) (hc : vwCl[ci]? = some (C0, T, N)) (hk : k < N) (hlink : Cond.fieldLinkNest own index ref (T k).2.1 (T k).2.2.1 host ∈ gNl) (href : (T k).1 = ref) (hfin : (T k).2.2.2 = false) (hn : narrow (ty0 k) v = v) (hfit : fits (ty0 k) v = true) (hlen : k < fs.length) (e2 : ws.set q0 (a, .inr (ci, fs.set k v)) = ws2) (hdg : decode cc pc = .ok (.putfield index, 3)) (kk : gW X E cells slots ws2 lv (pc + 3) st) : gW X E cells slots ws lv pc (v :: .ref a :: st) := by
  obtain ⟨⟨⟨p, l, e, R⟩, s, m, args, below, meth, c⟩, Q, A, H0, nL⟩ := E
  obtain ⟨⟨hx, hb, hml, hown, hts⟩, hK, hN, hA, hn0⟩ := C
  intro H locs ls hP hD hS hl
  exact va_putN hx hb hts hin ty0 hty hnm hown hK hP hD hS q0 he hc k hk (va_Nw.use rfl (hN _ hlink)) (fun x h => by rw [← href]; exact h) hfin (hty k hk) hn hfit hlen hdg (fun H1 locs1 hP1 hD1 hS1 => kk H1 locs1 ls (e2 ▸ hP1) (e2 ▸ hD1) hS1 hl)
theorem g_iald (C : gC X E cc nL0 own) (q0 t0 : Nat) {cA : ClassId} {n a : Nat} {f : Nat → Int32} {i : Int32} (ha : ws[q0]? = some (a, .inl (cA, n, .inl f))) (ht : (gT X)[t0]? = some (cA, .int)) (hin : vp_in i n) (hdg : decode cc pc = .ok (.iaload, 1)) (kk : gW X E cells slots ws lv (pc + 1) (.int (f i.toNatClampNeg) :: st)) : gW X E cells slots ws lv pc (.int i :: .ref a :: st) := by
  obtain ⟨⟨⟨p, l, e, R⟩, s, m, args, below, meth, c⟩, Q, A, H0, nL⟩ := E
  obtain ⟨⟨hx, hb, hml, hown, hts⟩, hK, hN, hA, hn0⟩ := C
  intro H locs ls hP hD hS hl
  exact va_iald hx hb hK hP q0 t0 ha ht hin hdg (kk H locs ls hP hD hS hl)
theorem g_zald (C : gC X E cc nL0 own) (q0 t0 : Nat) {cA : ClassId} {n a : Nat} {f : Nat → Int32} {i : Int32} (ha : ws[q0]? = some (a, .inl (cA, n, .inl f))) (ht : (gT X)[t0]? = some (cA, .boolean)) (hin : vp_in i n) (hdg : decode cc pc = .ok (.baload, 1)) (kk : gW X E cells slots ws lv (pc + 1) (.int (f i.toNatClampNeg) :: st)) : gW X E cells slots ws lv pc (.int i :: .ref a :: st) := by
  obtain ⟨⟨⟨p, l, e, R⟩, s, m, args, below, meth, c⟩, Q, A, H0, nL⟩ := E
  obtain ⟨⟨hx, hb, hml, hown, hts⟩, hK, hN, hA, hn0⟩ := C
  intro H locs ls hP hD hS hl
  exact va_zald hx hb hK hP q0 t0 ha ht hin hdg (kk H locs ls hP hD hS hl)
theorem g_iast (C : gC X E cc nL0 own) (q0 t0 : Nat) {cA : ClassId} {n a : Nat} {f : Nat → Int32} {i x : Int32} {ws2 : va_W} (ha : ws[q0]? = some (a, .inl (cA, n, .inl f))) (ht : (gT X)[t0]? = some (cA, .int)) (hin : vp_in i n) (e2 : ws.set q0 (a, .inl (cA, n, .inl (upd f i.toNatClampNeg x))) = ws2) (hdg : decode cc pc = .ok (.iastore, 1)) (kk : gW X E cells slots ws2 lv (pc + 1) st) : gW X E cells slots ws lv pc (.int x :: .int i :: .ref a :: st) := by
  obtain ⟨⟨⟨p, l, e, R⟩, s, m, args, below, meth, c⟩, Q, A, H0, nL⟩ := E
  obtain ⟨⟨hx, hb, hml, hown, hts⟩, hK, hN, hA, hn0⟩ := C
  intro H locs ls hP hD hS hl
  exact va_iast hx hb hK hP hD hS q0 t0 ha ht hin hdg (fun H1 locs1 hP1 hD1 hS1 => kk H1 locs1 ls (e2 ▸ hP1) (e2 ▸ hD1) hS1 hl)
theorem g_zast (C : gC X E cc nL0 own) (q0 t0 : Nat) {cA : ClassId} {n a : Nat} {f : Nat → Int32} {i x : Int32} {ws2 : va_W} (ha : ws[q0]? = some (a, .inl (cA, n, .inl f))) (ht : (gT X)[t0]? = some (cA, .boolean)) (hin : vp_in i n) (e2 : ws.set q0 (a, .inl (cA, n, .inl (upd f i.toNatClampNeg (vp_nar .boolean x)))) = ws2) (hdg : decode cc pc = .ok (.bastore, 1)) (kk : gW X E cells slots ws2 lv (pc + 1) st) : gW X E cells slots ws lv pc (.int x :: .int i :: .ref a :: st) := by
  obtain ⟨⟨⟨p, l, e, R⟩, s, m, args, below, meth, c⟩, Q, A, H0, nL⟩ := E
  obtain ⟨⟨hx, hb, hml, hown, hts⟩, hK, hN, hA, hn0⟩ := C
  intro H locs ls hP hD hS hl
  exact va_zast hx hb hK hP hD hS q0 t0 ha ht hin hdg (fun H1 locs1 hP1 hD1 hS1 => kk H1 locs1 ls (e2 ▸ hP1) (e2 ▸ hD1) hS1 hl)
theorem g_alen (C : gC X E cc nL0 own) (q0 t0 : Nat) {cA : ClassId} {a : Nat} {x : vp_A} {ty : FieldType} (v : Int32) (ha : ws[q0]? = some (a, .inl (cA, x))) (ht : (gT X)[t0]? = some (cA, ty)) (hv : Int32.ofNat x.1 = v) (hdg : decode cc pc = .ok (.arraylength, 1)) (kk : gW X E cells slots ws lv (pc + 1) (.int v :: st)) : gW X E cells slots ws lv pc (.ref a :: st) := by
  obtain ⟨⟨⟨p, l, e, R⟩, s, m, args, below, meth, c⟩, Q, A, H0, nL⟩ := E
  obtain ⟨⟨hx, hb, hml, hown, hts⟩, hK, hN, hA, hn0⟩ := C
  intro H locs ls hP hD hS hl
  exact va_alen hx hb hK hP q0 t0 ha ht hv hdg (kk H locs ls hP hD hS hl)
theorem g_tableOut (C : gC X E cc nL0 own) {dflt lo hi : Int} {offs : Array Int} {len : Nat} {x : Int32} (tgt : Nat) (hdg : decode cc pc = .ok (.tableswitch dflt lo hi offs, len)) (h : x.toInt < lo ∨ hi < x.toInt) (ht : (pc : Int) + dflt = (tgt : Int)) (kk : gW X E cells slots ws lv tgt st) : gW X E cells slots ws lv pc (.int x :: st) := by
  obtain ⟨⟨⟨p, l, e, R⟩, s, m, args, below, meth, c⟩, Q, A, H0, nL⟩ := E
  obtain ⟨⟨hx, hb, hml, hown, hts⟩, hK, hN, hA, hn0⟩ := C
  intro H locs ls hP hD hS hl
  exact lv_tableOut hx hb hdg h ht (kk H locs ls hP hD hS hl)
theorem g_tableIn (C : gC X E cc nL0 own) {dflt lo hi : Int} {offs : Array Int} {len : Nat} {x : Int32} {off : Int} (tgt : Nat) (hdg : decode cc pc = .ok (.tableswitch dflt lo hi offs, len)) (h1 : ¬ x.toInt < lo) (h2 : ¬ hi < x.toInt) (ho : offs[(x.toInt - lo).toNat]? = some off) (ht : (pc : Int) + off = (tgt : Int)) (kk : gW X E cells slots ws lv tgt st) : gW X E cells slots ws lv pc (.int x :: st) := by
  obtain ⟨⟨⟨p, l, e, R⟩, s, m, args, below, meth, c⟩, Q, A, H0, nL⟩ := E
  obtain ⟨⟨hx, hb, hml, hown, hts⟩, hK, hN, hA, hn0⟩ := C
  intro H locs ls hP hD hS hl
  exact lv_tableIn hx hb hdg h1 h2 ho ht (kk H locs ls hP hD hS hl)
end GW
end
section
/-! Contracts over worlds, and calls. -/
def gPc (X : gX) (av : List Value) (w : va_W) (sz : Nat) : Array Value → State → Prop := va_Pc av (fun U => U.heap.size = sz ∧ va_P X.1 vwCl w U.heap ∧ va_K X.1 vwCl (gT X) U ∧ va_D (fun _ => True) w ∧ ∀ x ∈ gNl, va_Nw x U)
def gQc (X : gX) (w : va_W) (B : Option Value → va_W → Prop) (sz : Nat) : Array Value → State → Outcome → State → Prop := fun _ st oc t => (∃ (v : Option Value) (u : va_W), oc = .returned v ∧ B v u ∧ va_P X.1 vwCl u t.heap ∧ va_D (va_A w sz) u) ∧ va_F (va_A w sz) st t
/-- the contract of a method that makes no cell -/
def gM (l : Launch) (X : gX) (y : MethodName) (cc : ByteArray) (nL : Nat) (ret : Option FieldType) (rm : Room) (av : List Value) (w : va_W) (B : Option Value → va_W → Prop) : Prop := ∀ sz : Nat, Met l y (.code y cc nL ret :: gTs) rm (gPc X av w sz) (gQc X w B sz) 0 0 (va_A w sz)
/-- how a walk may end: with this answer, in this world -/
def gR (X : gX) (E : gE) (cc : ByteArray) (ret : Option FieldType) (B : Option Value → va_W → Prop) : Prop := ∀ (v : Option Value) (u : va_W) (lv : List (Nat × Value)) (pc : Nat), B v u → ((v = none ∧ ret = none ∧ decode cc pc = .ok (.return_, 1)) ∨ ∃ (x : Int32) (ty : FieldType), v = some (.int x) ∧ ret = some ty ∧ narrow ty (.int x) = .int x ∧ decode cc pc = .ok (.ireturn, 1)) → gW X E 0 0 u lv pc v.toList
theorem g_vret {X : gX} {E : gE} {cc : ByteArray} {B : Option Value → va_W → Prop} {ws : va_W} {lv : List (Nat × Value)} {pc : Nat} (r : gR X E cc none B) (hdg : decode cc pc = .ok (.return_, 1)) (h : B none ws) : gW X E 0 0 ws lv pc [] := r none ws lv pc h (Or.inl ⟨rfl, rfl, hdg⟩)
theorem g_iret {X : gX} {E : gE} {cc : ByteArray} {ty : FieldType} {B : Option Value → va_W → Prop} {ws : va_W} {lv : List (Nat × Value)} {pc : Nat} {x : Int32} (r : gR X E cc (some ty) B) (hn : narrow ty (.int x) = .int x) (hdg : decode cc pc = .ok (.ireturn, 1)) (h : B (some (.int x)) ws) : gW X E 0 0 ws lv pc [.int x] := r (some (.int x)) ws lv pc h (Or.inr ⟨x, ty, rfl, rfl, hn, hdg⟩)
def gRm (E : gE) : Room := E.1.1.2.2.2
theorem gM_of {l : Launch} {X : gX} {y : MethodName} {cc : ByteArray} {nL : Nat} {ret : Option FieldType} {rm : Room} {av : List Value} {w : va_W} {B : Option Value → va_W → Prop} {own : String} {lv0 : List (Nat × Value)} (hy : plainName y.cls = true) (ho : y.cls = own) (hav : (lg_sl av).length ≤ nL) (hlv : lv_args 0 av = lv0)
    (body : ∀ E : gE, gC X E cc nL own → gRm E = rm → gR X E cc ret B → gW X E 0 0 w lv0 0 []) : gM l X y cc nL ret rm av w B := by
  intro sz
  refine Met.ofW (cc := cc) (maxL := nL) (ret := ret) hy rfl ?_
  intro p e s m args below meth c s₁ Bd hml hv
  obtain ⟨rfl, hsz, hP, hK, hD0, hN⟩ := hv
  have hx := Bd.exec
  have hb := Bd.bytes
  have hr := Bd.returns
  have hlocks := Bd.notSynchronized
  have hts := atoms_spec (ws := Cond.code y cc nL ret :: gTs) Bd.pre
  have hown : s.vm.findClass own = some m.cls := by rw [← ho]; exact findClass_of_methodNamed Bd.named
  subst hsz
  have hD := hD0.self (sz := s.heap.size)
  have hS : va_S (va_A w s.heap.size) s.heap s.heap [] := va_S.rf
  have hl := lv_entry av (n := nL) hav
  rw [lg_entry_eq]
  generalize (lg_sl av ++ List.replicate (nL - (lg_sl av).length) Slot.unset).toArray = ls at hl ⊢
  rw [hlv] at hl
  refine body (((p, l, e, (headSpec (Cond.code y cc nL ret :: gTs) rm).room), (s, m, av.toArray, below, meth, c)), (MQ below (gQc X w B s.heap.size) av.toArray s 0 0 (va_A w s.heap.size), va_A w s.heap.size, s.heap, nL)) ⟨⟨hx, hb, hml, hown, fun w h => hts w (List.mem_cons_of_mem _ h)⟩, hK, hN, fun q h => Or.inr h, rfl⟩ rfl ?_ s.heap [] ls hP hD hS hl
  intro v u lv pc hB hi H locs ls2 hP2 hD2 hS2 hl2
  rcases hi with ⟨rfl, rfl, hdg⟩ | ⟨x, ty, rfl, rfl, hn, hdg⟩
  · exact W.vret hx hb hr (fun t ht hW => ⟨⟨none, u, rfl, hB, by rw [ht]; exact hP2, hD2⟩, hS2.F ht⟩) hS2.2.2 hdg hlocks
  · exact W.zret hx hb hr hn (fun t ht hW => ⟨⟨some (.int x), u, rfl, hB, by rw [ht]; exact hP2, hD2⟩, hS2.F ht⟩) hS2.2.2 hdg hlocks
theorem gNw_warm {w : Cond} (h : gNok w = true) {s U : State} (hW : s.WarmedH U.vm) (hz : va_Nw w s) : va_Nw w U := by
  cases w <;> first | (simp [gNok] at h; done) | exact va_Nw.warmF hW hz | exact va_Nw.warmM hW hz | exact va_Nw.warmD hW hz
theorem gNw_same {w : Cond} (h : gNok w = true) {s U : State} (e : s.vm = U.vm) (hz : va_Nw w s) : va_Nw w U := by
  cases w <;> first | (simp [gNok] at h; done) | exact va_Nw.same rfl e hz
theorem gPc_blind {X : gX} {av : List Value} {w : va_W} {sz : Nat} : FrameBlind (gPc X av w sz) := by
  intro a U g mk q
  obtain ⟨q0, q1, qP, qK, qD, qN⟩ := q
  exact ⟨q0, q1, qP, va_K.moved (u := U) (U := U.calling g mk a) (Vm.Alike.refl U.vm) qK, qD, fun x hx => gNw_same (s := U) (U := U.calling g mk a) (gNl_ok x hx) rfl (qN x hx)⟩
section GCALL
variable {p : Program} {l : Launch} {e : Env} {R : Room} {s : State} {m : MethodId} {args : Array Value} {below : List Frame} {meth : Method} {c : Code} {H : Heap} {locs : List Loc} {cells slots : Nat} {Q : State → Prop} {X : gX}
theorem gPc_at {av : List Value} {w : va_W} (hP : va_P X.1 vwCl w H) (hK : va_K X.1 vwCl (gT X) s) {A : Nat → Prop} (hD : va_D A w) (hN : ∀ x ∈ gNl, va_Nw x s) : ∀ U : State, U.heap = H → s.WarmedH U.vm → gPc X av w H.size av.toArray U := fun U hU hW => ⟨rfl, by rw [hU], by rw [hU]; exact hP, va_K.moved hW.alike hK, hD.weaken (fun _ _ _ _ => trivial), fun x hx => gNw_warm (gNl_ok x hx) hW (hN x hx)⟩
/-- behind a call on the whole world -/
theorem gx_call {A0 : Nat → Prop} {H0 : Heap} {w : va_W} {B : Option Value → va_W → Prop} {a : Array Value} {pc : Nat} {ls : Array Slot} {st0 rest : List Value} (hr : va_Run p l e R s m args below meth c H locs cells slots 0 0 (F0 m pc ls st0) rest (gQc X w B H.size a) (va_A w H.size)) (hD : va_D A0 w) (hS : va_S A0 H0 H locs) (hA : ∀ q, H0.size ≤ q → A0 q)
    (kk : ∀ (v : Option Value) (u : va_W) (H1 : Heap) (locs1 : List Loc), B v u → va_P X.1 vwCl u H1 → va_D A0 u → va_S A0 H0 H1 locs1 → W p l e R s m args below meth c H1 locs1 cells slots Q (F0 m (pc + 3) ls (v.toList ++ rest))) : W p l e R s m args below meth c H locs cells slots Q (F0 m pc ls st0) := by
  have hF : ∀ q, va_A w H.size q → A0 q := by
    intro q h
    rcases h with ⟨k, e, h⟩ | h
    · exact hD.2 k (q, e) h
    · exact hA q (Nat.le_trans hS.1 h)
  intro T hT Y
  obtain ⟨v, st₀, t, T', L, h0, Y', hL, e1, e2, ⟨⟨v2, u, hv, hB, hP1, hD1⟩, hz, hk⟩, st⟩ := hr T hT Y
  cases hv
  rw [h0] at hz hk
  obtain ⟨t2, a1, b1⟩ := kk v u T'.heap (locs ++ L) hB (by rw [e1]; exact hP1) (hD1.weaken (fun k q _ h => hF q.1 h))
    ⟨Nat.le_trans hS.1 (by rw [e1]; exact hz), fun q h1 h2 => by rw [e1, hk q (Nat.lt_of_lt_of_le h1 hS.1) (fun z => h2 (hF q z))]; exact hS.2.1 q h1 h2, fun q hq => by
      rcases List.mem_append.mp hq with h | h
      · exact hS.2.2 q h
      · exact hF _ (hL q h)⟩ T' rfl Y'
  exact ⟨t2, st t2 a1, b1⟩
end GCALL
/-- the tables' words are good for every callee -/
theorem gGood {y : MethodName} {cc : ByteArray} {nL : Nat} {ret : Option FieldType} (h : Cond.code y cc nL ret ∈ gTs) (hG : ∀ w ∈ gTs, ((w.onTables && w.keeps) = true ∨ ∃ ty, w = .arrayClass ty)) : GoodIn gTs (Cond.code y cc nL ret :: gTs) := by
  intro w hw
  rcases List.mem_cons.mp hw with rfl | hw
  · exact ⟨h, hG _ h⟩
  · exact ⟨hw, hG w hw⟩
section GK
variable {X : gX} {E : gE} {cc : ByteArray} {nL0 : Nat} {own : String} {cells slots pc : Nat} {ws : va_W} {lv : List (Nat × Value)} {rest : List Value}
variable {y : MethodName} {bytes : ByteArray} {maxL n index : Nat} {ret : Option FieldType} {rm : Room} {B : Option Value → va_W → Prop} {As : List Value}
/-- invokevirtual of a method of the receiver's own class -/
theorem g_callV (C : gC X E cc nL0 own) (q0 : Nat) {C0 : String} {T : u_T} {N ci b : Nat} {fs : List Value} (hM : ∀ l, gM l X y bytes maxL ret rm (.ref b :: As) ws B) (he : ws[q0]? = some (b, .inr (ci, fs))) (hc : vwCl[ci]? = some (C0, T, N))
    (h1 : Cond.methodLink own index y ∈ gTs) (cb : gCb y C0 bytes maxL ret n) (h6 : rm.cells = 0 ∧ rm.slots = 0) (hR : rm.frames + 1 ≤ (gRm E).frames ∧ 8 + (maxL + 11) + rm.locals ≤ (gRm E).locals) (hcs : cells ≤ (gRm E).cells ∧ slots ≤ (gRm E).slots) (hn : As.length = n) {st : List Value} (hst : st = As.reverse ++ .ref b :: rest) (hrest : (rest.map fun v => v.category).sum ≤ 8) (hdg : decode cc pc = .ok (.invokevirtual index, 3))
    (kk : ∀ (v : Option Value) (u : va_W), B v u → gW X E cells slots u lv (pc + 3) (v.toList ++ rest)) : gW X E cells slots ws lv pc st := by
  obtain ⟨⟨⟨p, l, e, R⟩, s, m, args, below, meth, c⟩, Q, A, H0, nL⟩ := E
  obtain ⟨⟨hx, hb, hml, hown, hts⟩, hK, hN, hA, hn0⟩ := C
  intro H locs ls hP hD hS hl
  obtain ⟨⟨h2, h3, h4, h5⟩, hd⟩ := cb
  have hG := gGood h5 gTs_good
  have hr := va_runV (e := e) (below := below) (meth := meth) (locs := locs) (cells := cells) (slots := slots) (As := As) (rest := rest) (g := F0 m pc ls st) ⟨hx, hb, hml, hown, hts⟩ (hM l H.size) (R := R) ⟨callB_of n hts hG rfl h6.1 h6.2 (hts _ h4) (hts _ h1) hd hR, hts _ h2, hts _ h3⟩ ⟨gPc_blind, va_recv hK hP hc he, gPc_at hP hK hD hN⟩ rfl hn hl.1 hst (by show 2 * 0 + _ ≤ 8; omega) hdg hcs
  exact gx_call hr hD hS hA (fun v u H1 locs1 hB hP1 hD1 hS1 => kk v u hB H1 locs1 ls hP1 hD1 hS1 hl)
/-- .. of a private method of a nest mate -/
theorem g_callVN (C : gC X E cc nL0 own) (q0 : Nat) {C0 host : String} {T : u_T} {N ci b : Nat} {fs : List Value} (hM : ∀ l, gM l X y bytes maxL ret rm (.ref b :: As) ws B) (he : ws[q0]? = some (b, .inr (ci, fs))) (hc : vwCl[ci]? = some (C0, T, N))
    (h1 : Cond.methodLinkNest own index y host ∈ gNl) (cb : gCb y C0 bytes maxL ret n) (h6 : rm.cells = 0 ∧ rm.slots = 0) (hR : rm.frames + 1 ≤ (gRm E).frames ∧ 8 + (maxL + 11) + rm.locals ≤ (gRm E).locals) (hcs : cells ≤ (gRm E).cells ∧ slots ≤ (gRm E).slots) (hn : As.length = n) {st : List Value} (hst : st = As.reverse ++ .ref b :: rest) (hrest : (rest.map fun v => v.category).sum ≤ 8) (hdg : decode cc pc = .ok (.invokevirtual index, 3))
    (kk : ∀ (v : Option Value) (u : va_W), B v u → gW X E cells slots u lv (pc + 3) (v.toList ++ rest)) : gW X E cells slots ws lv pc st := by
  obtain ⟨⟨⟨p, l, e, R⟩, s, m, args, below, meth, c⟩, Q, A, H0, nL⟩ := E
  obtain ⟨⟨hx, hb, hml, hown, hts⟩, hK, hN, hA, hn0⟩ := C
  intro H locs ls hP hD hS hl
  obtain ⟨⟨h2, h3, h4, h5⟩, hd⟩ := cb
  have hG := gGood h5 gTs_good
  have hr := va_runVN (e := e) (below := below) (meth := meth) (locs := locs) (cells := cells) (slots := slots) (As := As) (rest := rest) (g := F0 m pc ls st) ⟨hx, hb, hml, hown, hts⟩ (hM l H.size) (R := R) ⟨va_cnB n hts hG rfl h6.1 h6.2 (hN _ h1) (hts _ h4) hd hR, hts _ h2, hts _ h3⟩ ⟨gPc_blind, va_recv hK hP hc he, gPc_at hP hK hD hN⟩ rfl hn hl.1 hst (by show 2 * 0 + _ ≤ 8; omega) hdg hcs
  exact gx_call hr hD hS hA (fun v u H1 locs1 hB hP1 hD1 hS1 => kk v u hB H1 locs1 ls hP1 hD1 hS1 hl)
/-- invokestatic -/
theorem g_callS (C : gC X E cc nL0 own) (hM : ∀ l, gM l X y bytes maxL ret rm As ws B)
    (h1 : Cond.methodLink own index y ∈ gTs) (cb : gSb y bytes maxL ret n) (h6 : rm.cells = 0 ∧ rm.slots = 0) (hR : rm.frames + 1 ≤ (gRm E).frames ∧ 8 + (maxL + 11) + rm.locals ≤ (gRm E).locals) (hcs : cells ≤ (gRm E).cells ∧ slots ≤ (gRm E).slots) (hn : As.length = n) {st : List Value} (hst : st = As.reverse ++ rest) (hrest : (rest.map fun v => v.category).sum ≤ 8) (hdg : decode cc pc = .ok (.invokestatic index, 3))
    (kk : ∀ (v : Option Value) (u : va_W), B v u → gW X E cells slots u lv (pc + 3) (v.toList ++ rest)) : gW X E cells slots ws lv pc st := by
  obtain ⟨⟨⟨p, l, e, R⟩, s, m, args, below, meth, c⟩, Q, A, H0, nL⟩ := E
  obtain ⟨⟨hx, hb, hml, hown, hts⟩, hK, hN, hA, hn0⟩ := C
  intro H locs ls hP hD hS hl
  obtain ⟨⟨h2, h4, h5⟩, hd⟩ := cb
  have hG := gGood h5 gTs_good
  have hr := va_runS (e := e) (below := below) (meth := meth) (locs := locs) (cells := cells) (slots := slots) (As := As) (rest := rest) (g := F0 m pc ls st) ⟨hx, hb, hml, hown, hts⟩ (hM l H.size) (R := R) ⟨callB_of n hts hG rfl h6.1 h6.2 (hts _ h4) (hts _ h1) hd hR, hts _ h2⟩ ⟨gPc_blind, gPc_at hP hK hD hN⟩ rfl hn hl.1 hst (by show 2 * 0 + _ ≤ 8; omega) hdg hcs
  exact gx_call hr hD hS hA (fun v u H1 locs1 hB hP1 hD1 hS1 => kk v u hB H1 locs1 ls hP1 hD1 hS1 hl)
end GK
section GLIB
variable {X : gX} {E : gE} {cc : ByteArray} {nL0 : Nat} {own : String} {cells slots pc : Nat} {ws : va_W} {lv : List (Nat × Value)} {st : List Value}
theorem g_mmin (C : gC X E cc nL0 own) {index : Nat} {x y : Int32} (h1 : Cond.methodLink own index Lib.Math.min.name ∈ gTs) (h2 : Cond.static Lib.Math.min.name ∈ gTs) (h3 : Cond.initialized "java/lang/Math" ∈ gTs) (h4 : Cond.code Lib.Math.min.name Lib.Math.min.code 2 (some .int) ∈ gTs) (hR : 1 ≤ (gRm E).frames ∧ (st.map fun v => v.category).sum + 13 ≤ (gRm E).locals) (hcs : cells ≤ (gRm E).cells ∧ slots ≤ (gRm E).slots) (hdg : decode cc pc = .ok (.invokestatic index, 3)) (kk : gW X E cells slots ws lv (pc + 3) (.int (if y < x then y else x) :: st)) : gW X E cells slots ws lv pc (.int y :: .int x :: st) := by
  obtain ⟨⟨⟨p, l, e, R⟩, s, m, args, below, meth, c⟩, Q, A, H0, nL⟩ := E
  obtain ⟨⟨hx, hb, hml, hown, hts⟩, hK, hN, hA, hn0⟩ := C
  intro H locs ls hP hD hS hl
  exact va_mmin hx hb (hml.trans hl.1.symm) hown (hts _ h1) (hts _ h2) (hts _ h3) (hts _ h4) hR.1 hR.2 hcs.1 hcs.2 hdg (kk H locs ls hP hD hS hl)
theorem g_mmax (C : gC X E cc nL0 own) {index : Nat} {x y : Int32} (h1 : Cond.methodLink own index Lib.Math.max.name ∈ gTs) (h2 : Cond.static Lib.Math.max.name ∈ gTs) (h3 : Cond.initialized "java/lang/Math" ∈ gTs) (h4 : Cond.code Lib.Math.max.name Lib.Math.max.code 2 (some .int) ∈ gTs) (hR : 1 ≤ (gRm E).frames ∧ (st.map fun v => v.category).sum + 13 ≤ (gRm E).locals) (hcs : cells ≤ (gRm E).cells ∧ slots ≤ (gRm E).slots) (hdg : decode cc pc = .ok (.invokestatic index, 3)) (kk : gW X E cells slots ws lv (pc + 3) (.int (if x < y then y else x) :: st)) : gW X E cells slots ws lv pc (.int y :: .int x :: st) := by
  obtain ⟨⟨⟨p, l, e, R⟩, s, m, args, below, meth, c⟩, Q, A, H0, nL⟩ := E
  obtain ⟨⟨hx, hb, hml, hown, hts⟩, hK, hN, hA, hn0⟩ := C
  intro H locs ls hP hD hS hl
  exact va_mmax hx hb (hml.trans hl.1.symm) hown (hts _ h1) (hts _ h2) (hts _ h3) (hts _ h4) hR.1 hR.2 hcs.1 hcs.2 hdg (kk H locs ls hP hD hS hl)
/-- System.arraycopy of ints -/
theorem g_copyi (C : gC X E cc nL0 own) {index : Nat} (h1 : Cond.methodLink own index arraycopyName ∈ gTs) (h2 : Cond.native arraycopyName ∈ gTs) (h3 : Cond.static arraycopyName ∈ gTs) (h4 : Cond.initialized "java/lang/System" ∈ gTs) (q0 q1 : Nat) {a0 a : Nat} {c0 c1 : ClassId} {n0 n1 : Nat} {f g : Nat → Int32} {ws2 : va_W} (ha0 : ws[q0]? = some (a0, .inl (c0, n0, .inl f))) (ha1 : ws[q1]? = some (a, .inl (c1, n1, .inl g))) (ht0 : (gT X)[0]? = some (c0, .int)) (ht1 : (gT X)[0]? = some (c1, .int)) {sp dp n : Int32} (hh : ¬ sp < 0 ∧ ¬ dp < 0 ∧ ¬ n < 0 ∧ sp.toNatClampNeg + n.toNatClampNeg ≤ n0 ∧ dp.toNatClampNeg + n.toNatClampNeg ≤ n1) (hR : 1 ≤ (gRm E).frames ∧ (st.map fun v => v.category).sum + (nativeFrameWords "java/lang/System" "arraycopy" 5 + 11) ≤ (gRm E).locals) (e2 : ws.set q1 (a, .inl (c1, n1, .inl (va_cpy f g sp.toNatClampNeg dp.toNatClampNeg n.toNatClampNeg))) = ws2) (hdg : decode cc pc = .ok (.invokestatic index, 3)) (kk : gW X E cells slots ws2 lv (pc + 3) st) : gW X E cells slots ws lv pc (.int n :: .int dp :: .ref a :: .int sp :: .ref a0 :: st) := by
  obtain ⟨⟨⟨p, l, e, R⟩, s, m, args, below, meth, c⟩, Q, A, H0, nL⟩ := E
  obtain ⟨⟨hx, hb, hml, hown, hts⟩, hK, hN, hA, hn0⟩ := C
  intro H locs ls hP hD hS hl
  exact va_copyi hx hb (hml.trans hl.1.symm) hown (hts _ h1) (hts _ h2) (hts _ h3) (hts _ h4) hK hP hD hS q0 q1 0 0 ha0 ha1 ht0 ht1 rfl hh.1 hh.2.1 hh.2.2.1 hh.2.2.2.1 hh.2.2.2.2 (fun _ _ => rfl) hR.1 hR.2 hdg (fun H1 locs1 hP1 hD1 hS1 => kk H1 locs1 ls (e2 ▸ hP1) (e2 ▸ hD1) hS1 hl)
end GLIB
section GKU
variable {X : gX} {E : gE} {cc : ByteArray} {nL0 : Nat} {own : String} {cells slots pc : Nat} {ws : va_W} {lv : List (Nat × Value)} {rest : List Value}
variable {x y : MethodName} {bytes : ByteArray} {maxL n index : Nat} {ret : Option FieldType} {rm : Room} {B : Option Value → va_W → Prop} {As : List Value}
/-- invokevirtual of an abstract method x; the receiver's y is run -/
theorem g_callU (C : gC X E cc nL0 own) (q0 : Nat) {C0 owner : String} {T : u_T} {N ci b : Nat} {fs : List Value} (hM : ∀ l, gM l X y bytes maxL ret rm (.ref b :: As) ws B) (he : ws[q0]? = some (b, .inr (ci, fs))) (hc : vwCl[ci]? = some (C0, T, N))
    (h1 : Cond.methodLink own index x ∈ gTs) (h2 : Cond.sameMethod x.cls owner x.name x.desc ∈ gTs) (hz : Cond.declares ⟨owner, x.name, x.desc⟩ ∈ gNl) (h3 : Cond.selects C0 x y ∈ gTs) (hi : Cond.instanceMethod y ∈ gTs) (h4 : Cond.initialized y.cls ∈ gTs) (h5 : Cond.code y bytes maxL ret ∈ gTs) (hd : owner ≠ "java/lang/invoke/MethodHandle" ∧ owner ≠ "java/lang/invoke/VarHandle" ∧ (parseMethodDescriptor x.desc).map (fun d => d.parameters.length) = some n) (h6 : rm.cells = 0 ∧ rm.slots = 0)
    (hR : rm.frames + 1 ≤ (gRm E).frames ∧ 8 + (maxL + 11) + rm.locals ≤ (gRm E).locals) (hcs : cells ≤ (gRm E).cells ∧ slots ≤ (gRm E).slots) (hn : As.length = n) {st : List Value} (hst : st = As.reverse ++ .ref b :: rest) (hrest : (rest.map fun v => v.category).sum ≤ 8) (hdg : decode cc pc = .ok (.invokevirtual index, 3))
    (kk : ∀ (v : Option Value) (u : va_W), B v u → gW X E cells slots u lv (pc + 3) (v.toList ++ rest)) : gW X E cells slots ws lv pc st := by
  obtain ⟨⟨⟨p, l, e, R⟩, s, m, args, below, meth, c⟩, Q, A, H0, nL⟩ := E
  obtain ⟨⟨hx, hb, hml, hown, hts⟩, hK, hN, hA, hn0⟩ := C
  intro H locs ls hP hD hS hl
  have hG := gGood h5 gTs_good
  have hlen : ∀ sig, parseMethodDescriptor x.desc = some sig → n = sig.parameters.length := by
    intro sig h
    have h2 := hd.2.2
    rw [h] at h2
    exact (Option.some.inj h2).symm
  have hr := va_runU (e := e) (below := below) (meth := meth) (locs := locs) (cells := cells) (slots := slots) (As := As) (rest := rest) (g := F0 m pc ls st) ⟨hx, hb, hml, hown, hts⟩ (hM l H.size) (R := R) (C := C0) (owner := owner) (index := index) (x := x) (n := n) ⟨⟨h6.1, h6.2, hR.1, hR.2, pay_in hts hG, List.mem_cons_self⟩, hts _ h5, hts _ h4, ⟨hd.1, hd.2.1⟩, hlen, hts _ h1, hts _ h2, va_Decl.abs (hN _ hz), hts _ h3, hts _ hi⟩ ⟨gPc_blind, va_recv hK hP hc he, gPc_at hP hK hD hN⟩ rfl hn hl.1 hst (by show 2 * 0 + _ ≤ 8; omega) hdg hcs
  exact gx_call hr hD hS hA (fun v u H1 locs1 hB hP1 hD1 hS1 => kk v u hB H1 locs1 ls hP1 hD1 hS1 hl)
end GKU
/-! A state of a system: scalars by number, arrays by number. -/
abbrev gS := (Nat → Int32) × (Nat → Nat → Int32)
def up (f : Nat → Int32) (k : Nat) (v : Int32) : Nat → Int32 := fun j => bif Nat.beq j k then v else f j
def ua (f : Nat → Nat → Int32) (k : Nat) (g : Nat → Int32) : Nat → Nat → Int32 := fun j => bif Nat.beq j k then g else f j
def gBi (W : gS → va_W) (Q : Int32 → gS → Prop) : Option Value → va_W → Prop := fun v u => ∃ (r : Int32) (s : gS), v = some (.int r) ∧ u = W s ∧ Q r s
def gBv (W : gS → va_W) (Q : gS → Prop) : Option Value → va_W → Prop := fun v u => ∃ s : gS, v = none ∧ u = W s ∧ Q s
theorem gBi_mk {W : gS → va_W} {Q : Int32 → gS → Prop} {r : Int32} {s : gS} (h : Q r s) : gBi W Q (some (.int r)) (W s) := ⟨r, s, rfl, rfl, h⟩
theorem gBv_mk {W : gS → va_W} {Q : gS → Prop} {s : gS} (h : Q s) : gBv W Q none (W s) := ⟨s, rfl, rfl, h⟩
theorem gki {X : gX} {E : gE} {cells slots pc : Nat} {lv : List (Nat × Value)} {rest : List Value} {W : gS → va_W} {Q : Int32 → gS → Prop} (k : ∀ (r : Int32) (s : gS), Q r s → gW X E cells slots (W s) lv pc (.int r :: rest)) : ∀ (v : Option Value) (u : va_W), gBi W Q v u → gW X E cells slots u lv pc (v.toList ++ rest) := by
  rintro v u ⟨r, s, rfl, rfl, h⟩
  exact k r s h
theorem gkv {X : gX} {E : gE} {cells slots pc : Nat} {lv : List (Nat × Value)} {rest : List Value} {W : gS → va_W} {Q : gS → Prop} (k : ∀ (s : gS), Q s → gW X E cells slots (W s) lv pc rest) : ∀ (v : Option Value) (u : va_W), gBv W Q v u → gW X E cells slots u lv pc (v.toList ++ rest) := by
  rintro v u ⟨s, rfl, rfl, h⟩
  exact k s h
end
section
/-! The cells of the class. -/
def wC (ad : Nat → Nat) (X : gX) (s : gS) : va_W := [(ad 0, .inr (5, [.ref (ad 1), .ref (ad 4), .ref (ad 6), .ref (ad 13), .ref (ad 16), .ref (ad 18), .ref (ad 20), .int (s.1 0), .int (s.1 1), .int (s.1 2)])),
  (ad 1, .inr (1, [.ref (ad 2), .ref (ad 3), .int (s.1 3), .int (s.1 4), .int (s.1 5), .int (s.1 6)])),
  (ad 2, .inl (X.2.1, 8000, .inl (s.2 0))),
  (ad 3, .inl (X.2.1, 40, .inl (s.2 1))),
  (ad 4, .inr (2, [.ref (ad 5), .int (s.1 7), .int (s.1 8)])),
  (ad 5, .inl (X.2.1, 100, .inl (s.2 2))),
  (ad 6, .inr (3, [.ref (ad 1), .ref (ad 7), .ref (ad 8), .ref (ad 9), .ref (ad 10), .ref (ad 11), .ref (ad 12), .int (s.1 9)])),
  (ad 7, .inl (X.2.1, 9, .inl (s.2 3))),
  (ad 8, .inl (X.2.1, 9, .inl (s.2 4))),
  (ad 9, .inl (X.2.1, 9, .inl (s.2 5))),
  (ad 10, .inl (X.2.1, 9, .inl (s.2 6))),
  (ad 11, .inl (X.2.1, 9, .inl (s.2 7))),
  (ad 12, .inl (X.2.2.1, 9, .inl (s.2 8))),
  (ad 13, .inr (4, [.ref (ad 1), .ref (ad 14)])),
  (ad 14, .inr (0, [.ref (ad 15)])),
  (ad 15, .inl (X.2.2.1, 200, .inl (s.2 9))),
  (ad 16, .inr (0, [.ref (ad 17)])),
  (ad 17, .inl (X.2.2.1, 200, .inl (s.2 10))),
  (ad 18, .inr (0, [.ref (ad 19)])),
  (ad 19, .inl (X.2.2.1, 200, .inl (s.2 11))),
  (ad 20, .inl (X.2.1, 200, .inl (s.2 12)))]
end
section
def rm_Memory_clear : Room := { frames := 0, cells := 0, slots := 0, locals := 0 }
def wp_Memory_clear (s : gS) (Q : gS → Prop) : Prop := Q (up s.1 7 (0), s.2)
set_option maxHeartbeats 4000000 in
set_option maxRecDepth 100000 in
theorem w_Memory_clear (X : gX) (ad : Nat → Nat) (s : gS) (Q : gS → Prop) (h : wp_Memory_clear  s Q) (E : gE) (C : gC X E b_ME_clear 1 R_ME) (hRm : gRm E = rm_Memory_clear) (r : gR X E b_ME_clear none (gBv (wC ad X) Q)) : gW X E 0 0 (wC ad X s) [(0, .ref (ad 4))] 0 [] := by
  have h : Q (up s.1 7 (0), s.2) := h
  refine g_aload_n C d_ME_clear_0 rfl 0 rfl ?_
  refine g_iconst C 0 d_ME_clear_1 (by decide) ?_
  refine g_put C (ws2 := wC ad X (up s.1 7 (0), s.2)) 4 1 iw_ME ty_ME tyok_ME nm_ME rfl rfl (by decide) (gt 152 (by decide +kernel) rfl) rfl rfl rfl rfl (Nat.le_of_ble_eq_true rfl) rfl d_ME_clear_2 ?_
  exact g_vret r d_ME_clear_5 (gBv_mk h)
theorem m_Memory_clear (X : gX) (ad : Nat → Nat) (s : gS) (Q : gS → Prop) (h : wp_Memory_clear  s Q) (l : Launch) : gM l X y_ME_clear b_ME_clear 1 none rm_Memory_clear [.ref (ad 4)] (wC ad X s) (gBv (wC ad X) Q) :=
  gM_of (by decide +kernel) rfl (Nat.le_of_ble_eq_true rfl) rfl (fun E C hRm r => w_Memory_clear X ad  s Q h E C hRm r)
def rm_Runs_clear : Room := { frames := 0, cells := 0, slots := 0, locals := 0 }
def wp_Runs_clear (s : gS) (Q : gS → Prop) : Prop := Q (up s.1 9 (0), s.2)
set_option maxHeartbeats 4000000 in
set_option maxRecDepth 100000 in
theorem w_Runs_clear (X : gX) (ad : Nat → Nat) (s : gS) (Q : gS → Prop) (h : wp_Runs_clear  s Q) (E : gE) (C : gC X E b_RU_clear 1 R_RU) (hRm : gRm E = rm_Runs_clear) (r : gR X E b_RU_clear none (gBv (wC ad X) Q)) : gW X E 0 0 (wC ad X s) [(0, .ref (ad 6))] 0 [] := by
  have h : Q (up s.1 9 (0), s.2) := h
  refine g_aload_n C d_RU_clear_0 rfl 0 rfl ?_
  refine g_iconst C 0 d_RU_clear_1 (by decide) ?_
  refine g_put C (ws2 := wC ad X (up s.1 9 (0), s.2)) 6 7 iw_RU ty_RU tyok_RU nm_RU rfl rfl (by decide) (gt 183 (by decide +kernel) rfl) rfl rfl rfl rfl (Nat.le_of_ble_eq_true rfl) rfl d_RU_clear_2 ?_
  exact g_vret r d_RU_clear_5 (gBv_mk h)
theorem m_Runs_clear (X : gX) (ad : Nat → Nat) (s : gS) (Q : gS → Prop) (h : wp_Runs_clear  s Q) (l : Launch) : gM l X y_RU_clear b_RU_clear 1 none rm_Runs_clear [.ref (ad 6)] (wC ad X s) (gBv (wC ad X) Q) :=
  gM_of (by decide +kernel) rfl (Nat.le_of_ble_eq_true rfl) rfl (fun E C hRm r => w_Runs_clear X ad  s Q h E C hRm r)
def rm_BlockSet_clear_16 : Room := { frames := 0, cells := 0, slots := 0, locals := 0 }
def wl_BlockSet_clear_16_2 (Q : gS → Prop) (K : Int32 → gS → Prop) : Nat → Int32 → gS → Prop
  | 0, _, _ => False
  | n + 1, x1, s => ((200 ≤ x1 → K x1 s) ∧ (¬ 200 ≤ x1 → vp_in x1 200 ∧ (∀ v3 : Int32, v3 = x1 + 1 → wl_BlockSet_clear_16_2 Q K n v3 (s.1, ua s.2 10 (upd (s.2 10) x1.toNatClampNeg (vp_nar .boolean 0))))))
set_option maxHeartbeats 4000000 in
set_option maxRecDepth 100000 in
theorem w_BlockSet_clear_16_2 (X : gX) (ad : Nat → Nat) (Q : gS → Prop) (K : Int32 → gS → Prop) (E : gE) (C : gC X E b_BS_clear 2 R_BS) (hRm : gRm E = rm_BlockSet_clear_16) (r : gR X E b_BS_clear none (gBv (wC ad X) Q)) (hK : ∀ (x1 : Int32) (s : gS), K x1 s → gW X E 0 0 (wC ad X s) [(0, .ref (ad 16)), (1, .int x1)] 24 []) : ∀ (n : Nat) (x1 : Int32) (s : gS), wl_BlockSet_clear_16_2 Q K n x1 s → gW X E 0 0 (wC ad X s) [(0, .ref (ad 16)), (1, .int x1)] 2 [] := by
  intro n
  induction n with
  | zero => intro x1 s h; exact False.elim h
  | succ n ih =>
    intro x1 s h
    have h : ((200 ≤ x1 → K x1 s) ∧ (¬ 200 ≤ x1 → vp_in x1 200 ∧ (∀ v3 : Int32, v3 = x1 + 1 → wl_BlockSet_clear_16_2 Q K n v3 (s.1, ua s.2 10 (upd (s.2 10) x1.toNatClampNeg (vp_nar .boolean 0)))))) := h
    refine g_iload_n C d_BS_clear_2 rfl 1 rfl ?_
    refine g_aload_n C d_BS_clear_3 rfl 0 rfl ?_
    refine g_get C (v := .ref (ad 17)) 16 0 iw_BS rfl rfl (by decide) (gt 216 (by decide +kernel) rfl) rfl rfl d_BS_clear_4 ?_
    refine g_alen C 17 1 200 rfl rfl rfl d_BS_clear_7 ?_
    refine g_icmp_ge C 24 d_BS_clear_8 (by decide) (fun c1 => ?_) (fun c1 => ?_)
    · have h := h.1 c1
      exact hK x1 s h
    · have h := h.2 c1
      refine g_aload_n C d_BS_clear_11 rfl 0 rfl ?_
      refine g_get C (v := .ref (ad 17)) 16 0 iw_BS rfl rfl (by decide) (gt 216 (by decide +kernel) rfl) rfl rfl d_BS_clear_12 ?_
      refine g_iload_n C d_BS_clear_15 rfl 1 rfl ?_
      refine g_iconst C 0 d_BS_clear_16 (by decide) ?_
      obtain ⟨i2, h⟩ := h
      refine g_zast C 17 1 (ws2 := wC ad X (s.1, ua s.2 10 (upd (s.2 10) x1.toNatClampNeg (vp_nar .boolean 0)))) rfl rfl i2 rfl d_BS_clear_17 ?_
      obtain ⟨v3, e_v3⟩ : ∃ y : Int32, y = x1 + 1 := ⟨_, rfl⟩
      have h := h v3 e_v3
      refine g_iinc C (v := v3) (lv2 := [(0, .ref (ad 16)), (1, .int v3)]) d_BS_clear_18 1 rfl (by rw [e_v3]; rfl) (by decide) rfl ?_
      refine g_goto C 2 d_BS_clear_21 (by decide) ?_
      exact ih v3 (s.1, ua s.2 10 (upd (s.2 10) x1.toNatClampNeg (vp_nar .boolean 0))) h
def wp_BlockSet_clear_16 (s : gS) (Q : gS → Prop) : Prop := ∃ n4 : Nat, wl_BlockSet_clear_16_2 Q (fun v6 s5 => Q s5)  n4 0 s
set_option maxHeartbeats 4000000 in
set_option maxRecDepth 100000 in
theorem w_BlockSet_clear_16 (X : gX) (ad : Nat → Nat) (s : gS) (Q : gS → Prop) (h : wp_BlockSet_clear_16  s Q) (E : gE) (C : gC X E b_BS_clear 2 R_BS) (hRm : gRm E = rm_BlockSet_clear_16) (r : gR X E b_BS_clear none (gBv (wC ad X) Q)) : gW X E 0 0 (wC ad X s) [(0, .ref (ad 16))] 0 [] := by
  have h : ∃ n4 : Nat, wl_BlockSet_clear_16_2 Q (fun v6 s5 => Q s5)  n4 0 s := h
  refine g_iconst C 0 d_BS_clear_0 (by decide) ?_
  refine g_istore_n C (lv2 := [(0, .ref (ad 16)), (1, .int 0)]) d_BS_clear_1 rfl (by decide) rfl ?_
  obtain ⟨n4, h⟩ := h
  refine w_BlockSet_clear_16_2 X ad Q (_)  E C hRm r ?_ n4 0 s h
  intro v6 s5 h
  exact g_vret r d_BS_clear_24 (gBv_mk h)
theorem m_BlockSet_clear_16 (X : gX) (ad : Nat → Nat) (s : gS) (Q : gS → Prop) (h : wp_BlockSet_clear_16  s Q) (l : Launch) : gM l X y_BS_clear b_BS_clear 2 none rm_BlockSet_clear_16 [.ref (ad 16)] (wC ad X s) (gBv (wC ad X) Q) :=
  gM_of (by decide +kernel) rfl (Nat.le_of_ble_eq_true rfl) rfl (fun E C hRm r => w_BlockSet_clear_16 X ad  s Q h E C hRm r)
def rm_SpillQueue_powerOff : Room := { frames := 1, cells := 0, slots := 0, locals := 21 }
def wp_SpillQueue_powerOff (s : gS) (Q : gS → Prop) : Prop := wp_Memory_clear (up (up s.1 2 (0)) 1 (0), s.2) (fun s1 => wp_Runs_clear s1 (fun s3 => wp_BlockSet_clear_16 s3 (fun s5 => Q (up s5.1 6 (0), s5.2))))
set_option maxHeartbeats 4000000 in
set_option maxRecDepth 100000 in
theorem w_SpillQueue_powerOff (X : gX) (ad : Nat → Nat) (s : gS) (Q : gS → Prop) (h : wp_SpillQueue_powerOff  s Q) (E : gE) (C : gC X E b_SQ_powerOff 1 R_SQ) (hRm : gRm E = rm_SpillQueue_powerOff) (r : gR X E b_SQ_powerOff none (gBv (wC ad X) Q)) : gW X E 0 0 (wC ad X s) [(0, .ref (ad 0))] 0 [] := by
  have h : wp_Memory_clear (up (up s.1 2 (0)) 1 (0), s.2) (fun s1 => wp_Runs_clear s1 (fun s3 => wp_BlockSet_clear_16 s3 (fun s5 => Q (up s5.1 6 (0), s5.2)))) := h
  refine g_aload_n C d_SQ_powerOff_0 rfl 0 rfl ?_
  refine g_iconst C 0 d_SQ_powerOff_1 (by decide) ?_
  refine g_put C (ws2 := wC ad X (up s.1 2 (0), s.2)) 0 9 iw_SQ ty_SQ tyok_SQ nm_SQ rfl rfl (by decide) (gt 238 (by decide +kernel) rfl) rfl rfl (by decide +kernel) (by decide +kernel) (Nat.le_of_ble_eq_true rfl) rfl d_SQ_powerOff_2 ?_
  refine g_aload_n C d_SQ_powerOff_5 rfl 0 rfl ?_
  refine g_iconst C 0 d_SQ_powerOff_6 (by decide) ?_
  refine g_put C (ws2 := wC ad X (up (up s.1 2 (0)) 1 (0), s.2)) 0 8 iw_SQ ty_SQ tyok_SQ nm_SQ rfl rfl (by decide) (gt 237 (by decide +kernel) rfl) rfl rfl rfl rfl (Nat.le_of_ble_eq_true rfl) rfl d_SQ_powerOff_7 ?_
  refine g_aload_n C d_SQ_powerOff_10 rfl 0 rfl ?_
  refine g_get C (v := .ref (ad 4)) 0 1 iw_SQ rfl rfl (by decide) (gt 230 (by decide +kernel) rfl) rfl rfl d_SQ_powerOff_11 ?_
  refine g_callVN (host := "SpillQueue") C (rest := []) 4 (fun l => m_Memory_clear X ad  (up (up s.1 2 (0)) 1 (0), s.2) _ h l) rfl rfl (gn 355 (by decide +kernel) rfl) cb_ME_clear ⟨rfl, rfl⟩ (by rw [hRm]; decide) ⟨Nat.zero_le _, Nat.zero_le _⟩ rfl rfl (Nat.le_of_ble_eq_true rfl) d_SQ_powerOff_14 (gkv (fun s1 h => ?_))
  refine g_aload_n C d_SQ_powerOff_17 rfl 0 rfl ?_
  refine g_get C (v := .ref (ad 6)) 0 2 iw_SQ rfl rfl (by decide) (gt 231 (by decide +kernel) rfl) rfl rfl d_SQ_powerOff_18 ?_
  refine g_callVN (host := "SpillQueue") C (rest := []) 6 (fun l => m_Runs_clear X ad  s1 _ h l) rfl rfl (gn 359 (by decide +kernel) rfl) cb_RU_clear ⟨rfl, rfl⟩ (by rw [hRm]; decide) ⟨Nat.zero_le _, Nat.zero_le _⟩ rfl rfl (Nat.le_of_ble_eq_true rfl) d_SQ_powerOff_21 (gkv (fun s3 h => ?_))
  refine g_aload_n C d_SQ_powerOff_24 rfl 0 rfl ?_
  refine g_get C (v := .ref (ad 16)) 0 4 iw_SQ rfl rfl (by decide) (gt 233 (by decide +kernel) rfl) rfl rfl d_SQ_powerOff_25 ?_
  refine g_callVN (host := "SpillQueue") C (rest := []) 16 (fun l => m_BlockSet_clear_16 X ad  s3 _ h l) rfl rfl (gn 363 (by decide +kernel) rfl) cb_BS_clear ⟨rfl, rfl⟩ (by rw [hRm]; decide) ⟨Nat.zero_le _, Nat.zero_le _⟩ rfl rfl (Nat.le_of_ble_eq_true rfl) d_SQ_powerOff_28 (gkv (fun s5 h => ?_))
  refine g_aload_n C d_SQ_powerOff_31 rfl 0 rfl ?_
  refine g_get C (v := .ref (ad 1)) 0 0 iw_SQ rfl rfl (by decide) (gt 229 (by decide +kernel) rfl) rfl rfl d_SQ_powerOff_32 ?_
  refine g_iconst C 0 d_SQ_powerOff_35 (by decide) ?_
  refine g_putN (host := "SpillQueue") C (ws2 := wC ad X (up s5.1 6 (0), s5.2)) 1 5 iw_DK ty_DK tyok_DK nm_DK rfl rfl (by decide) (gn 127 (by decide +kernel) rfl) rfl rfl rfl rfl (Nat.le_of_ble_eq_true rfl) rfl d_SQ_powerOff_36 ?_
  exact g_vret r d_SQ_powerOff_39 (gBv_mk h)
theorem m_SpillQueue_powerOff (X : gX) (ad : Nat → Nat) (s : gS) (Q : gS → Prop) (h : wp_SpillQueue_powerOff  s Q) (l : Launch) : gM l X y_SQ_powerOff b_SQ_powerOff 1 none rm_SpillQueue_powerOff [.ref (ad 0)] (wC ad X s) (gBv (wC ad X) Q) :=
  gM_of (by decide +kernel) rfl (Nat.le_of_ble_eq_true rfl) rfl (fun E C hRm r => w_SpillQueue_powerOff X ad  s Q h E C hRm r)
def rm_Arrays_fill_2 : Room := { frames := 0, cells := 0, slots := 0, locals := 0 }
def wl_Arrays_fill_2_5 (Q : gS → Prop) (K : Int32 → gS → Prop) (x1 : Int32) (x3 : Int32) : Nat → Int32 → gS → Prop
  | 0, _, _ => False
  | n + 1, x2, s => ((x3 ≤ x2 → K x2 s) ∧ (¬ x3 ≤ x2 → vp_in x2 8000 ∧ (∀ v3 : Int32, v3 = x2 + 1 → wl_Arrays_fill_2_5 Q K x1 x3 n v3 (s.1, ua s.2 0 (upd (s.2 0) x2.toNatClampNeg x1)))))
set_option maxHeartbeats 4000000 in
set_option maxRecDepth 100000 in
theorem w_Arrays_fill_2_5 (X : gX) (ad : Nat → Nat) (Q : gS → Prop) (K : Int32 → gS → Prop) (x1 : Int32) (x3 : Int32) (E : gE) (C : gC X E b_AR_fill 4 R_AR) (hRm : gRm E = rm_Arrays_fill_2) (r : gR X E b_AR_fill none (gBv (wC ad X) Q)) (hK : ∀ (x2 : Int32) (s : gS), K x2 s → gW X E 0 0 (wC ad X s) [(0, .ref (ad 2)), (1, .int x1), (2, .int x2), (3, .int x3)] 20 []) : ∀ (n : Nat) (x2 : Int32) (s : gS), wl_Arrays_fill_2_5 Q K x1 x3 n x2 s → gW X E 0 0 (wC ad X s) [(0, .ref (ad 2)), (1, .int x1), (2, .int x2), (3, .int x3)] 5 [] := by
  intro n
  induction n with
  | zero => intro x2 s h; exact False.elim h
  | succ n ih =>
    intro x2 s h
    have h : ((x3 ≤ x2 → K x2 s) ∧ (¬ x3 ≤ x2 → vp_in x2 8000 ∧ (∀ v3 : Int32, v3 = x2 + 1 → wl_Arrays_fill_2_5 Q K x1 x3 n v3 (s.1, ua s.2 0 (upd (s.2 0) x2.toNatClampNeg x1))))) := h
    refine g_iload_n C d_AR_fill_5 rfl 2 rfl ?_
    refine g_iload_n C d_AR_fill_6 rfl 3 rfl ?_
    refine g_icmp_ge C 20 d_AR_fill_7 (by decide) (fun c1 => ?_) (fun c1 => ?_)
    · have h := h.1 c1
      exact hK x2 s h
    · have h := h.2 c1
      refine g_aload_n C d_AR_fill_10 rfl 0 rfl ?_
      refine g_iload_n C d_AR_fill_11 rfl 2 rfl ?_
      refine g_iload_n C d_AR_fill_12 rfl 1 rfl ?_
      obtain ⟨i2, h⟩ := h
      refine g_iast C 2 0 (ws2 := wC ad X (s.1, ua s.2 0 (upd (s.2 0) x2.toNatClampNeg x1))) rfl rfl i2 rfl d_AR_fill_13 ?_
      obtain ⟨v3, e_v3⟩ : ∃ y : Int32, y = x2 + 1 := ⟨_, rfl⟩
      have h := h v3 e_v3
      refine g_iinc C (v := v3) (lv2 := [(0, .ref (ad 2)), (1, .int x1), (2, .int v3), (3, .int x3)]) d_AR_fill_14 2 rfl (by rw [e_v3]; rfl) (by decide) rfl ?_
      refine g_goto C 5 d_AR_fill_17 (by decide) ?_
      exact ih v3 (s.1, ua s.2 0 (upd (s.2 0) x2.toNatClampNeg x1)) h
def wp_Arrays_fill_2 (a1 : Int32) (s : gS) (Q : gS → Prop) : Prop := ∃ n4 : Nat, wl_Arrays_fill_2_5 Q (fun v6 s5 => Q s5) a1 8000 n4 0 s
set_option maxHeartbeats 4000000 in
set_option maxRecDepth 100000 in
theorem w_Arrays_fill_2 (X : gX) (ad : Nat → Nat) (a1 : Int32) (s : gS) (Q : gS → Prop) (h : wp_Arrays_fill_2 a1 s Q) (E : gE) (C : gC X E b_AR_fill 4 R_AR) (hRm : gRm E = rm_Arrays_fill_2) (r : gR X E b_AR_fill none (gBv (wC ad X) Q)) : gW X E 0 0 (wC ad X s) [(0, .ref (ad 2)), (1, .int a1)] 0 [] := by
  have h : ∃ n4 : Nat, wl_Arrays_fill_2_5 Q (fun v6 s5 => Q s5) a1 8000 n4 0 s := h
  refine g_iconst C 0 d_AR_fill_0 (by decide) ?_
  refine g_istore_n C (lv2 := [(0, .ref (ad 2)), (1, .int a1), (2, .int 0)]) d_AR_fill_1 rfl (by decide) rfl ?_
  refine g_aload_n C d_AR_fill_2 rfl 0 rfl ?_
  refine g_alen C 2 0 8000 rfl rfl rfl d_AR_fill_3 ?_
  refine g_istore_n C (lv2 := [(0, .ref (ad 2)), (1, .int a1), (2, .int 0), (3, .int 8000)]) d_AR_fill_4 rfl (by decide) rfl ?_
  obtain ⟨n4, h⟩ := h
  refine w_Arrays_fill_2_5 X ad Q (_) a1 8000 E C hRm r ?_ n4 0 s h
  intro v6 s5 h
  exact g_vret r d_AR_fill_20 (gBv_mk h)
theorem m_Arrays_fill_2 (X : gX) (ad : Nat → Nat) (a1 : Int32) (s : gS) (Q : gS → Prop) (h : wp_Arrays_fill_2 a1 s Q) (l : Launch) : gM l X y_AR_fill b_AR_fill 4 none rm_Arrays_fill_2 [.ref (ad 2), .int a1] (wC ad X s) (gBv (wC ad X) Q) :=
  gM_of (by decide +kernel) rfl (Nat.le_of_ble_eq_true rfl) rfl (fun E C hRm r => w_Arrays_fill_2 X ad a1 s Q h E C hRm r)
def rm_Disk_renew : Room := { frames := 1, cells := 0, slots := 0, locals := 23 }
def wp_Disk_renew (a1 : Int32) (a2 : Int32) (s : gS) (Q : gS → Prop) : Prop := wp_Arrays_fill_2 0 (up (up (up (up s.1 3 (a1)) 4 (a2)) 5 (0)) 6 (0), s.2) (fun s1 => Q s1)
set_option maxHeartbeats 4000000 in
set_option maxRecDepth 100000 in
theorem w_Disk_renew (X : gX) (ad : Nat → Nat) (a1 : Int32) (a2 : Int32) (s : gS) (Q : gS → Prop) (h : wp_Disk_renew a1 a2 s Q) (E : gE) (C : gC X E b_DK_renew 3 R_DK) (hRm : gRm E = rm_Disk_renew) (r : gR X E b_DK_renew none (gBv (wC ad X) Q)) : gW X E 0 0 (wC ad X s) [(0, .ref (ad 1)), (1, .int a1), (2, .int a2)] 0 [] := by
  have h : wp_Arrays_fill_2 0 (up (up (up (up s.1 3 (a1)) 4 (a2)) 5 (0)) 6 (0), s.2) (fun s1 => Q s1) := h
  refine g_aload_n C d_DK_renew_0 rfl 0 rfl ?_
  refine g_iload_n C d_DK_renew_1 rfl 1 rfl ?_
  refine g_put C (ws2 := wC ad X (up s.1 3 (a1), s.2)) 1 2 iw_DK ty_DK tyok_DK nm_DK rfl rfl (by decide) (gt 120 (by decide +kernel) rfl) rfl rfl rfl rfl (Nat.le_of_ble_eq_true rfl) rfl d_DK_renew_2 ?_
  refine g_aload_n C d_DK_renew_5 rfl 0 rfl ?_
  refine g_iload_n C d_DK_renew_6 rfl 2 rfl ?_
  refine g_put C (ws2 := wC ad X (up (up s.1 3 (a1)) 4 (a2), s.2)) 1 3 iw_DK ty_DK tyok_DK nm_DK rfl rfl (by decide) (gt 123 (by decide +kernel) rfl) rfl rfl rfl rfl (Nat.le_of_ble_eq_true rfl) rfl d_DK_renew_7 ?_
  refine g_aload_n C d_DK_renew_10 rfl 0 rfl ?_
  refine g_iconst C 0 d_DK_renew_11 (by decide) ?_
  refine g_put C (ws2 := wC ad X (up (up (up s.1 3 (a1)) 4 (a2)) 5 (0), s.2)) 1 4 iw_DK ty_DK tyok_DK nm_DK rfl rfl (by decide) (gt 124 (by decide +kernel) rfl) rfl rfl rfl rfl (Nat.le_of_ble_eq_true rfl) rfl d_DK_renew_12 ?_
  refine g_aload_n C d_DK_renew_15 rfl 0 rfl ?_
  refine g_iconst C 0 d_DK_renew_16 (by decide) ?_
  refine g_put C (ws2 := wC ad X (up (up (up (up s.1 3 (a1)) 4 (a2)) 5 (0)) 6 (0), s.2)) 1 5 iw_DK ty_DK tyok_DK nm_DK rfl rfl (by decide) (gt 126 (by decide +kernel) rfl) rfl rfl rfl rfl (Nat.le_of_ble_eq_true rfl) rfl d_DK_renew_17 ?_
  refine g_aload_n C d_DK_renew_20 rfl 0 rfl ?_
  refine g_get C (v := .ref (ad 2)) 1 0 iw_DK rfl rfl (by decide) (gt 118 (by decide +kernel) rfl) rfl rfl d_DK_renew_21 ?_
  refine g_iconst C 0 d_DK_renew_24 (by decide) ?_
  refine g_callS C (rest := []) (fun l => m_Arrays_fill_2 X ad 0 (up (up (up (up s.1 3 (a1)) 4 (a2)) 5 (0)) 6 (0), s.2) _ h l) (gt 371 (by decide +kernel) rfl) cb_AR_fill ⟨rfl, rfl⟩ (by rw [hRm]; decide) ⟨Nat.zero_le _, Nat.zero_le _⟩ rfl rfl (Nat.le_of_ble_eq_true rfl) d_DK_renew_25 (gkv (fun s1 h => ?_))
  exact g_vret r d_DK_renew_28 (gBv_mk h)
theorem m_Disk_renew (X : gX) (ad : Nat → Nat) (a1 : Int32) (a2 : Int32) (s : gS) (Q : gS → Prop) (h : wp_Disk_renew a1 a2 s Q) (l : Launch) : gM l X y_DK_renew b_DK_renew 3 none rm_Disk_renew [.ref (ad 1), .int a1, .int a2] (wC ad X s) (gBv (wC ad X) Q) :=
  gM_of (by decide +kernel) rfl (Nat.le_of_ble_eq_true rfl) rfl (fun E C hRm r => w_Disk_renew X ad a1 a2 s Q h E C hRm r)
def rm_Arrays_fill_3 : Room := { frames := 0, cells := 0, slots := 0, locals := 0 }
def wl_Arrays_fill_3_5 (Q : gS → Prop) (K : Int32 → gS → Prop) (x1 : Int32) (x3 : Int32) : Nat → Int32 → gS → Prop
  | 0, _, _ => False
  | n + 1, x2, s => ((x3 ≤ x2 → K x2 s) ∧ (¬ x3 ≤ x2 → vp_in x2 40 ∧ (∀ v3 : Int32, v3 = x2 + 1 → wl_Arrays_fill_3_5 Q K x1 x3 n v3 (s.1, ua s.2 1 (upd (s.2 1) x2.toNatClampNeg x1)))))
set_option maxHeartbeats 4000000 in
set_option maxRecDepth 100000 in
theorem w_Arrays_fill_3_5 (X : gX) (ad : Nat → Nat) (Q : gS → Prop) (K : Int32 → gS → Prop) (x1 : Int32) (x3 : Int32) (E : gE) (C : gC X E b_AR_fill 4 R_AR) (hRm : gRm E = rm_Arrays_fill_3) (r : gR X E b_AR_fill none (gBv (wC ad X) Q)) (hK : ∀ (x2 : Int32) (s : gS), K x2 s → gW X E 0 0 (wC ad X s) [(0, .ref (ad 3)), (1, .int x1), (2, .int x2), (3, .int x3)] 20 []) : ∀ (n : Nat) (x2 : Int32) (s : gS), wl_Arrays_fill_3_5 Q K x1 x3 n x2 s → gW X E 0 0 (wC ad X s) [(0, .ref (ad 3)), (1, .int x1), (2, .int x2), (3, .int x3)] 5 [] := by
  intro n
  induction n with
  | zero => intro x2 s h; exact False.elim h
  | succ n ih =>
    intro x2 s h
    have h : ((x3 ≤ x2 → K x2 s) ∧ (¬ x3 ≤ x2 → vp_in x2 40 ∧ (∀ v3 : Int32, v3 = x2 + 1 → wl_Arrays_fill_3_5 Q K x1 x3 n v3 (s.1, ua s.2 1 (upd (s.2 1) x2.toNatClampNeg x1))))) := h
    refine g_iload_n C d_AR_fill_5 rfl 2 rfl ?_
    refine g_iload_n C d_AR_fill_6 rfl 3 rfl ?_
    refine g_icmp_ge C 20 d_AR_fill_7 (by decide) (fun c1 => ?_) (fun c1 => ?_)
    · have h := h.1 c1
      exact hK x2 s h
    · have h := h.2 c1
      refine g_aload_n C d_AR_fill_10 rfl 0 rfl ?_
      refine g_iload_n C d_AR_fill_11 rfl 2 rfl ?_
      refine g_iload_n C d_AR_fill_12 rfl 1 rfl ?_
      obtain ⟨i2, h⟩ := h
      refine g_iast C 3 0 (ws2 := wC ad X (s.1, ua s.2 1 (upd (s.2 1) x2.toNatClampNeg x1))) rfl rfl i2 rfl d_AR_fill_13 ?_
      obtain ⟨v3, e_v3⟩ : ∃ y : Int32, y = x2 + 1 := ⟨_, rfl⟩
      have h := h v3 e_v3
      refine g_iinc C (v := v3) (lv2 := [(0, .ref (ad 3)), (1, .int x1), (2, .int v3), (3, .int x3)]) d_AR_fill_14 2 rfl (by rw [e_v3]; rfl) (by decide) rfl ?_
      refine g_goto C 5 d_AR_fill_17 (by decide) ?_
      exact ih v3 (s.1, ua s.2 1 (upd (s.2 1) x2.toNatClampNeg x1)) h
def wp_Arrays_fill_3 (a1 : Int32) (s : gS) (Q : gS → Prop) : Prop := ∃ n4 : Nat, wl_Arrays_fill_3_5 Q (fun v6 s5 => Q s5) a1 40 n4 0 s
set_option maxHeartbeats 4000000 in
set_option maxRecDepth 100000 in
theorem w_Arrays_fill_3 (X : gX) (ad : Nat → Nat) (a1 : Int32) (s : gS) (Q : gS → Prop) (h : wp_Arrays_fill_3 a1 s Q) (E : gE) (C : gC X E b_AR_fill 4 R_AR) (hRm : gRm E = rm_Arrays_fill_3) (r : gR X E b_AR_fill none (gBv (wC ad X) Q)) : gW X E 0 0 (wC ad X s) [(0, .ref (ad 3)), (1, .int a1)] 0 [] := by
  have h : ∃ n4 : Nat, wl_Arrays_fill_3_5 Q (fun v6 s5 => Q s5) a1 40 n4 0 s := h
  refine g_iconst C 0 d_AR_fill_0 (by decide) ?_
  refine g_istore_n C (lv2 := [(0, .ref (ad 3)), (1, .int a1), (2, .int 0)]) d_AR_fill_1 rfl (by decide) rfl ?_
  refine g_aload_n C d_AR_fill_2 rfl 0 rfl ?_
  refine g_alen C 3 0 40 rfl rfl rfl d_AR_fill_3 ?_
  refine g_istore_n C (lv2 := [(0, .ref (ad 3)), (1, .int a1), (2, .int 0), (3, .int 40)]) d_AR_fill_4 rfl (by decide) rfl ?_
  obtain ⟨n4, h⟩ := h
  refine w_Arrays_fill_3_5 X ad Q (_) a1 40 E C hRm r ?_ n4 0 s h
  intro v6 s5 h
  exact g_vret r d_AR_fill_20 (gBv_mk h)
theorem m_Arrays_fill_3 (X : gX) (ad : Nat → Nat) (a1 : Int32) (s : gS) (Q : gS → Prop) (h : wp_Arrays_fill_3 a1 s Q) (l : Launch) : gM l X y_AR_fill b_AR_fill 4 none rm_Arrays_fill_3 [.ref (ad 3), .int a1] (wC ad X s) (gBv (wC ad X) Q) :=
  gM_of (by decide +kernel) rfl (Nat.le_of_ble_eq_true rfl) rfl (fun E C hRm r => w_Arrays_fill_3 X ad a1 s Q h E C hRm r)
def rm_Disk_clearRow : Room := { frames := 1, cells := 0, slots := 0, locals := 23 }
def wp_Disk_clearRow (s : gS) (Q : gS → Prop) : Prop := wp_Arrays_fill_3 0 s (fun s1 => Q s1)
set_option maxHeartbeats 4000000 in
set_option maxRecDepth 100000 in
theorem w_Disk_clearRow (X : gX) (ad : Nat → Nat) (s : gS) (Q : gS → Prop) (h : wp_Disk_clearRow  s Q) (E : gE) (C : gC X E b_DK_clearRow 1 R_DK) (hRm : gRm E = rm_Disk_clearRow) (r : gR X E b_DK_clearRow none (gBv (wC ad X) Q)) : gW X E 0 0 (wC ad X s) [(0, .ref (ad 1))] 0 [] := by
  have h : wp_Arrays_fill_3 0 s (fun s1 => Q s1) := h
  refine g_aload_n C d_DK_clearRow_0 rfl 0 rfl ?_
  refine g_get C (v := .ref (ad 3)) 1 1 iw_DK rfl rfl (by decide) (gt 119 (by decide +kernel) rfl) rfl rfl d_DK_clearRow_1 ?_
  refine g_iconst C 0 d_DK_clearRow_4 (by decide) ?_
  refine g_callS C (rest := []) (fun l => m_Arrays_fill_3 X ad 0 s _ h l) (gt 371 (by decide +kernel) rfl) cb_AR_fill ⟨rfl, rfl⟩ (by rw [hRm]; decide) ⟨Nat.zero_le _, Nat.zero_le _⟩ rfl rfl (Nat.le_of_ble_eq_true rfl) d_DK_clearRow_5 (gkv (fun s1 h => ?_))
  exact g_vret r d_DK_clearRow_8 (gBv_mk h)
theorem m_Disk_clearRow (X : gX) (ad : Nat → Nat) (s : gS) (Q : gS → Prop) (h : wp_Disk_clearRow  s Q) (l : Launch) : gM l X y_DK_clearRow b_DK_clearRow 1 none rm_Disk_clearRow [.ref (ad 1)] (wC ad X s) (gBv (wC ad X) Q) :=
  gM_of (by decide +kernel) rfl (Nat.le_of_ble_eq_true rfl) rfl (fun E C hRm r => w_Disk_clearRow X ad  s Q h E C hRm r)
def rm_Disk_setRow : Room := { frames := 0, cells := 0, slots := 0, locals := 0 }
def wp_Disk_setRow (a1 : Int32) (a2 : Int32) (s : gS) (Q : gS → Prop) : Prop := ((a1 < 0 → Q s) ∧ (¬ a1 < 0 → ((40 ≤ a1 → Q s) ∧ (¬ 40 ≤ a1 → vp_in a1 40 ∧ (Q (s.1, ua s.2 1 (upd (s.2 1) a1.toNatClampNeg a2)))))))
set_option maxHeartbeats 4000000 in
set_option maxRecDepth 100000 in
theorem w_Disk_setRow (X : gX) (ad : Nat → Nat) (a1 : Int32) (a2 : Int32) (s : gS) (Q : gS → Prop) (h : wp_Disk_setRow a1 a2 s Q) (E : gE) (C : gC X E b_DK_setRow 3 R_DK) (hRm : gRm E = rm_Disk_setRow) (r : gR X E b_DK_setRow none (gBv (wC ad X) Q)) : gW X E 0 0 (wC ad X s) [(0, .ref (ad 1)), (1, .int a1), (2, .int a2)] 0 [] := by
  have h : ((a1 < 0 → Q s) ∧ (¬ a1 < 0 → ((40 ≤ a1 → Q s) ∧ (¬ 40 ≤ a1 → vp_in a1 40 ∧ (Q (s.1, ua s.2 1 (upd (s.2 1) a1.toNatClampNeg a2))))))) := h
  refine g_iload_n C d_DK_setRow_0 rfl 1 rfl ?_
  refine g_if_lt C 20 d_DK_setRow_1 (by decide) (fun c1 => ?_) (fun c1 => ?_)
  · have h := h.1 c1
    exact g_vret r d_DK_setRow_20 (gBv_mk h)
  · have h := h.2 c1
    refine g_iload_n C d_DK_setRow_4 rfl 1 rfl ?_
    refine g_aload_n C d_DK_setRow_5 rfl 0 rfl ?_
    refine g_get C (v := .ref (ad 3)) 1 1 iw_DK rfl rfl (by decide) (gt 119 (by decide +kernel) rfl) rfl rfl d_DK_setRow_6 ?_
    refine g_alen C 3 0 40 rfl rfl rfl d_DK_setRow_9 ?_
    refine g_icmp_ge C 20 d_DK_setRow_10 (by decide) (fun c2 => ?_) (fun c2 => ?_)
    · have h := h.1 c2
      exact g_vret r d_DK_setRow_20 (gBv_mk h)
    · have h := h.2 c2
      refine g_aload_n C d_DK_setRow_13 rfl 0 rfl ?_
      refine g_get C (v := .ref (ad 3)) 1 1 iw_DK rfl rfl (by decide) (gt 119 (by decide +kernel) rfl) rfl rfl d_DK_setRow_14 ?_
      refine g_iload_n C d_DK_setRow_17 rfl 1 rfl ?_
      refine g_iload_n C d_DK_setRow_18 rfl 2 rfl ?_
      obtain ⟨i3, h⟩ := h
      refine g_iast C 3 0 (ws2 := wC ad X (s.1, ua s.2 1 (upd (s.2 1) a1.toNatClampNeg a2))) rfl rfl i3 rfl d_DK_setRow_19 ?_
      exact g_vret r d_DK_setRow_20 (gBv_mk h)
theorem m_Disk_setRow (X : gX) (ad : Nat → Nat) (a1 : Int32) (a2 : Int32) (s : gS) (Q : gS → Prop) (h : wp_Disk_setRow a1 a2 s Q) (l : Launch) : gM l X y_DK_setRow b_DK_setRow 3 none rm_Disk_setRow [.ref (ad 1), .int a1, .int a2] (wC ad X s) (gBv (wC ad X) Q) :=
  gM_of (by decide +kernel) rfl (Nat.le_of_ble_eq_true rfl) rfl (fun E C hRm r => w_Disk_setRow X ad a1 a2 s Q h E C hRm r)
def rm_Disk_sumOf : Room := { frames := 0, cells := 0, slots := 0, locals := 0 }
def wl_Disk_sumOf_25 (Q : Int32 → gS → Prop) (K : Int32 → Int32 → gS → Prop) (x1 : Int32) (x3 : Int32) : Nat → Int32 → Int32 → gS → Prop
  | 0, _, _, _ => False
  | n + 1, x2, x4, s => (((s.1 4) ≤ x4 → K x2 x4 s) ∧ (¬ (s.1 4) ≤ x4 → vp_in (x3 + x4) 8000 ∧ (∀ v6 : Int32, v6 = x2 + ((s.2 0 (x3 + x4).toNatClampNeg) * ((2 * x4) + 1)) → ∀ v7 : Int32, v7 = x4 + 1 → wl_Disk_sumOf_25 Q K x1 x3 n v6 v7 s)))
set_option maxHeartbeats 4000000 in
set_option maxRecDepth 100000 in
theorem w_Disk_sumOf_25 (X : gX) (ad : Nat → Nat) (Q : Int32 → gS → Prop) (K : Int32 → Int32 → gS → Prop) (x1 : Int32) (x3 : Int32) (E : gE) (C : gC X E b_DK_sumOf 5 R_DK) (hRm : gRm E = rm_Disk_sumOf) (r : gR X E b_DK_sumOf (some .int) (gBi (wC ad X) Q)) (hK : ∀ (x2 : Int32) (x4 : Int32) (s : gS), K x2 x4 s → gW X E 0 0 (wC ad X s) [(0, .ref (ad 1)), (1, .int x1), (2, .int x2), (3, .int x3), (4, .int x4)] 59 []) : ∀ (n : Nat) (x2 : Int32) (x4 : Int32) (s : gS), wl_Disk_sumOf_25 Q K x1 x3 n x2 x4 s → gW X E 0 0 (wC ad X s) [(0, .ref (ad 1)), (1, .int x1), (2, .int x2), (3, .int x3), (4, .int x4)] 25 [] := by
  intro n
  induction n with
  | zero => intro x2 x4 s h; exact False.elim h
  | succ n ih =>
    intro x2 x4 s h
    have h : (((s.1 4) ≤ x4 → K x2 x4 s) ∧ (¬ (s.1 4) ≤ x4 → vp_in (x3 + x4) 8000 ∧ (∀ v6 : Int32, v6 = x2 + ((s.2 0 (x3 + x4).toNatClampNeg) * ((2 * x4) + 1)) → ∀ v7 : Int32, v7 = x4 + 1 → wl_Disk_sumOf_25 Q K x1 x3 n v6 v7 s))) := h
    refine g_iload C d_DK_sumOf_25 4 rfl ?_
    refine g_aload_n C d_DK_sumOf_27 rfl 0 rfl ?_
    refine g_get C (v := .int (s.1 4)) 1 3 iw_DK rfl rfl (by decide) (gt 123 (by decide +kernel) rfl) rfl rfl d_DK_sumOf_28 ?_
    refine g_icmp_ge C 59 d_DK_sumOf_31 (by decide) (fun c4 => ?_) (fun c4 => ?_)
    · have h := h.1 c4
      exact hK x2 x4 s h
    · have h := h.2 c4
      refine g_iload_n C d_DK_sumOf_34 rfl 2 rfl ?_
      refine g_aload_n C d_DK_sumOf_35 rfl 0 rfl ?_
      refine g_get C (v := .ref (ad 2)) 1 0 iw_DK rfl rfl (by decide) (gt 118 (by decide +kernel) rfl) rfl rfl d_DK_sumOf_36 ?_
      refine g_iload_n C d_DK_sumOf_39 rfl 3 rfl ?_
      refine g_iload C d_DK_sumOf_40 4 rfl ?_
      refine g_iadd C d_DK_sumOf_42 ?_
      obtain ⟨i5, h⟩ := h
      refine g_iald C 2 0 rfl rfl i5 d_DK_sumOf_43 ?_
      refine g_iconst C 2 d_DK_sumOf_44 (by decide) ?_
      refine g_iload C d_DK_sumOf_45 4 rfl ?_
      refine g_imul C d_DK_sumOf_47 ?_
      refine g_iconst C 1 d_DK_sumOf_48 (by decide) ?_
      refine g_iadd C d_DK_sumOf_49 ?_
      refine g_imul C d_DK_sumOf_50 ?_
      refine g_iadd C d_DK_sumOf_51 ?_
      refine g_topi (fun v6 e_v6 => ?_)
      have h := h v6 e_v6
      refine g_istore_n C (lv2 := [(0, .ref (ad 1)), (1, .int x1), (2, .int v6), (3, .int x3), (4, .int x4)]) d_DK_sumOf_52 rfl (by decide) rfl ?_
      obtain ⟨v7, e_v7⟩ : ∃ y : Int32, y = x4 + 1 := ⟨_, rfl⟩
      have h := h v7 e_v7
      refine g_iinc C (v := v7) (lv2 := [(0, .ref (ad 1)), (1, .int x1), (2, .int v6), (3, .int x3), (4, .int v7)]) d_DK_sumOf_53 4 rfl (by rw [e_v7]; rfl) (by decide) rfl ?_
      refine g_goto C 25 d_DK_sumOf_56 (by decide) ?_
      exact ih v6 v7 s h
def wp_Disk_sumOf (a1 : Int32) (s : gS) (Q : Int32 → gS → Prop) : Prop := ((a1 < 0 → Q 7 s) ∧ (¬ a1 < 0 → (((s.1 3) ≤ a1 → Q 7 s) ∧ (¬ (s.1 3) ≤ a1 → ∀ v3 : Int32, v3 = a1 * (s.1 4) → ∃ n8 : Nat, wl_Disk_sumOf_25 Q (fun v10 v11 s9 => Q v10 s9) a1 v3 n8 7 1 s))))
set_option maxHeartbeats 4000000 in
set_option maxRecDepth 100000 in
theorem w_Disk_sumOf (X : gX) (ad : Nat → Nat) (a1 : Int32) (s : gS) (Q : Int32 → gS → Prop) (h : wp_Disk_sumOf a1 s Q) (E : gE) (C : gC X E b_DK_sumOf 5 R_DK) (hRm : gRm E = rm_Disk_sumOf) (r : gR X E b_DK_sumOf (some .int) (gBi (wC ad X) Q)) : gW X E 0 0 (wC ad X s) [(0, .ref (ad 1)), (1, .int a1)] 0 [] := by
  have h : ((a1 < 0 → Q 7 s) ∧ (¬ a1 < 0 → (((s.1 3) ≤ a1 → Q 7 s) ∧ (¬ (s.1 3) ≤ a1 → ∀ v3 : Int32, v3 = a1 * (s.1 4) → ∃ n8 : Nat, wl_Disk_sumOf_25 Q (fun v10 v11 s9 => Q v10 s9) a1 v3 n8 7 1 s)))) := h
  refine g_bipush C 7 d_DK_sumOf_0 (by decide) ?_
  refine g_istore_n C (lv2 := [(0, .ref (ad 1)), (1, .int a1), (2, .int 7)]) d_DK_sumOf_2 rfl (by decide) rfl ?_
  refine g_iload_n C d_DK_sumOf_3 rfl 1 rfl ?_
  refine g_if_lt C 59 d_DK_sumOf_4 (by decide) (fun c1 => ?_) (fun c1 => ?_)
  · have h := h.1 c1
    refine g_iload_n C d_DK_sumOf_59 rfl 2 rfl ?_
    exact g_iret r rfl d_DK_sumOf_60 (gBi_mk h)
  · have h := h.2 c1
    refine g_iload_n C d_DK_sumOf_7 rfl 1 rfl ?_
    refine g_aload_n C d_DK_sumOf_8 rfl 0 rfl ?_
    refine g_get C (v := .int (s.1 3)) 1 2 iw_DK rfl rfl (by decide) (gt 120 (by decide +kernel) rfl) rfl rfl d_DK_sumOf_9 ?_
    refine g_icmp_ge C 59 d_DK_sumOf_12 (by decide) (fun c2 => ?_) (fun c2 => ?_)
    · have h := h.1 c2
      refine g_iload_n C d_DK_sumOf_59 rfl 2 rfl ?_
      exact g_iret r rfl d_DK_sumOf_60 (gBi_mk h)
    · have h := h.2 c2
      refine g_iload_n C d_DK_sumOf_15 rfl 1 rfl ?_
      refine g_aload_n C d_DK_sumOf_16 rfl 0 rfl ?_
      refine g_get C (v := .int (s.1 4)) 1 3 iw_DK rfl rfl (by decide) (gt 123 (by decide +kernel) rfl) rfl rfl d_DK_sumOf_17 ?_
      refine g_imul C d_DK_sumOf_20 ?_
      refine g_topi (fun v3 e_v3 => ?_)
      have h := h v3 e_v3
      refine g_istore_n C (lv2 := [(0, .ref (ad 1)), (1, .int a1), (2, .int 7), (3, .int v3)]) d_DK_sumOf_21 rfl (by decide) rfl ?_
      refine g_iconst C 1 d_DK_sumOf_22 (by decide) ?_
      refine g_istore C (lv2 := [(0, .ref (ad 1)), (1, .int a1), (2, .int 7), (3, .int v3), (4, .int 1)]) d_DK_sumOf_23 (by decide) rfl ?_
      obtain ⟨n8, h⟩ := h
      refine w_Disk_sumOf_25 X ad Q (_) a1 v3 E C hRm r ?_ n8 7 1 s h
      intro v10 v11 s9 h
      refine g_iload_n C d_DK_sumOf_59 rfl 2 rfl ?_
      exact g_iret r rfl d_DK_sumOf_60 (gBi_mk h)
theorem m_Disk_sumOf (X : gX) (ad : Nat → Nat) (a1 : Int32) (s : gS) (Q : Int32 → gS → Prop) (h : wp_Disk_sumOf a1 s Q) (l : Launch) : gM l X y_DK_sumOf b_DK_sumOf 5 (some .int) rm_Disk_sumOf [.ref (ad 1), .int a1] (wC ad X s) (gBi (wC ad X) Q) :=
  gM_of (by decide +kernel) rfl (Nat.le_of_ble_eq_true rfl) rfl (fun E C hRm r => w_Disk_sumOf X ad a1 s Q h E C hRm r)
def rm_Disk_writeRow : Room := { frames := 1, cells := 0, slots := 0, locals := 24 }
def wp_Disk_writeRow (a1 : Int32) (s : gS) (Q : Int32 → gS → Prop) : Prop := (((s.1 6) ≤ 0 → ((a1 < 0 → Q 1 s) ∧ (¬ a1 < 0 → (((s.1 3) ≤ a1 → Q 1 s) ∧ (¬ (s.1 3) ≤ a1 → (¬ (0 : Int32) < 0 ∧ ¬ (a1 * (s.1 4)) < 0 ∧ ¬ (s.1 4) < 0 ∧ (0 : Int32).toNatClampNeg + (s.1 4).toNatClampNeg ≤ 40 ∧ (a1 * (s.1 4)).toNatClampNeg + (s.1 4).toNatClampNeg ≤ 8000) ∧ (wp_Disk_sumOf a1 (s.1, ua s.2 0 (va_cpy (s.2 1) (s.2 0) (0 : Int32).toNatClampNeg (a1 * (s.1 4)).toNatClampNeg (s.1 4).toNatClampNeg)) (fun r6 s5 => vp_in ((a1 * (s.1 4)) + 0) 8000 ∧ (∀ v8 : Int32, v8 = (s5.1 5) + 1 → Q 1 (up s5.1 5 (v8), ua s5.2 0 (upd (s5.2 0) ((a1 * (s.1 4)) + 0).toNatClampNeg r6)))))))))) ∧ (¬ (s.1 6) ≤ 0 → ∀ v9 : Int32, v9 = (s.1 6) - 1 → ((¬ v9 = 0 → ((a1 < 0 → Q 1 (up s.1 6 (v9), s.2)) ∧ (¬ a1 < 0 → (((s.1 3) ≤ a1 → Q 1 (up s.1 6 (v9), s.2)) ∧ (¬ (s.1 3) ≤ a1 → (¬ (0 : Int32) < 0 ∧ ¬ (a1 * (s.1 4)) < 0 ∧ ¬ (s.1 4) < 0 ∧ (0 : Int32).toNatClampNeg + (s.1 4).toNatClampNeg ≤ 40 ∧ (a1 * (s.1 4)).toNatClampNeg + (s.1 4).toNatClampNeg ≤ 8000) ∧ (wp_Disk_sumOf a1 (up s.1 6 (v9), ua s.2 0 (va_cpy (s.2 1) (s.2 0) (0 : Int32).toNatClampNeg (a1 * (s.1 4)).toNatClampNeg (s.1 4).toNatClampNeg)) (fun r15 s14 => vp_in ((a1 * (s.1 4)) + 0) 8000 ∧ (∀ v17 : Int32, v17 = (s14.1 5) + 1 → Q 1 (up s14.1 5 (v17), ua s14.2 0 (upd (s14.2 0) ((a1 * (s.1 4)) + 0).toNatClampNeg r15)))))))))) ∧ (v9 = 0 → Q 0 (up s.1 6 (v9), s.2)))))
set_option maxHeartbeats 4000000 in
set_option maxRecDepth 100000 in
theorem w_Disk_writeRow (X : gX) (ad : Nat → Nat) (a1 : Int32) (s : gS) (Q : Int32 → gS → Prop) (h : wp_Disk_writeRow a1 s Q) (E : gE) (C : gC X E b_DK_writeRow 2 R_DK) (hRm : gRm E = rm_Disk_writeRow) (r : gR X E b_DK_writeRow (some .boolean) (gBi (wC ad X) Q)) : gW X E 0 0 (wC ad X s) [(0, .ref (ad 1)), (1, .int a1)] 0 [] := by
  have h : (((s.1 6) ≤ 0 → ((a1 < 0 → Q 1 s) ∧ (¬ a1 < 0 → (((s.1 3) ≤ a1 → Q 1 s) ∧ (¬ (s.1 3) ≤ a1 → (¬ (0 : Int32) < 0 ∧ ¬ (a1 * (s.1 4)) < 0 ∧ ¬ (s.1 4) < 0 ∧ (0 : Int32).toNatClampNeg + (s.1 4).toNatClampNeg ≤ 40 ∧ (a1 * (s.1 4)).toNatClampNeg + (s.1 4).toNatClampNeg ≤ 8000) ∧ (wp_Disk_sumOf a1 (s.1, ua s.2 0 (va_cpy (s.2 1) (s.2 0) (0 : Int32).toNatClampNeg (a1 * (s.1 4)).toNatClampNeg (s.1 4).toNatClampNeg)) (fun r6 s5 => vp_in ((a1 * (s.1 4)) + 0) 8000 ∧ (∀ v8 : Int32, v8 = (s5.1 5) + 1 → Q 1 (up s5.1 5 (v8), ua s5.2 0 (upd (s5.2 0) ((a1 * (s.1 4)) + 0).toNatClampNeg r6)))))))))) ∧ (¬ (s.1 6) ≤ 0 → ∀ v9 : Int32, v9 = (s.1 6) - 1 → ((¬ v9 = 0 → ((a1 < 0 → Q 1 (up s.1 6 (v9), s.2)) ∧ (¬ a1 < 0 → (((s.1 3) ≤ a1 → Q 1 (up s.1 6 (v9), s.2)) ∧ (¬ (s.1 3) ≤ a1 → (¬ (0 : Int32) < 0 ∧ ¬ (a1 * (s.1 4)) < 0 ∧ ¬ (s.1 4) < 0 ∧ (0 : Int32).toNatClampNeg + (s.1 4).toNatClampNeg ≤ 40 ∧ (a1 * (s.1 4)).toNatClampNeg + (s.1 4).toNatClampNeg ≤ 8000) ∧ (wp_Disk_sumOf a1 (up s.1 6 (v9), ua s.2 0 (va_cpy (s.2 1) (s.2 0) (0 : Int32).toNatClampNeg (a1 * (s.1 4)).toNatClampNeg (s.1 4).toNatClampNeg)) (fun r15 s14 => vp_in ((a1 * (s.1 4)) + 0) 8000 ∧ (∀ v17 : Int32, v17 = (s14.1 5) + 1 → Q 1 (up s14.1 5 (v17), ua s14.2 0 (upd (s14.2 0) ((a1 * (s.1 4)) + 0).toNatClampNeg r15)))))))))) ∧ (v9 = 0 → Q 0 (up s.1 6 (v9), s.2))))) := h
  refine g_aload_n C d_DK_writeRow_0 rfl 0 rfl ?_
  refine g_get C (v := .int (s.1 6)) 1 5 iw_DK rfl rfl (by decide) (gt 126 (by decide +kernel) rfl) rfl rfl d_DK_writeRow_1 ?_
  refine g_if_le C 26 d_DK_writeRow_4 (by decide) (fun c1 => ?_) (fun c1 => ?_)
  · have h := h.1 c1
    refine g_iload_n C d_DK_writeRow_26 rfl 1 rfl ?_
    refine g_if_lt C 88 d_DK_writeRow_27 (by decide) (fun c2 => ?_) (fun c2 => ?_)
    · have h := h.1 c2
      refine g_iconst C 1 d_DK_writeRow_88 (by decide) ?_
      exact g_iret r rfl d_DK_writeRow_89 (gBi_mk h)
    · have h := h.2 c2
      refine g_iload_n C d_DK_writeRow_30 rfl 1 rfl ?_
      refine g_aload_n C d_DK_writeRow_31 rfl 0 rfl ?_
      refine g_get C (v := .int (s.1 3)) 1 2 iw_DK rfl rfl (by decide) (gt 120 (by decide +kernel) rfl) rfl rfl d_DK_writeRow_32 ?_
      refine g_icmp_ge C 88 d_DK_writeRow_35 (by decide) (fun c3 => ?_) (fun c3 => ?_)
      · have h := h.1 c3
        refine g_iconst C 1 d_DK_writeRow_88 (by decide) ?_
        exact g_iret r rfl d_DK_writeRow_89 (gBi_mk h)
      · have h := h.2 c3
        refine g_aload_n C d_DK_writeRow_38 rfl 0 rfl ?_
        refine g_get C (v := .ref (ad 3)) 1 1 iw_DK rfl rfl (by decide) (gt 119 (by decide +kernel) rfl) rfl rfl d_DK_writeRow_39 ?_
        refine g_iconst C 0 d_DK_writeRow_42 (by decide) ?_
        refine g_aload_n C d_DK_writeRow_43 rfl 0 rfl ?_
        refine g_get C (v := .ref (ad 2)) 1 0 iw_DK rfl rfl (by decide) (gt 118 (by decide +kernel) rfl) rfl rfl d_DK_writeRow_44 ?_
        refine g_iload_n C d_DK_writeRow_47 rfl 1 rfl ?_
        refine g_aload_n C d_DK_writeRow_48 rfl 0 rfl ?_
        refine g_get C (v := .int (s.1 4)) 1 3 iw_DK rfl rfl (by decide) (gt 123 (by decide +kernel) rfl) rfl rfl d_DK_writeRow_49 ?_
        refine g_imul C d_DK_writeRow_52 ?_
        refine g_aload_n C d_DK_writeRow_53 rfl 0 rfl ?_
        refine g_get C (v := .int (s.1 4)) 1 3 iw_DK rfl rfl (by decide) (gt 123 (by decide +kernel) rfl) rfl rfl d_DK_writeRow_54 ?_
        obtain ⟨k4, h⟩ := h
        refine g_copyi C (gt 394 (by decide +kernel) rfl) (gt 396 (by decide +kernel) rfl) (gt 395 (by decide +kernel) rfl) (gt 100 (by decide +kernel) rfl) 3 2 (ws2 := wC ad X (s.1, ua s.2 0 (va_cpy (s.2 1) (s.2 0) (0 : Int32).toNatClampNeg (a1 * (s.1 4)).toNatClampNeg (s.1 4).toNatClampNeg))) rfl rfl rfl rfl k4 (by rw [hRm]; decide) rfl d_DK_writeRow_57 ?_
        refine g_aload_n C d_DK_writeRow_60 rfl 0 rfl ?_
        refine g_get C (v := .ref (ad 2)) 1 0 iw_DK rfl rfl (by decide) (gt 118 (by decide +kernel) rfl) rfl rfl d_DK_writeRow_61 ?_
        refine g_iload_n C d_DK_writeRow_64 rfl 1 rfl ?_
        refine g_aload_n C d_DK_writeRow_65 rfl 0 rfl ?_
        refine g_get C (v := .int (s.1 4)) 1 3 iw_DK rfl rfl (by decide) (gt 123 (by decide +kernel) rfl) rfl rfl d_DK_writeRow_66 ?_
        refine g_imul C d_DK_writeRow_69 ?_
        refine g_iconst C 0 d_DK_writeRow_70 (by decide) ?_
        refine g_iadd C d_DK_writeRow_71 ?_
        refine g_aload_n C d_DK_writeRow_72 rfl 0 rfl ?_
        refine g_iload_n C d_DK_writeRow_73 rfl 1 rfl ?_
        refine g_callV C (rest := [.int ((a1 * (s.1 4)) + 0), .ref (ad 2)]) 1 (fun l => m_Disk_sumOf X ad a1 (s.1, ua s.2 0 (va_cpy (s.2 1) (s.2 0) (0 : Int32).toNatClampNeg (a1 * (s.1 4)).toNatClampNeg (s.1 4).toNatClampNeg)) _ h l) rfl rfl (gt 397 (by decide +kernel) rfl) cb_DK_sumOf ⟨rfl, rfl⟩ (by rw [hRm]; decide) ⟨Nat.zero_le _, Nat.zero_le _⟩ rfl rfl (Nat.le_of_ble_eq_true rfl) d_DK_writeRow_74 (gki (fun r6 s5 h => ?_))
        obtain ⟨i7, h⟩ := h
        refine g_iast C 2 0 (ws2 := wC ad X (s5.1, ua s5.2 0 (upd (s5.2 0) ((a1 * (s.1 4)) + 0).toNatClampNeg r6))) rfl rfl i7 rfl d_DK_writeRow_77 ?_
        refine g_aload_n C d_DK_writeRow_78 rfl 0 rfl ?_
        refine g_dup C rfl d_DK_writeRow_79 ?_
        refine g_get C (v := .int (s5.1 5)) 1 4 iw_DK rfl rfl (by decide) (gt 124 (by decide +kernel) rfl) rfl rfl d_DK_writeRow_80 ?_
        refine g_iconst C 1 d_DK_writeRow_83 (by decide) ?_
        refine g_iadd C d_DK_writeRow_84 ?_
        refine g_topi (fun v8 e_v8 => ?_)
        have h := h v8 e_v8
        refine g_put C (ws2 := wC ad X (up s5.1 5 (v8), ua s5.2 0 (upd (s5.2 0) ((a1 * (s.1 4)) + 0).toNatClampNeg r6))) 1 4 iw_DK ty_DK tyok_DK nm_DK rfl rfl (by decide) (gt 124 (by decide +kernel) rfl) rfl rfl rfl rfl (Nat.le_of_ble_eq_true rfl) rfl d_DK_writeRow_85 ?_
        refine g_iconst C 1 d_DK_writeRow_88 (by decide) ?_
        exact g_iret r rfl d_DK_writeRow_89 (gBi_mk h)
  · have h := h.2 c1
    refine g_aload_n C d_DK_writeRow_7 rfl 0 rfl ?_
    refine g_dup C rfl d_DK_writeRow_8 ?_
    refine g_get C (v := .int (s.1 6)) 1 5 iw_DK rfl rfl (by decide) (gt 126 (by decide +kernel) rfl) rfl rfl d_DK_writeRow_9 ?_
    refine g_iconst C 1 d_DK_writeRow_12 (by decide) ?_
    refine g_isub C d_DK_writeRow_13 ?_
    refine g_topi (fun v9 e_v9 => ?_)
    have h := h v9 e_v9
    refine g_put C (ws2 := wC ad X (up s.1 6 (v9), s.2)) 1 5 iw_DK ty_DK tyok_DK nm_DK rfl rfl (by decide) (gt 126 (by decide +kernel) rfl) rfl rfl rfl rfl (Nat.le_of_ble_eq_true rfl) rfl d_DK_writeRow_14 ?_
    refine g_aload_n C d_DK_writeRow_17 rfl 0 rfl ?_
    refine g_get C (v := .int v9) 1 5 iw_DK rfl rfl (by decide) (gt 126 (by decide +kernel) rfl) rfl rfl d_DK_writeRow_18 ?_
    refine g_if_ne C 26 d_DK_writeRow_21 (by decide) (fun c10 => ?_) (fun c10 => ?_)
    · have h := h.1 c10
      refine g_iload_n C d_DK_writeRow_26 rfl 1 rfl ?_
      refine g_if_lt C 88 d_DK_writeRow_27 (by decide) (fun c11 => ?_) (fun c11 => ?_)
      · have h := h.1 c11
        refine g_iconst C 1 d_DK_writeRow_88 (by decide) ?_
        exact g_iret r rfl d_DK_writeRow_89 (gBi_mk h)
      · have h := h.2 c11
        refine g_iload_n C d_DK_writeRow_30 rfl 1 rfl ?_
        refine g_aload_n C d_DK_writeRow_31 rfl 0 rfl ?_
        refine g_get C (v := .int (s.1 3)) 1 2 iw_DK rfl rfl (by decide) (gt 120 (by decide +kernel) rfl) rfl rfl d_DK_writeRow_32 ?_
        refine g_icmp_ge C 88 d_DK_writeRow_35 (by decide) (fun c12 => ?_) (fun c12 => ?_)
        · have h := h.1 c12
          refine g_iconst C 1 d_DK_writeRow_88 (by decide) ?_
          exact g_iret r rfl d_DK_writeRow_89 (gBi_mk h)
        · have h := h.2 c12
          refine g_aload_n C d_DK_writeRow_38 rfl 0 rfl ?_
          refine g_get C (v := .ref (ad 3)) 1 1 iw_DK rfl rfl (by decide) (gt 119 (by decide +kernel) rfl) rfl rfl d_DK_writeRow_39 ?_
          refine g_iconst C 0 d_DK_writeRow_42 (by decide) ?_
          refine g_aload_n C d_DK_writeRow_43 rfl 0 rfl ?_
          refine g_get C (v := .ref (ad 2)) 1 0 iw_DK rfl rfl (by decide) (gt 118 (by decide +kernel) rfl) rfl rfl d_DK_writeRow_44 ?_
          refine g_iload_n C d_DK_writeRow_47 rfl 1 rfl ?_
          refine g_aload_n C d_DK_writeRow_48 rfl 0 rfl ?_
          refine g_get C (v := .int (s.1 4)) 1 3 iw_DK rfl rfl (by decide) (gt 123 (by decide +kernel) rfl) rfl rfl d_DK_writeRow_49 ?_
          refine g_imul C d_DK_writeRow_52 ?_
          refine g_aload_n C d_DK_writeRow_53 rfl 0 rfl ?_
          refine g_get C (v := .int (s.1 4)) 1 3 iw_DK rfl rfl (by decide) (gt 123 (by decide +kernel) rfl) rfl rfl d_DK_writeRow_54 ?_
          obtain ⟨k13, h⟩ := h
          refine g_copyi C (gt 394 (by decide +kernel) rfl) (gt 396 (by decide +kernel) rfl) (gt 395 (by decide +kernel) rfl) (gt 100 (by decide +kernel) rfl) 3 2 (ws2 := wC ad X (up s.1 6 (v9), ua s.2 0 (va_cpy (s.2 1) (s.2 0) (0 : Int32).toNatClampNeg (a1 * (s.1 4)).toNatClampNeg (s.1 4).toNatClampNeg))) rfl rfl rfl rfl k13 (by rw [hRm]; decide) rfl d_DK_writeRow_57 ?_
          refine g_aload_n C d_DK_writeRow_60 rfl 0 rfl ?_
          refine g_get C (v := .ref (ad 2)) 1 0 iw_DK rfl rfl (by decide) (gt 118 (by decide +kernel) rfl) rfl rfl d_DK_writeRow_61 ?_
          refine g_iload_n C d_DK_writeRow_64 rfl 1 rfl ?_
          refine g_aload_n C d_DK_writeRow_65 rfl 0 rfl ?_
          refine g_get C (v := .int (s.1 4)) 1 3 iw_DK rfl rfl (by decide) (gt 123 (by decide +kernel) rfl) rfl rfl d_DK_writeRow_66 ?_
          refine g_imul C d_DK_writeRow_69 ?_
          refine g_iconst C 0 d_DK_writeRow_70 (by decide) ?_
          refine g_iadd C d_DK_writeRow_71 ?_
          refine g_aload_n C d_DK_writeRow_72 rfl 0 rfl ?_
          refine g_iload_n C d_DK_writeRow_73 rfl 1 rfl ?_
          refine g_callV C (rest := [.int ((a1 * (s.1 4)) + 0), .ref (ad 2)]) 1 (fun l => m_Disk_sumOf X ad a1 (up s.1 6 (v9), ua s.2 0 (va_cpy (s.2 1) (s.2 0) (0 : Int32).toNatClampNeg (a1 * (s.1 4)).toNatClampNeg (s.1 4).toNatClampNeg)) _ h l) rfl rfl (gt 397 (by decide +kernel) rfl) cb_DK_sumOf ⟨rfl, rfl⟩ (by rw [hRm]; decide) ⟨Nat.zero_le _, Nat.zero_le _⟩ rfl rfl (Nat.le_of_ble_eq_true rfl) d_DK_writeRow_74 (gki (fun r15 s14 h => ?_))
          obtain ⟨i16, h⟩ := h
          refine g_iast C 2 0 (ws2 := wC ad X (s14.1, ua s14.2 0 (upd (s14.2 0) ((a1 * (s.1 4)) + 0).toNatClampNeg r15))) rfl rfl i16 rfl d_DK_writeRow_77 ?_
          refine g_aload_n C d_DK_writeRow_78 rfl 0 rfl ?_
          refine g_dup C rfl d_DK_writeRow_79 ?_
          refine g_get C (v := .int (s14.1 5)) 1 4 iw_DK rfl rfl (by decide) (gt 124 (by decide +kernel) rfl) rfl rfl d_DK_writeRow_80 ?_
          refine g_iconst C 1 d_DK_writeRow_83 (by decide) ?_
          refine g_iadd C d_DK_writeRow_84 ?_
          refine g_topi (fun v17 e_v17 => ?_)
          have h := h v17 e_v17
          refine g_put C (ws2 := wC ad X (up s14.1 5 (v17), ua s14.2 0 (upd (s14.2 0) ((a1 * (s.1 4)) + 0).toNatClampNeg r15))) 1 4 iw_DK ty_DK tyok_DK nm_DK rfl rfl (by decide) (gt 124 (by decide +kernel) rfl) rfl rfl rfl rfl (Nat.le_of_ble_eq_true rfl) rfl d_DK_writeRow_85 ?_
          refine g_iconst C 1 d_DK_writeRow_88 (by decide) ?_
          exact g_iret r rfl d_DK_writeRow_89 (gBi_mk h)
    · have h := h.2 c10
      refine g_iconst C 0 d_DK_writeRow_24 (by decide) ?_
      exact g_iret r rfl d_DK_writeRow_25 (gBi_mk h)
theorem m_Disk_writeRow (X : gX) (ad : Nat → Nat) (a1 : Int32) (s : gS) (Q : Int32 → gS → Prop) (h : wp_Disk_writeRow a1 s Q) (l : Launch) : gM l X y_DK_writeRow b_DK_writeRow 2 (some .boolean) rm_Disk_writeRow [.ref (ad 1), .int a1] (wC ad X s) (gBi (wC ad X) Q) :=
  gM_of (by decide +kernel) rfl (Nat.le_of_ble_eq_true rfl) rfl (fun E C hRm r => w_Disk_writeRow X ad a1 s Q h E C hRm r)
def rm_Superblocks_store_6 : Room := { frames := 2, cells := 0, slots := 0, locals := 45 }
def wl_Superblocks_store_6_30 (Q : Int32 → gS → Prop) (K : Int32 → gS → Prop) (x1 : Int32) : Nat → Int32 → gS → Prop
  | 0, _, _ => False
  | n + 1, x3, s => (((s.1 9) ≤ x3 → K x3 s) ∧ (¬ (s.1 9) ≤ x3 → ∀ v8 : Int32, v8 = 3 + (x3 * 4) → vp_in x3 9 ∧ (wp_Disk_setRow (v8 + 0) (s.2 3 x3.toNatClampNeg) s (fun s10 => vp_in x3 9 ∧ (wp_Disk_setRow (v8 + 1) (s10.2 4 x3.toNatClampNeg) s10 (fun s13 => vp_in x3 9 ∧ (wp_Disk_setRow (v8 + 2) (s13.2 5 x3.toNatClampNeg) s13 (fun s16 => vp_in x3 9 ∧ (wp_Disk_setRow (v8 + 3) (s16.2 6 x3.toNatClampNeg) s16 (fun s19 => ∀ v21 : Int32, v21 = x3 + 1 → wl_Superblocks_store_6_30 Q K x1 n v21 s19))))))))))
set_option maxHeartbeats 4000000 in
set_option maxRecDepth 100000 in
theorem w_Superblocks_store_6_30 (X : gX) (ad : Nat → Nat) (Q : Int32 → gS → Prop) (K : Int32 → gS → Prop) (x1 : Int32) (E : gE) (C : gC X E b_SB_store 5 R_SB) (hRm : gRm E = rm_Superblocks_store_6) (r : gR X E b_SB_store (some .boolean) (gBi (wC ad X) Q)) (hK : ∀ (x3 : Int32) (s : gS), K x3 s → gW X E 0 0 (wC ad X s) [(0, .ref (ad 13)), (1, .int x1), (2, .ref (ad 6)), (3, .int x3)] 119 []) : ∀ (n : Nat) (x3 : Int32) (s : gS), wl_Superblocks_store_6_30 Q K x1 n x3 s → gW X E 0 0 (wC ad X s) [(0, .ref (ad 13)), (1, .int x1), (2, .ref (ad 6)), (3, .int x3)] 30 [] := by
  intro n
  induction n with
  | zero => intro x3 s h; exact False.elim h
  | succ n ih =>
    intro x3 s h
    have h : (((s.1 9) ≤ x3 → K x3 s) ∧ (¬ (s.1 9) ≤ x3 → ∀ v8 : Int32, v8 = 3 + (x3 * 4) → vp_in x3 9 ∧ (wp_Disk_setRow (v8 + 0) (s.2 3 x3.toNatClampNeg) s (fun s10 => vp_in x3 9 ∧ (wp_Disk_setRow (v8 + 1) (s10.2 4 x3.toNatClampNeg) s10 (fun s13 => vp_in x3 9 ∧ (wp_Disk_setRow (v8 + 2) (s13.2 5 x3.toNatClampNeg) s13 (fun s16 => vp_in x3 9 ∧ (wp_Disk_setRow (v8 + 3) (s16.2 6 x3.toNatClampNeg) s16 (fun s19 => ∀ v21 : Int32, v21 = x3 + 1 → wl_Superblocks_store_6_30 Q K x1 n v21 s19)))))))))) := h
    refine g_iload_n C d_SB_store_30 rfl 3 rfl ?_
    refine g_aload_n C d_SB_store_31 rfl 2 rfl ?_
    refine g_getN (host := "SpillQueue") C (v := .int (s.1 9)) 6 7 iw_RU rfl rfl (by decide) (gn 184 (by decide +kernel) rfl) rfl rfl d_SB_store_32 ?_
    refine g_icmp_ge C 119 d_SB_store_35 (by decide) (fun c7 => ?_) (fun c7 => ?_)
    · have h := h.1 c7
      exact hK x3 s h
    · have h := h.2 c7
      refine g_iconst C 3 d_SB_store_38 (by decide) ?_
      refine g_iload_n C d_SB_store_39 rfl 3 rfl ?_
      refine g_iconst C 4 d_SB_store_40 (by decide) ?_
      refine g_imul C d_SB_store_41 ?_
      refine g_iadd C d_SB_store_42 ?_
      refine g_topi (fun v8 e_v8 => ?_)
      have h := h v8 e_v8
      refine g_istore C (lv2 := [(0, .ref (ad 13)), (1, .int x1), (2, .ref (ad 6)), (3, .int x3), (4, .int v8)]) d_SB_store_43 (by decide) rfl ?_
      refine g_aload_n C d_SB_store_45 rfl 0 rfl ?_
      refine g_get C (v := .ref (ad 1)) 13 0 iw_SB rfl rfl (by decide) (gt 220 (by decide +kernel) rfl) rfl rfl d_SB_store_46 ?_
      refine g_iload C d_SB_store_49 4 rfl ?_
      refine g_iconst C 0 d_SB_store_51 (by decide) ?_
      refine g_iadd C d_SB_store_52 ?_
      refine g_aload_n C d_SB_store_53 rfl 2 rfl ?_
      refine g_getN (host := "SpillQueue") C (v := .ref (ad 7)) 6 1 iw_RU rfl rfl (by decide) (gn 170 (by decide +kernel) rfl) rfl rfl d_SB_store_54 ?_
      refine g_iload_n C d_SB_store_57 rfl 3 rfl ?_
      obtain ⟨i9, h⟩ := h
      refine g_iald C 7 0 rfl rfl i9 d_SB_store_58 ?_
      refine g_callVN (host := "SpillQueue") C (rest := []) 1 (fun l => m_Disk_setRow X ad (v8 + 0) (s.2 3 x3.toNatClampNeg) s _ h l) rfl rfl (gn 386 (by decide +kernel) rfl) cb_DK_setRow ⟨rfl, rfl⟩ (by rw [hRm]; decide) ⟨Nat.zero_le _, Nat.zero_le _⟩ rfl rfl (Nat.le_of_ble_eq_true rfl) d_SB_store_59 (gkv (fun s10 h => ?_))
      refine g_aload_n C d_SB_store_62 rfl 0 rfl ?_
      refine g_get C (v := .ref (ad 1)) 13 0 iw_SB rfl rfl (by decide) (gt 220 (by decide +kernel) rfl) rfl rfl d_SB_store_63 ?_
      refine g_iload C d_SB_store_66 4 rfl ?_
      refine g_iconst C 1 d_SB_store_68 (by decide) ?_
      refine g_iadd C d_SB_store_69 ?_
      refine g_aload_n C d_SB_store_70 rfl 2 rfl ?_
      refine g_getN (host := "SpillQueue") C (v := .ref (ad 8)) 6 2 iw_RU rfl rfl (by decide) (gn 173 (by decide +kernel) rfl) rfl rfl d_SB_store_71 ?_
      refine g_iload_n C d_SB_store_74 rfl 3 rfl ?_
      obtain ⟨i12, h⟩ := h
      refine g_iald C 8 0 rfl rfl i12 d_SB_store_75 ?_
      refine g_callVN (host := "SpillQueue") C (rest := []) 1 (fun l => m_Disk_setRow X ad (v8 + 1) (s10.2 4 x3.toNatClampNeg) s10 _ h l) rfl rfl (gn 386 (by decide +kernel) rfl) cb_DK_setRow ⟨rfl, rfl⟩ (by rw [hRm]; decide) ⟨Nat.zero_le _, Nat.zero_le _⟩ rfl rfl (Nat.le_of_ble_eq_true rfl) d_SB_store_76 (gkv (fun s13 h => ?_))
      refine g_aload_n C d_SB_store_79 rfl 0 rfl ?_
      refine g_get C (v := .ref (ad 1)) 13 0 iw_SB rfl rfl (by decide) (gt 220 (by decide +kernel) rfl) rfl rfl d_SB_store_80 ?_
      refine g_iload C d_SB_store_83 4 rfl ?_
      refine g_iconst C 2 d_SB_store_85 (by decide) ?_
      refine g_iadd C d_SB_store_86 ?_
      refine g_aload_n C d_SB_store_87 rfl 2 rfl ?_
      refine g_getN (host := "SpillQueue") C (v := .ref (ad 9)) 6 3 iw_RU rfl rfl (by decide) (gn 176 (by decide +kernel) rfl) rfl rfl d_SB_store_88 ?_
      refine g_iload_n C d_SB_store_91 rfl 3 rfl ?_
      obtain ⟨i15, h⟩ := h
      refine g_iald C 9 0 rfl rfl i15 d_SB_store_92 ?_
      refine g_callVN (host := "SpillQueue") C (rest := []) 1 (fun l => m_Disk_setRow X ad (v8 + 2) (s13.2 5 x3.toNatClampNeg) s13 _ h l) rfl rfl (gn 386 (by decide +kernel) rfl) cb_DK_setRow ⟨rfl, rfl⟩ (by rw [hRm]; decide) ⟨Nat.zero_le _, Nat.zero_le _⟩ rfl rfl (Nat.le_of_ble_eq_true rfl) d_SB_store_93 (gkv (fun s16 h => ?_))
      refine g_aload_n C d_SB_store_96 rfl 0 rfl ?_
      refine g_get C (v := .ref (ad 1)) 13 0 iw_SB rfl rfl (by decide) (gt 220 (by decide +kernel) rfl) rfl rfl d_SB_store_97 ?_
      refine g_iload C d_SB_store_100 4 rfl ?_
      refine g_iconst C 3 d_SB_store_102 (by decide) ?_
      refine g_iadd C d_SB_store_103 ?_
      refine g_aload_n C d_SB_store_104 rfl 2 rfl ?_
      refine g_getN (host := "SpillQueue") C (v := .ref (ad 10)) 6 4 iw_RU rfl rfl (by decide) (gn 179 (by decide +kernel) rfl) rfl rfl d_SB_store_105 ?_
      refine g_iload_n C d_SB_store_108 rfl 3 rfl ?_
      obtain ⟨i18, h⟩ := h
      refine g_iald C 10 0 rfl rfl i18 d_SB_store_109 ?_
      refine g_callVN (host := "SpillQueue") C (rest := []) 1 (fun l => m_Disk_setRow X ad (v8 + 3) (s16.2 6 x3.toNatClampNeg) s16 _ h l) rfl rfl (gn 386 (by decide +kernel) rfl) cb_DK_setRow ⟨rfl, rfl⟩ (by rw [hRm]; decide) ⟨Nat.zero_le _, Nat.zero_le _⟩ rfl rfl (Nat.le_of_ble_eq_true rfl) d_SB_store_110 (gkv (fun s19 h => ?_))
      obtain ⟨v21, e_v21⟩ : ∃ y : Int32, y = x3 + 1 := ⟨_, rfl⟩
      have h := h v21 e_v21
      refine g_iinc C (v := v21) (lv2 := [(0, .ref (ad 13)), (1, .int x1), (2, .ref (ad 6)), (3, .int v21), (4, .int v8)]) d_SB_store_113 3 rfl (by rw [e_v21]; rfl) (by decide) rfl ?_
      refine g_goto C 30 d_SB_store_116 (by decide) ?_
      refine g_lv C [0, 1, 2, 3] rfl ?_
      exact ih v21 s19 h
def wp_Superblocks_store_6 (a1 : Int32) (s : gS) (Q : Int32 → gS → Prop) : Prop := wp_Disk_clearRow s (fun s1 => wp_Disk_setRow 1 a1 s1 (fun s3 => wp_Disk_setRow 2 (s3.1 9) s3 (fun s5 => ∃ n22 : Nat, wl_Superblocks_store_6_30 Q (fun v24 s23 => wp_Disk_writeRow (a1 &&& 1) s23 (fun r26 s25 => narrow .boolean (.int r26) = .int r26 ∧ (Q r26 s25))) a1 n22 0 s5)))
set_option maxHeartbeats 4000000 in
set_option maxRecDepth 100000 in
theorem w_Superblocks_store_6 (X : gX) (ad : Nat → Nat) (a1 : Int32) (s : gS) (Q : Int32 → gS → Prop) (h : wp_Superblocks_store_6 a1 s Q) (E : gE) (C : gC X E b_SB_store 5 R_SB) (hRm : gRm E = rm_Superblocks_store_6) (r : gR X E b_SB_store (some .boolean) (gBi (wC ad X) Q)) : gW X E 0 0 (wC ad X s) [(0, .ref (ad 13)), (1, .int a1), (2, .ref (ad 6))] 0 [] := by
  have h : wp_Disk_clearRow s (fun s1 => wp_Disk_setRow 1 a1 s1 (fun s3 => wp_Disk_setRow 2 (s3.1 9) s3 (fun s5 => ∃ n22 : Nat, wl_Superblocks_store_6_30 Q (fun v24 s23 => wp_Disk_writeRow (a1 &&& 1) s23 (fun r26 s25 => narrow .boolean (.int r26) = .int r26 ∧ (Q r26 s25))) a1 n22 0 s5))) := h
  refine g_aload_n C d_SB_store_0 rfl 0 rfl ?_
  refine g_get C (v := .ref (ad 1)) 13 0 iw_SB rfl rfl (by decide) (gt 220 (by decide +kernel) rfl) rfl rfl d_SB_store_1 ?_
  refine g_callVN (host := "SpillQueue") C (rest := []) 1 (fun l => m_Disk_clearRow X ad  s _ h l) rfl rfl (gn 382 (by decide +kernel) rfl) cb_DK_clearRow ⟨rfl, rfl⟩ (by rw [hRm]; decide) ⟨Nat.zero_le _, Nat.zero_le _⟩ rfl rfl (Nat.le_of_ble_eq_true rfl) d_SB_store_4 (gkv (fun s1 h => ?_))
  refine g_aload_n C d_SB_store_7 rfl 0 rfl ?_
  refine g_get C (v := .ref (ad 1)) 13 0 iw_SB rfl rfl (by decide) (gt 220 (by decide +kernel) rfl) rfl rfl d_SB_store_8 ?_
  refine g_iconst C 1 d_SB_store_11 (by decide) ?_
  refine g_iload_n C d_SB_store_12 rfl 1 rfl ?_
  refine g_callVN (host := "SpillQueue") C (rest := []) 1 (fun l => m_Disk_setRow X ad 1 a1 s1 _ h l) rfl rfl (gn 386 (by decide +kernel) rfl) cb_DK_setRow ⟨rfl, rfl⟩ (by rw [hRm]; decide) ⟨Nat.zero_le _, Nat.zero_le _⟩ rfl rfl (Nat.le_of_ble_eq_true rfl) d_SB_store_13 (gkv (fun s3 h => ?_))
  refine g_aload_n C d_SB_store_16 rfl 0 rfl ?_
  refine g_get C (v := .ref (ad 1)) 13 0 iw_SB rfl rfl (by decide) (gt 220 (by decide +kernel) rfl) rfl rfl d_SB_store_17 ?_
  refine g_iconst C 2 d_SB_store_20 (by decide) ?_
  refine g_aload_n C d_SB_store_21 rfl 2 rfl ?_
  refine g_getN (host := "SpillQueue") C (v := .int (s3.1 9)) 6 7 iw_RU rfl rfl (by decide) (gn 184 (by decide +kernel) rfl) rfl rfl d_SB_store_22 ?_
  refine g_callVN (host := "SpillQueue") C (rest := []) 1 (fun l => m_Disk_setRow X ad 2 (s3.1 9) s3 _ h l) rfl rfl (gn 386 (by decide +kernel) rfl) cb_DK_setRow ⟨rfl, rfl⟩ (by rw [hRm]; decide) ⟨Nat.zero_le _, Nat.zero_le _⟩ rfl rfl (Nat.le_of_ble_eq_true rfl) d_SB_store_25 (gkv (fun s5 h => ?_))
  refine g_iconst C 0 d_SB_store_28 (by decide) ?_
  refine g_istore_n C (lv2 := [(0, .ref (ad 13)), (1, .int a1), (2, .ref (ad 6)), (3, .int 0)]) d_SB_store_29 rfl (by decide) rfl ?_
  obtain ⟨n22, h⟩ := h
  refine w_Superblocks_store_6_30 X ad Q (_) a1 E C hRm r ?_ n22 0 s5 h
  intro v24 s23 h
  refine g_aload_n C d_SB_store_119 rfl 0 rfl ?_
  refine g_get C (v := .ref (ad 1)) 13 0 iw_SB rfl rfl (by decide) (gt 220 (by decide +kernel) rfl) rfl rfl d_SB_store_120 ?_
  refine g_iload_n C d_SB_store_123 rfl 1 rfl ?_
  refine g_iconst C 1 d_SB_store_124 (by decide) ?_
  refine g_iand C d_SB_store_125 ?_
  refine g_callVN (host := "SpillQueue") C (rest := []) 1 (fun l => m_Disk_writeRow X ad (a1 &&& 1) s23 _ h l) rfl rfl (gn 390 (by decide +kernel) rfl) cb_DK_writeRow ⟨rfl, rfl⟩ (by rw [hRm]; decide) ⟨Nat.zero_le _, Nat.zero_le _⟩ rfl rfl (Nat.le_of_ble_eq_true rfl) d_SB_store_126 (gki (fun r26 s25 h => ?_))
  obtain ⟨b27, h⟩ := h
  exact g_iret r b27 d_SB_store_129 (gBi_mk h)
theorem m_Superblocks_store_6 (X : gX) (ad : Nat → Nat) (a1 : Int32) (s : gS) (Q : Int32 → gS → Prop) (h : wp_Superblocks_store_6 a1 s Q) (l : Launch) : gM l X y_SB_store b_SB_store 5 (some .boolean) rm_Superblocks_store_6 [.ref (ad 13), .int a1, .ref (ad 6)] (wC ad X s) (gBi (wC ad X) Q) :=
  gM_of (by decide +kernel) rfl (Nat.le_of_ble_eq_true rfl) rfl (fun E C hRm r => w_Superblocks_store_6 X ad a1 s Q h E C hRm r)
end
section
def rm_BlockSet_add_16 : Room := { frames := 0, cells := 0, slots := 0, locals := 0 }
def wp_BlockSet_add_16 (a1 : Int32) (s : gS) (Q : gS → Prop) : Prop := ((a1 < 0 → Q s) ∧ (¬ a1 < 0 → ((200 ≤ a1 → Q s) ∧ (¬ 200 ≤ a1 → vp_in a1 200 ∧ (Q (s.1, ua s.2 10 (upd (s.2 10) a1.toNatClampNeg (vp_nar .boolean 1))))))))
set_option maxHeartbeats 4000000 in
set_option maxRecDepth 100000 in
theorem w_BlockSet_add_16 (X : gX) (ad : Nat → Nat) (a1 : Int32) (s : gS) (Q : gS → Prop) (h : wp_BlockSet_add_16 a1 s Q) (E : gE) (C : gC X E b_BS_add 2 R_BS) (hRm : gRm E = rm_BlockSet_add_16) (r : gR X E b_BS_add none (gBv (wC ad X) Q)) : gW X E 0 0 (wC ad X s) [(0, .ref (ad 16)), (1, .int a1)] 0 [] := by
  have h : ((a1 < 0 → Q s) ∧ (¬ a1 < 0 → ((200 ≤ a1 → Q s) ∧ (¬ 200 ≤ a1 → vp_in a1 200 ∧ (Q (s.1, ua s.2 10 (upd (s.2 10) a1.toNatClampNeg (vp_nar .boolean 1)))))))) := h
  refine g_iload_n C d_BS_add_0 rfl 1 rfl ?_
  refine g_if_lt C 20 d_BS_add_1 (by decide) (fun c1 => ?_) (fun c1 => ?_)
  · have h := h.1 c1
    exact g_vret r d_BS_add_20 (gBv_mk h)
  · have h := h.2 c1
    refine g_iload_n C d_BS_add_4 rfl 1 rfl ?_
    refine g_aload_n C d_BS_add_5 rfl 0 rfl ?_
    refine g_get C (v := .ref (ad 17)) 16 0 iw_BS rfl rfl (by decide) (gt 216 (by decide +kernel) rfl) rfl rfl d_BS_add_6 ?_
    refine g_alen C 17 1 200 rfl rfl rfl d_BS_add_9 ?_
    refine g_icmp_ge C 20 d_BS_add_10 (by decide) (fun c2 => ?_) (fun c2 => ?_)
    · have h := h.1 c2
      exact g_vret r d_BS_add_20 (gBv_mk h)
    · have h := h.2 c2
      refine g_aload_n C d_BS_add_13 rfl 0 rfl ?_
      refine g_get C (v := .ref (ad 17)) 16 0 iw_BS rfl rfl (by decide) (gt 216 (by decide +kernel) rfl) rfl rfl d_BS_add_14 ?_
      refine g_iload_n C d_BS_add_17 rfl 1 rfl ?_
      refine g_iconst C 1 d_BS_add_18 (by decide) ?_
      obtain ⟨i3, h⟩ := h
      refine g_zast C 17 1 (ws2 := wC ad X (s.1, ua s.2 10 (upd (s.2 10) a1.toNatClampNeg (vp_nar .boolean 1)))) rfl rfl i3 rfl d_BS_add_19 ?_
      exact g_vret r d_BS_add_20 (gBv_mk h)
theorem m_BlockSet_add_16 (X : gX) (ad : Nat → Nat) (a1 : Int32) (s : gS) (Q : gS → Prop) (h : wp_BlockSet_add_16 a1 s Q) (l : Launch) : gM l X y_BS_add b_BS_add 2 none rm_BlockSet_add_16 [.ref (ad 16), .int a1] (wC ad X s) (gBv (wC ad X) Q) :=
  gM_of (by decide +kernel) rfl (Nat.le_of_ble_eq_true rfl) rfl (fun E C hRm r => w_BlockSet_add_16 X ad a1 s Q h E C hRm r)
def rm_Disk_get : Room := { frames := 0, cells := 0, slots := 0, locals := 0 }
def wp_Disk_get (a1 : Int32) (a2 : Int32) (s : gS) (Q : Int32 → gS → Prop) : Prop := ((a1 < 0 → Q 0 s) ∧ (¬ a1 < 0 → (((s.1 3) ≤ a1 → Q 0 s) ∧ (¬ (s.1 3) ≤ a1 → ((a2 < 0 → Q 0 s) ∧ (¬ a2 < 0 → ((a2 < (s.1 4) → vp_in ((a1 * (s.1 4)) + a2) 8000 ∧ (Q (s.2 0 ((a1 * (s.1 4)) + a2).toNatClampNeg) s)) ∧ (¬ a2 < (s.1 4) → Q 0 s))))))))
set_option maxHeartbeats 4000000 in
set_option maxRecDepth 100000 in
theorem w_Disk_get (X : gX) (ad : Nat → Nat) (a1 : Int32) (a2 : Int32) (s : gS) (Q : Int32 → gS → Prop) (h : wp_Disk_get a1 a2 s Q) (E : gE) (C : gC X E b_DK_get 3 R_DK) (hRm : gRm E = rm_Disk_get) (r : gR X E b_DK_get (some .int) (gBi (wC ad X) Q)) : gW X E 0 0 (wC ad X s) [(0, .ref (ad 1)), (1, .int a1), (2, .int a2)] 0 [] := by
  have h : ((a1 < 0 → Q 0 s) ∧ (¬ a1 < 0 → (((s.1 3) ≤ a1 → Q 0 s) ∧ (¬ (s.1 3) ≤ a1 → ((a2 < 0 → Q 0 s) ∧ (¬ a2 < 0 → ((a2 < (s.1 4) → vp_in ((a1 * (s.1 4)) + a2) 8000 ∧ (Q (s.2 0 ((a1 * (s.1 4)) + a2).toNatClampNeg) s)) ∧ (¬ a2 < (s.1 4) → Q 0 s)))))))) := h
  refine g_iload_n C d_DK_get_0 rfl 1 rfl ?_
  refine g_if_lt C 24 d_DK_get_1 (by decide) (fun c1 => ?_) (fun c1 => ?_)
  · have h := h.1 c1
    refine g_iconst C 0 d_DK_get_24 (by decide) ?_
    exact g_iret r rfl d_DK_get_25 (gBi_mk h)
  · have h := h.2 c1
    refine g_iload_n C d_DK_get_4 rfl 1 rfl ?_
    refine g_aload_n C d_DK_get_5 rfl 0 rfl ?_
    refine g_get C (v := .int (s.1 3)) 1 2 iw_DK rfl rfl (by decide) (gt 120 (by decide +kernel) rfl) rfl rfl d_DK_get_6 ?_
    refine g_icmp_ge C 24 d_DK_get_9 (by decide) (fun c2 => ?_) (fun c2 => ?_)
    · have h := h.1 c2
      refine g_iconst C 0 d_DK_get_24 (by decide) ?_
      exact g_iret r rfl d_DK_get_25 (gBi_mk h)
    · have h := h.2 c2
      refine g_iload_n C d_DK_get_12 rfl 2 rfl ?_
      refine g_if_lt C 24 d_DK_get_13 (by decide) (fun c3 => ?_) (fun c3 => ?_)
      · have h := h.1 c3
        refine g_iconst C 0 d_DK_get_24 (by decide) ?_
        exact g_iret r rfl d_DK_get_25 (gBi_mk h)
      · have h := h.2 c3
        refine g_iload_n C d_DK_get_16 rfl 2 rfl ?_
        refine g_aload_n C d_DK_get_17 rfl 0 rfl ?_
        refine g_get C (v := .int (s.1 4)) 1 3 iw_DK rfl rfl (by decide) (gt 123 (by decide +kernel) rfl) rfl rfl d_DK_get_18 ?_
        refine g_icmp_lt C 26 d_DK_get_21 (by decide) (fun c4 => ?_) (fun c4 => ?_)
        · have h := h.1 c4
          refine g_aload_n C d_DK_get_26 rfl 0 rfl ?_
          refine g_get C (v := .ref (ad 2)) 1 0 iw_DK rfl rfl (by decide) (gt 118 (by decide +kernel) rfl) rfl rfl d_DK_get_27 ?_
          refine g_iload_n C d_DK_get_30 rfl 1 rfl ?_
          refine g_aload_n C d_DK_get_31 rfl 0 rfl ?_
          refine g_get C (v := .int (s.1 4)) 1 3 iw_DK rfl rfl (by decide) (gt 123 (by decide +kernel) rfl) rfl rfl d_DK_get_32 ?_
          refine g_imul C d_DK_get_35 ?_
          refine g_iload_n C d_DK_get_36 rfl 2 rfl ?_
          refine g_iadd C d_DK_get_37 ?_
          obtain ⟨i5, h⟩ := h
          refine g_iald C 2 0 rfl rfl i5 d_DK_get_38 ?_
          exact g_iret r rfl d_DK_get_39 (gBi_mk h)
        · have h := h.2 c4
          refine g_iconst C 0 d_DK_get_24 (by decide) ?_
          exact g_iret r rfl d_DK_get_25 (gBi_mk h)
theorem m_Disk_get (X : gX) (ad : Nat → Nat) (a1 : Int32) (a2 : Int32) (s : gS) (Q : Int32 → gS → Prop) (h : wp_Disk_get a1 a2 s Q) (l : Launch) : gM l X y_DK_get b_DK_get 3 (some .int) rm_Disk_get [.ref (ad 1), .int a1, .int a2] (wC ad X s) (gBi (wC ad X) Q) :=
  gM_of (by decide +kernel) rfl (Nat.le_of_ble_eq_true rfl) rfl (fun E C hRm r => w_Disk_get X ad a1 a2 s Q h E C hRm r)
def rm_Runs_markBlocks_16 : Room := { frames := 1, cells := 0, slots := 0, locals := 22 }
def wl_Runs_markBlocks_16_20 (Q : gS → Prop) (K : Int32 → Int32 → gS → Prop) (x2 : Int32) : Nat → Int32 → Int32 → gS → Prop
  | 0, _, _, _ => False
  | n + 1, x3, x4, s => ((200 ≤ x4 → K x3 x4 s) ∧ (¬ 200 ≤ x4 → ((x3 < 2 → K x3 x4 s) ∧ (¬ x3 < 2 → wp_BlockSet_add_16 x3 s (fun s6 => wp_Disk_get x3 1 s6 (fun r9 s8 => ∀ v10 : Int32, v10 = x4 + 1 → wl_Runs_markBlocks_16_20 Q K x2 n r9 v10 s8))))))
set_option maxHeartbeats 4000000 in
set_option maxRecDepth 100000 in
theorem w_Runs_markBlocks_16_20 (X : gX) (ad : Nat → Nat) (Q : gS → Prop) (K : Int32 → Int32 → gS → Prop) (x2 : Int32) (E : gE) (C : gC X E b_RU_markBlocks 5 R_RU) (hRm : gRm E = rm_Runs_markBlocks_16) (r : gR X E b_RU_markBlocks none (gBv (wC ad X) Q)) (hK : ∀ (x3 : Int32) (x4 : Int32) (s : gS), K x3 x4 s → gW X E 0 0 (wC ad X s) [(0, .ref (ad 6)), (1, .ref (ad 16)), (2, .int x2), (3, .int x3), (4, .int x4)] 54 []) : ∀ (n : Nat) (x3 : Int32) (x4 : Int32) (s : gS), wl_Runs_markBlocks_16_20 Q K x2 n x3 x4 s → gW X E 0 0 (wC ad X s) [(0, .ref (ad 6)), (1, .ref (ad 16)), (2, .int x2), (3, .int x3), (4, .int x4)] 20 [] := by
  intro n
  induction n with
  | zero => intro x3 x4 s h; exact False.elim h
  | succ n ih =>
    intro x3 x4 s h
    have h : ((200 ≤ x4 → K x3 x4 s) ∧ (¬ 200 ≤ x4 → ((x3 < 2 → K x3 x4 s) ∧ (¬ x3 < 2 → wp_BlockSet_add_16 x3 s (fun s6 => wp_Disk_get x3 1 s6 (fun r9 s8 => ∀ v10 : Int32, v10 = x4 + 1 → wl_Runs_markBlocks_16_20 Q K x2 n r9 v10 s8)))))) := h
    refine g_iload C d_RU_markBlocks_20 4 rfl ?_
    refine g_sipush C 200 d_RU_markBlocks_22 (by decide) ?_
    refine g_icmp_ge C 54 d_RU_markBlocks_25 (by decide) (fun c4 => ?_) (fun c4 => ?_)
    · have h := h.1 c4
      exact hK x3 x4 s h
    · have h := h.2 c4
      refine g_iload_n C d_RU_markBlocks_28 rfl 3 rfl ?_
      refine g_iconst C 2 d_RU_markBlocks_29 (by decide) ?_
      refine g_icmp_lt C 54 d_RU_markBlocks_30 (by decide) (fun c5 => ?_) (fun c5 => ?_)
      · have h := h.1 c5
        exact hK x3 x4 s h
      · have h := h.2 c5
        refine g_aload_n C d_RU_markBlocks_33 rfl 1 rfl ?_
        refine g_iload_n C d_RU_markBlocks_34 rfl 3 rfl ?_
        refine g_callVN (host := "SpillQueue") C (rest := []) 16 (fun l => m_BlockSet_add_16 X ad x3 s _ h l) rfl rfl (gn 405 (by decide +kernel) rfl) cb_BS_add ⟨rfl, rfl⟩ (by rw [hRm]; decide) ⟨Nat.zero_le _, Nat.zero_le _⟩ rfl rfl (Nat.le_of_ble_eq_true rfl) d_RU_markBlocks_35 (gkv (fun s6 h => ?_))
        refine g_aload_n C d_RU_markBlocks_38 rfl 0 rfl ?_
        refine g_get C (v := .ref (ad 1)) 6 0 iw_RU rfl rfl (by decide) (gt 168 (by decide +kernel) rfl) rfl rfl d_RU_markBlocks_39 ?_
        refine g_iload_n C d_RU_markBlocks_42 rfl 3 rfl ?_
        refine g_iconst C 1 d_RU_markBlocks_43 (by decide) ?_
        refine g_callVN (host := "SpillQueue") C (rest := []) 1 (fun l => m_Disk_get X ad x3 1 s6 _ h l) rfl rfl (gn 409 (by decide +kernel) rfl) cb_DK_get ⟨rfl, rfl⟩ (by rw [hRm]; decide) ⟨Nat.zero_le _, Nat.zero_le _⟩ rfl rfl (Nat.le_of_ble_eq_true rfl) d_RU_markBlocks_44 (gki (fun r9 s8 h => ?_))
        refine g_istore_n C (lv2 := [(0, .ref (ad 6)), (1, .ref (ad 16)), (2, .int x2), (3, .int r9), (4, .int x4)]) d_RU_markBlocks_47 rfl (by decide) rfl ?_
        obtain ⟨v10, e_v10⟩ : ∃ y : Int32, y = x4 + 1 := ⟨_, rfl⟩
        have h := h v10 e_v10
        refine g_iinc C (v := v10) (lv2 := [(0, .ref (ad 6)), (1, .ref (ad 16)), (2, .int x2), (3, .int r9), (4, .int v10)]) d_RU_markBlocks_48 4 rfl (by rw [e_v10]; rfl) (by decide) rfl ?_
        refine g_goto C 20 d_RU_markBlocks_51 (by decide) ?_
        exact ih r9 v10 s8 h
def wl_Runs_markBlocks_16_2 (Q : gS → Prop) (K : Int32 → gS → Prop) : Nat → Int32 → gS → Prop
  | 0, _, _ => False
  | n + 1, x2, s => (((s.1 9) ≤ x2 → K x2 s) ∧ (¬ (s.1 9) ≤ x2 → vp_in x2 9 ∧ (∀ v3 : Int32, v3 = s.2 3 x2.toNatClampNeg → ∃ n11 : Nat, wl_Runs_markBlocks_16_20 Q (fun v13 v14 s12 => ∀ v15 : Int32, v15 = x2 + 1 → wl_Runs_markBlocks_16_2 Q K n v15 s12) x2 n11 v3 0 s)))
set_option maxHeartbeats 4000000 in
set_option maxRecDepth 100000 in
theorem w_Runs_markBlocks_16_2 (X : gX) (ad : Nat → Nat) (Q : gS → Prop) (K : Int32 → gS → Prop) (E : gE) (C : gC X E b_RU_markBlocks 5 R_RU) (hRm : gRm E = rm_Runs_markBlocks_16) (r : gR X E b_RU_markBlocks none (gBv (wC ad X) Q)) (hK : ∀ (x2 : Int32) (s : gS), K x2 s → gW X E 0 0 (wC ad X s) [(0, .ref (ad 6)), (1, .ref (ad 16)), (2, .int x2)] 60 []) : ∀ (n : Nat) (x2 : Int32) (s : gS), wl_Runs_markBlocks_16_2 Q K n x2 s → gW X E 0 0 (wC ad X s) [(0, .ref (ad 6)), (1, .ref (ad 16)), (2, .int x2)] 2 [] := by
  intro n
  induction n with
  | zero => intro x2 s h; exact False.elim h
  | succ n ih =>
    intro x2 s h
    have h : (((s.1 9) ≤ x2 → K x2 s) ∧ (¬ (s.1 9) ≤ x2 → vp_in x2 9 ∧ (∀ v3 : Int32, v3 = s.2 3 x2.toNatClampNeg → ∃ n11 : Nat, wl_Runs_markBlocks_16_20 Q (fun v13 v14 s12 => ∀ v15 : Int32, v15 = x2 + 1 → wl_Runs_markBlocks_16_2 Q K n v15 s12) x2 n11 v3 0 s))) := h
    refine g_iload_n C d_RU_markBlocks_2 rfl 2 rfl ?_
    refine g_aload_n C d_RU_markBlocks_3 rfl 0 rfl ?_
    refine g_get C (v := .int (s.1 9)) 6 7 iw_RU rfl rfl (by decide) (gt 183 (by decide +kernel) rfl) rfl rfl d_RU_markBlocks_4 ?_
    refine g_icmp_ge C 60 d_RU_markBlocks_7 (by decide) (fun c1 => ?_) (fun c1 => ?_)
    · have h := h.1 c1
      exact hK x2 s h
    · have h := h.2 c1
      refine g_aload_n C d_RU_markBlocks_10 rfl 0 rfl ?_
      refine g_get C (v := .ref (ad 7)) 6 1 iw_RU rfl rfl (by decide) (gt 169 (by decide +kernel) rfl) rfl rfl d_RU_markBlocks_11 ?_
      refine g_iload_n C d_RU_markBlocks_14 rfl 2 rfl ?_
      obtain ⟨i2, h⟩ := h
      refine g_iald C 7 0 rfl rfl i2 d_RU_markBlocks_15 ?_
      refine g_topi (fun v3 e_v3 => ?_)
      have h := h v3 e_v3
      refine g_istore_n C (lv2 := [(0, .ref (ad 6)), (1, .ref (ad 16)), (2, .int x2), (3, .int v3)]) d_RU_markBlocks_16 rfl (by decide) rfl ?_
      refine g_iconst C 0 d_RU_markBlocks_17 (by decide) ?_
      refine g_istore C (lv2 := [(0, .ref (ad 6)), (1, .ref (ad 16)), (2, .int x2), (3, .int v3), (4, .int 0)]) d_RU_markBlocks_18 (by decide) rfl ?_
      obtain ⟨n11, h⟩ := h
      refine w_Runs_markBlocks_16_20 X ad Q (_) x2 E C hRm r ?_ n11 v3 0 s h
      intro v13 v14 s12 h
      obtain ⟨v15, e_v15⟩ : ∃ y : Int32, y = x2 + 1 := ⟨_, rfl⟩
      have h := h v15 e_v15
      refine g_iinc C (v := v15) (lv2 := [(0, .ref (ad 6)), (1, .ref (ad 16)), (2, .int v15), (3, .int v13), (4, .int v14)]) d_RU_markBlocks_54 2 rfl (by rw [e_v15]; rfl) (by decide) rfl ?_
      refine g_goto C 2 d_RU_markBlocks_57 (by decide) ?_
      refine g_lv C [0, 1, 2] rfl ?_
      exact ih v15 s12 h
def wp_Runs_markBlocks_16 (s : gS) (Q : gS → Prop) : Prop := ∃ n16 : Nat, wl_Runs_markBlocks_16_2 Q (fun v18 s17 => Q s17)  n16 0 s
set_option maxHeartbeats 4000000 in
set_option maxRecDepth 100000 in
theorem w_Runs_markBlocks_16 (X : gX) (ad : Nat → Nat) (s : gS) (Q : gS → Prop) (h : wp_Runs_markBlocks_16  s Q) (E : gE) (C : gC X E b_RU_markBlocks 5 R_RU) (hRm : gRm E = rm_Runs_markBlocks_16) (r : gR X E b_RU_markBlocks none (gBv (wC ad X) Q)) : gW X E 0 0 (wC ad X s) [(0, .ref (ad 6)), (1, .ref (ad 16))] 0 [] := by
  have h : ∃ n16 : Nat, wl_Runs_markBlocks_16_2 Q (fun v18 s17 => Q s17)  n16 0 s := h
  refine g_iconst C 0 d_RU_markBlocks_0 (by decide) ?_
  refine g_istore_n C (lv2 := [(0, .ref (ad 6)), (1, .ref (ad 16)), (2, .int 0)]) d_RU_markBlocks_1 rfl (by decide) rfl ?_
  obtain ⟨n16, h⟩ := h
  refine w_Runs_markBlocks_16_2 X ad Q (_)  E C hRm r ?_ n16 0 s h
  intro v18 s17 h
  exact g_vret r d_RU_markBlocks_60 (gBv_mk h)
theorem m_Runs_markBlocks_16 (X : gX) (ad : Nat → Nat) (s : gS) (Q : gS → Prop) (h : wp_Runs_markBlocks_16  s Q) (l : Launch) : gM l X y_RU_markBlocks b_RU_markBlocks 5 none rm_Runs_markBlocks_16 [.ref (ad 6), .ref (ad 16)] (wC ad X s) (gBv (wC ad X) Q) :=
  gM_of (by decide +kernel) rfl (Nat.le_of_ble_eq_true rfl) rfl (fun E C hRm r => w_Runs_markBlocks_16 X ad  s Q h E C hRm r)
def rm_SpillQueue_writeNextEpoch : Room := { frames := 3, cells := 0, slots := 0, locals := 69 }
def wp_SpillQueue_writeNextEpoch (s : gS) (Q : Int32 → gS → Prop) : Prop := ∀ v1 : Int32, v1 = (s.1 1) + 1 → wp_Superblocks_store_6 v1 (up s.1 1 (v1), s.2) (fun r3 s2 => ((¬ r3 = 0 → wp_BlockSet_clear_16 s2 (fun s5 => wp_Runs_markBlocks_16 s5 (fun s7 => Q 0 s7))) ∧ (r3 = 0 → wp_SpillQueue_powerOff s2 (fun s9 => Q (-9) s9))))
set_option maxHeartbeats 4000000 in
set_option maxRecDepth 100000 in
theorem w_SpillQueue_writeNextEpoch (X : gX) (ad : Nat → Nat) (s : gS) (Q : Int32 → gS → Prop) (h : wp_SpillQueue_writeNextEpoch  s Q) (E : gE) (C : gC X E b_SQ_writeNextEpoch 1 R_SQ) (hRm : gRm E = rm_SpillQueue_writeNextEpoch) (r : gR X E b_SQ_writeNextEpoch (some .int) (gBi (wC ad X) Q)) : gW X E 0 0 (wC ad X s) [(0, .ref (ad 0))] 0 [] := by
  have h : ∀ v1 : Int32, v1 = (s.1 1) + 1 → wp_Superblocks_store_6 v1 (up s.1 1 (v1), s.2) (fun r3 s2 => ((¬ r3 = 0 → wp_BlockSet_clear_16 s2 (fun s5 => wp_Runs_markBlocks_16 s5 (fun s7 => Q 0 s7))) ∧ (r3 = 0 → wp_SpillQueue_powerOff s2 (fun s9 => Q (-9) s9)))) := h
  refine g_aload_n C d_SQ_writeNextEpoch_0 rfl 0 rfl ?_
  refine g_dup C rfl d_SQ_writeNextEpoch_1 ?_
  refine g_get C (v := .int (s.1 1)) 0 8 iw_SQ rfl rfl (by decide) (gt 237 (by decide +kernel) rfl) rfl rfl d_SQ_writeNextEpoch_2 ?_
  refine g_iconst C 1 d_SQ_writeNextEpoch_5 (by decide) ?_
  refine g_iadd C d_SQ_writeNextEpoch_6 ?_
  refine g_topi (fun v1 e_v1 => ?_)
  have h := h v1 e_v1
  refine g_put C (ws2 := wC ad X (up s.1 1 (v1), s.2)) 0 8 iw_SQ ty_SQ tyok_SQ nm_SQ rfl rfl (by decide) (gt 237 (by decide +kernel) rfl) rfl rfl rfl rfl (Nat.le_of_ble_eq_true rfl) rfl d_SQ_writeNextEpoch_7 ?_
  refine g_aload_n C d_SQ_writeNextEpoch_10 rfl 0 rfl ?_
  refine g_get C (v := .ref (ad 13)) 0 3 iw_SQ rfl rfl (by decide) (gt 232 (by decide +kernel) rfl) rfl rfl d_SQ_writeNextEpoch_11 ?_
  refine g_aload_n C d_SQ_writeNextEpoch_14 rfl 0 rfl ?_
  refine g_get C (v := .int v1) 0 8 iw_SQ rfl rfl (by decide) (gt 237 (by decide +kernel) rfl) rfl rfl d_SQ_writeNextEpoch_15 ?_
  refine g_aload_n C d_SQ_writeNextEpoch_18 rfl 0 rfl ?_
  refine g_get C (v := .ref (ad 6)) 0 2 iw_SQ rfl rfl (by decide) (gt 231 (by decide +kernel) rfl) rfl rfl d_SQ_writeNextEpoch_19 ?_
  refine g_callVN (host := "SpillQueue") C (rest := []) 13 (fun l => m_Superblocks_store_6 X ad v1 (up s.1 1 (v1), s.2) _ h l) rfl rfl (gn 378 (by decide +kernel) rfl) cb_SB_store ⟨rfl, rfl⟩ (by rw [hRm]; decide) ⟨Nat.zero_le _, Nat.zero_le _⟩ rfl rfl (Nat.le_of_ble_eq_true rfl) d_SQ_writeNextEpoch_22 (gki (fun r3 s2 h => ?_))
  refine g_if_ne C 35 d_SQ_writeNextEpoch_25 (by decide) (fun c4 => ?_) (fun c4 => ?_)
  · have h := h.1 c4
    refine g_aload_n C d_SQ_writeNextEpoch_35 rfl 0 rfl ?_
    refine g_get C (v := .ref (ad 16)) 0 4 iw_SQ rfl rfl (by decide) (gt 233 (by decide +kernel) rfl) rfl rfl d_SQ_writeNextEpoch_36 ?_
    refine g_callVN (host := "SpillQueue") C (rest := []) 16 (fun l => m_BlockSet_clear_16 X ad  s2 _ h l) rfl rfl (gn 363 (by decide +kernel) rfl) cb_BS_clear ⟨rfl, rfl⟩ (by rw [hRm]; decide) ⟨Nat.zero_le _, Nat.zero_le _⟩ rfl rfl (Nat.le_of_ble_eq_true rfl) d_SQ_writeNextEpoch_39 (gkv (fun s5 h => ?_))
    refine g_aload_n C d_SQ_writeNextEpoch_42 rfl 0 rfl ?_
    refine g_get C (v := .ref (ad 6)) 0 2 iw_SQ rfl rfl (by decide) (gt 231 (by decide +kernel) rfl) rfl rfl d_SQ_writeNextEpoch_43 ?_
    refine g_aload_n C d_SQ_writeNextEpoch_46 rfl 0 rfl ?_
    refine g_get C (v := .ref (ad 16)) 0 4 iw_SQ rfl rfl (by decide) (gt 233 (by decide +kernel) rfl) rfl rfl d_SQ_writeNextEpoch_47 ?_
    refine g_callVN (host := "SpillQueue") C (rest := []) 6 (fun l => m_Runs_markBlocks_16 X ad  s5 _ h l) rfl rfl (gn 401 (by decide +kernel) rfl) cb_RU_markBlocks ⟨rfl, rfl⟩ (by rw [hRm]; decide) ⟨Nat.zero_le _, Nat.zero_le _⟩ rfl rfl (Nat.le_of_ble_eq_true rfl) d_SQ_writeNextEpoch_50 (gkv (fun s7 h => ?_))
    refine g_iconst C 0 d_SQ_writeNextEpoch_53 (by decide) ?_
    exact g_iret r rfl d_SQ_writeNextEpoch_54 (gBi_mk h)
  · have h := h.2 c4
    refine g_aload_n C d_SQ_writeNextEpoch_28 rfl 0 rfl ?_
    refine g_callV C (rest := []) 0 (fun l => m_SpillQueue_powerOff X ad  s2 _ h l) rfl rfl (gt 351 (by decide +kernel) rfl) cb_SQ_powerOff ⟨rfl, rfl⟩ (by rw [hRm]; decide) ⟨Nat.zero_le _, Nat.zero_le _⟩ rfl rfl (Nat.le_of_ble_eq_true rfl) d_SQ_writeNextEpoch_29 (gkv (fun s9 h => ?_))
    refine g_bipush C (-9) d_SQ_writeNextEpoch_32 (by decide) ?_
    exact g_iret r rfl d_SQ_writeNextEpoch_34 (gBi_mk h)
theorem m_SpillQueue_writeNextEpoch (X : gX) (ad : Nat → Nat) (s : gS) (Q : Int32 → gS → Prop) (h : wp_SpillQueue_writeNextEpoch  s Q) (l : Launch) : gM l X y_SQ_writeNextEpoch b_SQ_writeNextEpoch 1 (some .int) rm_SpillQueue_writeNextEpoch [.ref (ad 0)] (wC ad X s) (gBi (wC ad X) Q) :=
  gM_of (by decide +kernel) rfl (Nat.le_of_ble_eq_true rfl) rfl (fun E C hRm r => w_SpillQueue_writeNextEpoch X ad  s Q h E C hRm r)
def rm_Memory_isFull : Room := { frames := 0, cells := 0, slots := 0, locals := 0 }
def wp_Memory_isFull (s : gS) (Q : Int32 → gS → Prop) : Prop := (((s.1 7) < (s.1 8) → Q 0 s) ∧ (¬ (s.1 7) < (s.1 8) → Q 1 s))
set_option maxHeartbeats 4000000 in
set_option maxRecDepth 100000 in
theorem w_Memory_isFull (X : gX) (ad : Nat → Nat) (s : gS) (Q : Int32 → gS → Prop) (h : wp_Memory_isFull  s Q) (E : gE) (C : gC X E b_ME_isFull 1 R_ME) (hRm : gRm E = rm_Memory_isFull) (r : gR X E b_ME_isFull (some .boolean) (gBi (wC ad X) Q)) : gW X E 0 0 (wC ad X s) [(0, .ref (ad 4))] 0 [] := by
  have h : (((s.1 7) < (s.1 8) → Q 0 s) ∧ (¬ (s.1 7) < (s.1 8) → Q 1 s)) := h
  refine g_aload_n C d_ME_isFull_0 rfl 0 rfl ?_
  refine g_get C (v := .int (s.1 7)) 4 1 iw_ME rfl rfl (by decide) (gt 152 (by decide +kernel) rfl) rfl rfl d_ME_isFull_1 ?_
  refine g_aload_n C d_ME_isFull_4 rfl 0 rfl ?_
  refine g_get C (v := .int (s.1 8)) 4 2 iw_ME rfl rfl (by decide) (gt 154 (by decide +kernel) rfl) rfl rfl d_ME_isFull_5 ?_
  refine g_icmp_lt C 15 d_ME_isFull_8 (by decide) (fun c1 => ?_) (fun c1 => ?_)
  · have h := h.1 c1
    refine g_iconst C 0 d_ME_isFull_15 (by decide) ?_
    exact g_iret r rfl d_ME_isFull_16 (gBi_mk h)
  · have h := h.2 c1
    refine g_iconst C 1 d_ME_isFull_11 (by decide) ?_
    refine g_goto C 16 d_ME_isFull_12 (by decide) ?_
    exact g_iret r rfl d_ME_isFull_16 (gBi_mk h)
theorem m_Memory_isFull (X : gX) (ad : Nat → Nat) (s : gS) (Q : Int32 → gS → Prop) (h : wp_Memory_isFull  s Q) (l : Launch) : gM l X y_ME_isFull b_ME_isFull 1 (some .boolean) rm_Memory_isFull [.ref (ad 4)] (wC ad X s) (gBi (wC ad X) Q) :=
  gM_of (by decide +kernel) rfl (Nat.le_of_ble_eq_true rfl) rfl (fun E C hRm r => w_Memory_isFull X ad  s Q h E C hRm r)
def rm_Memory_add : Room := { frames := 0, cells := 0, slots := 0, locals := 0 }
def wl_Memory_add_18 (Q : gS → Prop) (K : Int32 → gS → Prop) (x1 : Int32) : Nat → Int32 → gS → Prop
  | 0, _, _ => False
  | n + 1, x2, s => ((x2 ≤ 0 → K x2 s) ∧ (¬ x2 ≤ 0 → vp_in (x2 - 1) 100 ∧ (((x1 ≤ (s.2 2 (x2 - 1).toNatClampNeg) → K x2 s) ∧ (¬ x1 ≤ (s.2 2 (x2 - 1).toNatClampNeg) → vp_in (x2 - 1) 100 ∧ (∀ v7 : Int32, v7 = s.2 2 (x2 - 1).toNatClampNeg → vp_in x2 100 ∧ (∀ v9 : Int32, v9 = x2 + Int32.ofInt (-1) → wl_Memory_add_18 Q K x1 n v9 (s.1, ua s.2 2 (upd (s.2 2) x2.toNatClampNeg v7)))))))))
set_option maxHeartbeats 4000000 in
set_option maxRecDepth 100000 in
theorem w_Memory_add_18 (X : gX) (ad : Nat → Nat) (Q : gS → Prop) (K : Int32 → gS → Prop) (x1 : Int32) (E : gE) (C : gC X E b_ME_add 3 R_ME) (hRm : gRm E = rm_Memory_add) (r : gR X E b_ME_add none (gBv (wC ad X) Q)) (hK : ∀ (x2 : Int32) (s : gS), K x2 s → gW X E 0 0 (wC ad X s) [(0, .ref (ad 4)), (1, .int x1), (2, .int x2)] 54 []) : ∀ (n : Nat) (x2 : Int32) (s : gS), wl_Memory_add_18 Q K x1 n x2 s → gW X E 0 0 (wC ad X s) [(0, .ref (ad 4)), (1, .int x1), (2, .int x2)] 18 [] := by
  intro n
  induction n with
  | zero => intro x2 s h; exact False.elim h
  | succ n ih =>
    intro x2 s h
    have h : ((x2 ≤ 0 → K x2 s) ∧ (¬ x2 ≤ 0 → vp_in (x2 - 1) 100 ∧ (((x1 ≤ (s.2 2 (x2 - 1).toNatClampNeg) → K x2 s) ∧ (¬ x1 ≤ (s.2 2 (x2 - 1).toNatClampNeg) → vp_in (x2 - 1) 100 ∧ (∀ v7 : Int32, v7 = s.2 2 (x2 - 1).toNatClampNeg → vp_in x2 100 ∧ (∀ v9 : Int32, v9 = x2 + Int32.ofInt (-1) → wl_Memory_add_18 Q K x1 n v9 (s.1, ua s.2 2 (upd (s.2 2) x2.toNatClampNeg v7))))))))) := h
    refine g_iload_n C d_ME_add_18 rfl 2 rfl ?_
    refine g_if_le C 54 d_ME_add_19 (by decide) (fun c3 => ?_) (fun c3 => ?_)
    · have h := h.1 c3
      exact hK x2 s h
    · have h := h.2 c3
      refine g_aload_n C d_ME_add_22 rfl 0 rfl ?_
      refine g_get C (v := .ref (ad 5)) 4 0 iw_ME rfl rfl (by decide) (gt 151 (by decide +kernel) rfl) rfl rfl d_ME_add_23 ?_
      refine g_iload_n C d_ME_add_26 rfl 2 rfl ?_
      refine g_iconst C 1 d_ME_add_27 (by decide) ?_
      refine g_isub C d_ME_add_28 ?_
      obtain ⟨i4, h⟩ := h
      refine g_iald C 5 0 rfl rfl i4 d_ME_add_29 ?_
      refine g_iload_n C d_ME_add_30 rfl 1 rfl ?_
      refine g_icmp_ge C 54 d_ME_add_31 (by decide) (fun c5 => ?_) (fun c5 => ?_)
      · have h := h.1 c5
        exact hK x2 s h
      · have h := h.2 c5
        refine g_aload_n C d_ME_add_34 rfl 0 rfl ?_
        refine g_get C (v := .ref (ad 5)) 4 0 iw_ME rfl rfl (by decide) (gt 151 (by decide +kernel) rfl) rfl rfl d_ME_add_35 ?_
        refine g_iload_n C d_ME_add_38 rfl 2 rfl ?_
        refine g_aload_n C d_ME_add_39 rfl 0 rfl ?_
        refine g_get C (v := .ref (ad 5)) 4 0 iw_ME rfl rfl (by decide) (gt 151 (by decide +kernel) rfl) rfl rfl d_ME_add_40 ?_
        refine g_iload_n C d_ME_add_43 rfl 2 rfl ?_
        refine g_iconst C 1 d_ME_add_44 (by decide) ?_
        refine g_isub C d_ME_add_45 ?_
        obtain ⟨i6, h⟩ := h
        refine g_iald C 5 0 rfl rfl i6 d_ME_add_46 ?_
        refine g_topi (fun v7 e_v7 => ?_)
        have h := h v7 e_v7
        obtain ⟨i8, h⟩ := h
        refine g_iast C 5 0 (ws2 := wC ad X (s.1, ua s.2 2 (upd (s.2 2) x2.toNatClampNeg v7))) rfl rfl i8 rfl d_ME_add_47 ?_
        obtain ⟨v9, e_v9⟩ : ∃ y : Int32, y = x2 + Int32.ofInt (-1) := ⟨_, rfl⟩
        have h := h v9 e_v9
        refine g_iinc C (v := v9) (lv2 := [(0, .ref (ad 4)), (1, .int x1), (2, .int v9)]) d_ME_add_48 2 rfl e_v9.symm (by decide) rfl ?_
        refine g_goto C 18 d_ME_add_51 (by decide) ?_
        exact ih v9 (s.1, ua s.2 2 (upd (s.2 2) x2.toNatClampNeg v7)) h
def wp_Memory_add (a1 : Int32) (s : gS) (Q : gS → Prop) : Prop := (((s.1 7) < 100 → ∀ v2 : Int32, v2 = s.1 7 → ∃ n10 : Nat, wl_Memory_add_18 Q (fun v12 s11 => vp_in v12 100 ∧ (∀ v14 : Int32, v14 = (s11.1 7) + 1 → Q (up s11.1 7 (v14), ua s11.2 2 (upd (s11.2 2) v12.toNatClampNeg a1)))) a1 n10 v2 s) ∧ (¬ (s.1 7) < 100 → Q s))
set_option maxHeartbeats 4000000 in
set_option maxRecDepth 100000 in
theorem w_Memory_add (X : gX) (ad : Nat → Nat) (a1 : Int32) (s : gS) (Q : gS → Prop) (h : wp_Memory_add a1 s Q) (E : gE) (C : gC X E b_ME_add 3 R_ME) (hRm : gRm E = rm_Memory_add) (r : gR X E b_ME_add none (gBv (wC ad X) Q)) : gW X E 0 0 (wC ad X s) [(0, .ref (ad 4)), (1, .int a1)] 0 [] := by
  have h : (((s.1 7) < 100 → ∀ v2 : Int32, v2 = s.1 7 → ∃ n10 : Nat, wl_Memory_add_18 Q (fun v12 s11 => vp_in v12 100 ∧ (∀ v14 : Int32, v14 = (s11.1 7) + 1 → Q (up s11.1 7 (v14), ua s11.2 2 (upd (s11.2 2) v12.toNatClampNeg a1)))) a1 n10 v2 s) ∧ (¬ (s.1 7) < 100 → Q s)) := h
  refine g_aload_n C d_ME_add_0 rfl 0 rfl ?_
  refine g_get C (v := .int (s.1 7)) 4 1 iw_ME rfl rfl (by decide) (gt 152 (by decide +kernel) rfl) rfl rfl d_ME_add_1 ?_
  refine g_aload_n C d_ME_add_4 rfl 0 rfl ?_
  refine g_get C (v := .ref (ad 5)) 4 0 iw_ME rfl rfl (by decide) (gt 151 (by decide +kernel) rfl) rfl rfl d_ME_add_5 ?_
  refine g_alen C 5 0 100 rfl rfl rfl d_ME_add_8 ?_
  refine g_icmp_lt C 13 d_ME_add_9 (by decide) (fun c1 => ?_) (fun c1 => ?_)
  · have h := h.1 c1
    refine g_aload_n C d_ME_add_13 rfl 0 rfl ?_
    refine g_get C (v := .int (s.1 7)) 4 1 iw_ME rfl rfl (by decide) (gt 152 (by decide +kernel) rfl) rfl rfl d_ME_add_14 ?_
    refine g_topi (fun v2 e_v2 => ?_)
    have h := h v2 e_v2
    refine g_istore_n C (lv2 := [(0, .ref (ad 4)), (1, .int a1), (2, .int v2)]) d_ME_add_17 rfl (by decide) rfl ?_
    obtain ⟨n10, h⟩ := h
    refine w_Memory_add_18 X ad Q (_) a1 E C hRm r ?_ n10 v2 s h
    intro v12 s11 h
    refine g_aload_n C d_ME_add_54 rfl 0 rfl ?_
    refine g_get C (v := .ref (ad 5)) 4 0 iw_ME rfl rfl (by decide) (gt 151 (by decide +kernel) rfl) rfl rfl d_ME_add_55 ?_
    refine g_iload_n C d_ME_add_58 rfl 2 rfl ?_
    refine g_iload_n C d_ME_add_59 rfl 1 rfl ?_
    obtain ⟨i13, h⟩ := h
    refine g_iast C 5 0 (ws2 := wC ad X (s11.1, ua s11.2 2 (upd (s11.2 2) v12.toNatClampNeg a1))) rfl rfl i13 rfl d_ME_add_60 ?_
    refine g_aload_n C d_ME_add_61 rfl 0 rfl ?_
    refine g_dup C rfl d_ME_add_62 ?_
    refine g_get C (v := .int (s11.1 7)) 4 1 iw_ME rfl rfl (by decide) (gt 152 (by decide +kernel) rfl) rfl rfl d_ME_add_63 ?_
    refine g_iconst C 1 d_ME_add_66 (by decide) ?_
    refine g_iadd C d_ME_add_67 ?_
    refine g_topi (fun v14 e_v14 => ?_)
    have h := h v14 e_v14
    refine g_put C (ws2 := wC ad X (up s11.1 7 (v14), ua s11.2 2 (upd (s11.2 2) v12.toNatClampNeg a1))) 4 1 iw_ME ty_ME tyok_ME nm_ME rfl rfl (by decide) (gt 152 (by decide +kernel) rfl) rfl rfl rfl rfl (Nat.le_of_ble_eq_true rfl) rfl d_ME_add_68 ?_
    exact g_vret r d_ME_add_71 (gBv_mk h)
  · have h := h.2 c1
    exact g_vret r d_ME_add_12 (gBv_mk h)
theorem m_Memory_add (X : gX) (ad : Nat → Nat) (a1 : Int32) (s : gS) (Q : gS → Prop) (h : wp_Memory_add a1 s Q) (l : Launch) : gM l X y_ME_add b_ME_add 3 none rm_Memory_add [.ref (ad 4), .int a1] (wC ad X s) (gBv (wC ad X) Q) :=
  gM_of (by decide +kernel) rfl (Nat.le_of_ble_eq_true rfl) rfl (fun E C hRm r => w_Memory_add X ad a1 s Q h E C hRm r)
def rm_Disk_mostRuns : Room := { frames := 0, cells := 0, slots := 0, locals := 0 }
def wp_Disk_mostRuns (s : gS) (Q : Int32 → gS → Prop) : Prop := Q (((s.1 4) - 3) / 4) s
set_option maxHeartbeats 4000000 in
set_option maxRecDepth 100000 in
theorem w_Disk_mostRuns (X : gX) (ad : Nat → Nat) (s : gS) (Q : Int32 → gS → Prop) (h : wp_Disk_mostRuns  s Q) (E : gE) (C : gC X E b_DK_mostRuns 1 R_DK) (hRm : gRm E = rm_Disk_mostRuns) (r : gR X E b_DK_mostRuns (some .int) (gBi (wC ad X) Q)) : gW X E 0 0 (wC ad X s) [(0, .ref (ad 1))] 0 [] := by
  have h : Q (((s.1 4) - 3) / 4) s := h
  refine g_aload_n C d_DK_mostRuns_0 rfl 0 rfl ?_
  refine g_get C (v := .int (s.1 4)) 1 3 iw_DK rfl rfl (by decide) (gt 123 (by decide +kernel) rfl) rfl rfl d_DK_mostRuns_1 ?_
  refine g_iconst C 3 d_DK_mostRuns_4 (by decide) ?_
  refine g_isub C d_DK_mostRuns_5 ?_
  refine g_iconst C 4 d_DK_mostRuns_6 (by decide) ?_
  refine g_idiv C (by decide) d_DK_mostRuns_7 ?_
  exact g_iret r rfl d_DK_mostRuns_8 (gBi_mk h)
theorem m_Disk_mostRuns (X : gX) (ad : Nat → Nat) (s : gS) (Q : Int32 → gS → Prop) (h : wp_Disk_mostRuns  s Q) (l : Launch) : gM l X y_DK_mostRuns b_DK_mostRuns 1 (some .int) rm_Disk_mostRuns [.ref (ad 1)] (wC ad X s) (gBi (wC ad X) Q) :=
  gM_of (by decide +kernel) rfl (Nat.le_of_ble_eq_true rfl) rfl (fun E C hRm r => w_Disk_mostRuns X ad  s Q h E C hRm r)
def rm_Memory_howMany : Room := { frames := 0, cells := 0, slots := 0, locals := 0 }
def wp_Memory_howMany (s : gS) (Q : Int32 → gS → Prop) : Prop := Q (s.1 7) s
set_option maxHeartbeats 4000000 in
set_option maxRecDepth 100000 in
theorem w_Memory_howMany (X : gX) (ad : Nat → Nat) (s : gS) (Q : Int32 → gS → Prop) (h : wp_Memory_howMany  s Q) (E : gE) (C : gC X E b_ME_howMany 1 R_ME) (hRm : gRm E = rm_Memory_howMany) (r : gR X E b_ME_howMany (some .int) (gBi (wC ad X) Q)) : gW X E 0 0 (wC ad X s) [(0, .ref (ad 4))] 0 [] := by
  have h : Q (s.1 7) s := h
  refine g_aload_n C d_ME_howMany_0 rfl 0 rfl ?_
  refine g_get C (v := .int (s.1 7)) 4 1 iw_ME rfl rfl (by decide) (gt 152 (by decide +kernel) rfl) rfl rfl d_ME_howMany_1 ?_
  exact g_iret r rfl d_ME_howMany_4 (gBi_mk h)
theorem m_Memory_howMany (X : gX) (ad : Nat → Nat) (s : gS) (Q : Int32 → gS → Prop) (h : wp_Memory_howMany  s Q) (l : Launch) : gM l X y_ME_howMany b_ME_howMany 1 (some .int) rm_Memory_howMany [.ref (ad 4)] (wC ad X s) (gBi (wC ad X) Q) :=
  gM_of (by decide +kernel) rfl (Nat.le_of_ble_eq_true rfl) rfl (fun E C hRm r => w_Memory_howMany X ad  s Q h E C hRm r)
def rm_Disk_keysPerBlock : Room := { frames := 0, cells := 0, slots := 0, locals := 0 }
def wp_Disk_keysPerBlock (s : gS) (Q : Int32 → gS → Prop) : Prop := Q ((s.1 4) - 2) s
set_option maxHeartbeats 4000000 in
set_option maxRecDepth 100000 in
theorem w_Disk_keysPerBlock (X : gX) (ad : Nat → Nat) (s : gS) (Q : Int32 → gS → Prop) (h : wp_Disk_keysPerBlock  s Q) (E : gE) (C : gC X E b_DK_keysPerBlock 1 R_DK) (hRm : gRm E = rm_Disk_keysPerBlock) (r : gR X E b_DK_keysPerBlock (some .int) (gBi (wC ad X) Q)) : gW X E 0 0 (wC ad X s) [(0, .ref (ad 1))] 0 [] := by
  have h : Q ((s.1 4) - 2) s := h
  refine g_aload_n C d_DK_keysPerBlock_0 rfl 0 rfl ?_
  refine g_get C (v := .int (s.1 4)) 1 3 iw_DK rfl rfl (by decide) (gt 123 (by decide +kernel) rfl) rfl rfl d_DK_keysPerBlock_1 ?_
  refine g_iconst C 2 d_DK_keysPerBlock_4 (by decide) ?_
  refine g_isub C d_DK_keysPerBlock_5 ?_
  exact g_iret r rfl d_DK_keysPerBlock_6 (gBi_mk h)
theorem m_Disk_keysPerBlock (X : gX) (ad : Nat → Nat) (s : gS) (Q : Int32 → gS → Prop) (h : wp_Disk_keysPerBlock  s Q) (l : Launch) : gM l X y_DK_keysPerBlock b_DK_keysPerBlock 1 (some .int) rm_Disk_keysPerBlock [.ref (ad 1)] (wC ad X s) (gBi (wC ad X) Q) :=
  gM_of (by decide +kernel) rfl (Nat.le_of_ble_eq_true rfl) rfl (fun E C hRm r => w_Disk_keysPerBlock X ad  s Q h E C hRm r)
def rm_Disk_blocksFor : Room := { frames := 1, cells := 0, slots := 0, locals := 20 }
def wp_Disk_blocksFor (a1 : Int32) (s : gS) (Q : Int32 → gS → Prop) : Prop := wp_Disk_keysPerBlock s (fun r2 s1 => ((r2 ≤ 0 → Q 0 s1) ∧ (¬ r2 ≤ 0 → ¬ r2 = 0 ∧ (Q (((a1 + r2) - 1) / r2) s1))))
set_option maxHeartbeats 4000000 in
set_option maxRecDepth 100000 in
theorem w_Disk_blocksFor (X : gX) (ad : Nat → Nat) (a1 : Int32) (s : gS) (Q : Int32 → gS → Prop) (h : wp_Disk_blocksFor a1 s Q) (E : gE) (C : gC X E b_DK_blocksFor 3 R_DK) (hRm : gRm E = rm_Disk_blocksFor) (r : gR X E b_DK_blocksFor (some .int) (gBi (wC ad X) Q)) : gW X E 0 0 (wC ad X s) [(0, .ref (ad 1)), (1, .int a1)] 0 [] := by
  have h : wp_Disk_keysPerBlock s (fun r2 s1 => ((r2 ≤ 0 → Q 0 s1) ∧ (¬ r2 ≤ 0 → ¬ r2 = 0 ∧ (Q (((a1 + r2) - 1) / r2) s1)))) := h
  refine g_aload_n C d_DK_blocksFor_0 rfl 0 rfl ?_
  refine g_callV C (rest := []) 1 (fun l => m_Disk_keysPerBlock X ad  s _ h l) rfl rfl (gt 480 (by decide +kernel) rfl) cb_DK_keysPerBlock ⟨rfl, rfl⟩ (by rw [hRm]; decide) ⟨Nat.zero_le _, Nat.zero_le _⟩ rfl rfl (Nat.le_of_ble_eq_true rfl) d_DK_blocksFor_1 (gki (fun r2 s1 h => ?_))
  refine g_istore_n C (lv2 := [(0, .ref (ad 1)), (1, .int a1), (2, .int r2)]) d_DK_blocksFor_4 rfl (by decide) rfl ?_
  refine g_iload_n C d_DK_blocksFor_5 rfl 2 rfl ?_
  refine g_if_le C 19 d_DK_blocksFor_6 (by decide) (fun c3 => ?_) (fun c3 => ?_)
  · have h := h.1 c3
    refine g_iconst C 0 d_DK_blocksFor_19 (by decide) ?_
    exact g_iret r rfl d_DK_blocksFor_20 (gBi_mk h)
  · have h := h.2 c3
    refine g_iload_n C d_DK_blocksFor_9 rfl 1 rfl ?_
    refine g_iload_n C d_DK_blocksFor_10 rfl 2 rfl ?_
    refine g_iadd C d_DK_blocksFor_11 ?_
    refine g_iconst C 1 d_DK_blocksFor_12 (by decide) ?_
    refine g_isub C d_DK_blocksFor_13 ?_
    refine g_iload_n C d_DK_blocksFor_14 rfl 2 rfl ?_
    obtain ⟨z4, h⟩ := h
    refine g_idiv C z4 d_DK_blocksFor_15 ?_
    refine g_goto C 20 d_DK_blocksFor_16 (by decide) ?_
    exact g_iret r rfl d_DK_blocksFor_20 (gBi_mk h)
theorem m_Disk_blocksFor (X : gX) (ad : Nat → Nat) (a1 : Int32) (s : gS) (Q : Int32 → gS → Prop) (h : wp_Disk_blocksFor a1 s Q) (l : Launch) : gM l X y_DK_blocksFor b_DK_blocksFor 3 (some .int) rm_Disk_blocksFor [.ref (ad 1), .int a1] (wC ad X s) (gBi (wC ad X) Q) :=
  gM_of (by decide +kernel) rfl (Nat.le_of_ble_eq_true rfl) rfl (fun E C hRm r => w_Disk_blocksFor X ad a1 s Q h E C hRm r)
def rm_BlockSet_has_16 : Room := { frames := 0, cells := 0, slots := 0, locals := 0 }
def wp_BlockSet_has_16 (a1 : Int32) (s : gS) (Q : Int32 → gS → Prop) : Prop := ((a1 < 0 → Q 0 s) ∧ (¬ a1 < 0 → ((200 ≤ a1 → Q 0 s) ∧ (¬ 200 ≤ a1 → vp_in a1 200 ∧ ((((s.2 10 a1.toNatClampNeg) = 0 → Q 0 s) ∧ (¬ (s.2 10 a1.toNatClampNeg) = 0 → Q 1 s)))))))
set_option maxHeartbeats 4000000 in
set_option maxRecDepth 100000 in
theorem w_BlockSet_has_16 (X : gX) (ad : Nat → Nat) (a1 : Int32) (s : gS) (Q : Int32 → gS → Prop) (h : wp_BlockSet_has_16 a1 s Q) (E : gE) (C : gC X E b_BS_has 2 R_BS) (hRm : gRm E = rm_BlockSet_has_16) (r : gR X E b_BS_has (some .boolean) (gBi (wC ad X) Q)) : gW X E 0 0 (wC ad X s) [(0, .ref (ad 16)), (1, .int a1)] 0 [] := by
  have h : ((a1 < 0 → Q 0 s) ∧ (¬ a1 < 0 → ((200 ≤ a1 → Q 0 s) ∧ (¬ 200 ≤ a1 → vp_in a1 200 ∧ ((((s.2 10 a1.toNatClampNeg) = 0 → Q 0 s) ∧ (¬ (s.2 10 a1.toNatClampNeg) = 0 → Q 1 s))))))) := h
  refine g_iload_n C d_BS_has_0 rfl 1 rfl ?_
  refine g_if_lt C 26 d_BS_has_1 (by decide) (fun c1 => ?_) (fun c1 => ?_)
  · have h := h.1 c1
    refine g_iconst C 0 d_BS_has_26 (by decide) ?_
    exact g_iret r rfl d_BS_has_27 (gBi_mk h)
  · have h := h.2 c1
    refine g_iload_n C d_BS_has_4 rfl 1 rfl ?_
    refine g_aload_n C d_BS_has_5 rfl 0 rfl ?_
    refine g_get C (v := .ref (ad 17)) 16 0 iw_BS rfl rfl (by decide) (gt 216 (by decide +kernel) rfl) rfl rfl d_BS_has_6 ?_
    refine g_alen C 17 1 200 rfl rfl rfl d_BS_has_9 ?_
    refine g_icmp_ge C 26 d_BS_has_10 (by decide) (fun c2 => ?_) (fun c2 => ?_)
    · have h := h.1 c2
      refine g_iconst C 0 d_BS_has_26 (by decide) ?_
      exact g_iret r rfl d_BS_has_27 (gBi_mk h)
    · have h := h.2 c2
      refine g_aload_n C d_BS_has_13 rfl 0 rfl ?_
      refine g_get C (v := .ref (ad 17)) 16 0 iw_BS rfl rfl (by decide) (gt 216 (by decide +kernel) rfl) rfl rfl d_BS_has_14 ?_
      refine g_iload_n C d_BS_has_17 rfl 1 rfl ?_
      obtain ⟨i3, h⟩ := h
      refine g_zald C 17 1 rfl rfl i3 d_BS_has_18 ?_
      refine g_if_eq C 26 d_BS_has_19 (by decide) (fun c4 => ?_) (fun c4 => ?_)
      · have h := h.1 c4
        refine g_iconst C 0 d_BS_has_26 (by decide) ?_
        exact g_iret r rfl d_BS_has_27 (gBi_mk h)
      · have h := h.2 c4
        refine g_iconst C 1 d_BS_has_22 (by decide) ?_
        refine g_goto C 27 d_BS_has_23 (by decide) ?_
        exact g_iret r rfl d_BS_has_27 (gBi_mk h)
theorem m_BlockSet_has_16 (X : gX) (ad : Nat → Nat) (a1 : Int32) (s : gS) (Q : Int32 → gS → Prop) (h : wp_BlockSet_has_16 a1 s Q) (l : Launch) : gM l X y_BS_has b_BS_has 2 (some .boolean) rm_BlockSet_has_16 [.ref (ad 16), .int a1] (wC ad X s) (gBi (wC ad X) Q) :=
  gM_of (by decide +kernel) rfl (Nat.le_of_ble_eq_true rfl) rfl (fun E C hRm r => w_BlockSet_has_16 X ad a1 s Q h E C hRm r)
def rm_BlockSet_copyOf_18_16 : Room := { frames := 1, cells := 0, slots := 0, locals := 21 }
def wl_BlockSet_copyOf_18_16_2 (Q : gS → Prop) (K : Int32 → gS → Prop) : Nat → Int32 → gS → Prop
  | 0, _, _ => False
  | n + 1, x2, s => ((200 ≤ x2 → K x2 s) ∧ (¬ 200 ≤ x2 → wp_BlockSet_has_16 x2 s (fun r3 s2 => vp_in x2 200 ∧ (∀ v5 : Int32, v5 = x2 + 1 → wl_BlockSet_copyOf_18_16_2 Q K n v5 (s2.1, ua s2.2 11 (upd (s2.2 11) x2.toNatClampNeg (vp_nar .boolean r3)))))))
set_option maxHeartbeats 4000000 in
set_option maxRecDepth 100000 in
theorem w_BlockSet_copyOf_18_16_2 (X : gX) (ad : Nat → Nat) (Q : gS → Prop) (K : Int32 → gS → Prop) (E : gE) (C : gC X E b_BS_copyOf 3 R_BS) (hRm : gRm E = rm_BlockSet_copyOf_18_16) (r : gR X E b_BS_copyOf none (gBv (wC ad X) Q)) (hK : ∀ (x2 : Int32) (s : gS), K x2 s → gW X E 0 0 (wC ad X s) [(0, .ref (ad 18)), (1, .ref (ad 16)), (2, .int x2)] 28 []) : ∀ (n : Nat) (x2 : Int32) (s : gS), wl_BlockSet_copyOf_18_16_2 Q K n x2 s → gW X E 0 0 (wC ad X s) [(0, .ref (ad 18)), (1, .ref (ad 16)), (2, .int x2)] 2 [] := by
  intro n
  induction n with
  | zero => intro x2 s h; exact False.elim h
  | succ n ih =>
    intro x2 s h
    have h : ((200 ≤ x2 → K x2 s) ∧ (¬ 200 ≤ x2 → wp_BlockSet_has_16 x2 s (fun r3 s2 => vp_in x2 200 ∧ (∀ v5 : Int32, v5 = x2 + 1 → wl_BlockSet_copyOf_18_16_2 Q K n v5 (s2.1, ua s2.2 11 (upd (s2.2 11) x2.toNatClampNeg (vp_nar .boolean r3))))))) := h
    refine g_iload_n C d_BS_copyOf_2 rfl 2 rfl ?_
    refine g_aload_n C d_BS_copyOf_3 rfl 0 rfl ?_
    refine g_get C (v := .ref (ad 19)) 18 0 iw_BS rfl rfl (by decide) (gt 216 (by decide +kernel) rfl) rfl rfl d_BS_copyOf_4 ?_
    refine g_alen C 19 1 200 rfl rfl rfl d_BS_copyOf_7 ?_
    refine g_icmp_ge C 28 d_BS_copyOf_8 (by decide) (fun c1 => ?_) (fun c1 => ?_)
    · have h := h.1 c1
      exact hK x2 s h
    · have h := h.2 c1
      refine g_aload_n C d_BS_copyOf_11 rfl 0 rfl ?_
      refine g_get C (v := .ref (ad 19)) 18 0 iw_BS rfl rfl (by decide) (gt 216 (by decide +kernel) rfl) rfl rfl d_BS_copyOf_12 ?_
      refine g_iload_n C d_BS_copyOf_15 rfl 2 rfl ?_
      refine g_aload_n C d_BS_copyOf_16 rfl 1 rfl ?_
      refine g_iload_n C d_BS_copyOf_17 rfl 2 rfl ?_
      refine g_callV C (rest := [.int x2, .ref (ad 19)]) 16 (fun l => m_BlockSet_has_16 X ad x2 s _ h l) rfl rfl (gt 492 (by decide +kernel) rfl) cb_BS_has ⟨rfl, rfl⟩ (by rw [hRm]; decide) ⟨Nat.zero_le _, Nat.zero_le _⟩ rfl rfl (Nat.le_of_ble_eq_true rfl) d_BS_copyOf_18 (gki (fun r3 s2 h => ?_))
      obtain ⟨i4, h⟩ := h
      refine g_zast C 19 1 (ws2 := wC ad X (s2.1, ua s2.2 11 (upd (s2.2 11) x2.toNatClampNeg (vp_nar .boolean r3)))) rfl rfl i4 rfl d_BS_copyOf_21 ?_
      obtain ⟨v5, e_v5⟩ : ∃ y : Int32, y = x2 + 1 := ⟨_, rfl⟩
      have h := h v5 e_v5
      refine g_iinc C (v := v5) (lv2 := [(0, .ref (ad 18)), (1, .ref (ad 16)), (2, .int v5)]) d_BS_copyOf_22 2 rfl (by rw [e_v5]; rfl) (by decide) rfl ?_
      refine g_goto C 2 d_BS_copyOf_25 (by decide) ?_
      exact ih v5 (s2.1, ua s2.2 11 (upd (s2.2 11) x2.toNatClampNeg (vp_nar .boolean r3))) h
def wp_BlockSet_copyOf_18_16 (s : gS) (Q : gS → Prop) : Prop := ∃ n6 : Nat, wl_BlockSet_copyOf_18_16_2 Q (fun v8 s7 => Q s7)  n6 0 s
set_option maxHeartbeats 4000000 in
set_option maxRecDepth 100000 in
theorem w_BlockSet_copyOf_18_16 (X : gX) (ad : Nat → Nat) (s : gS) (Q : gS → Prop) (h : wp_BlockSet_copyOf_18_16  s Q) (E : gE) (C : gC X E b_BS_copyOf 3 R_BS) (hRm : gRm E = rm_BlockSet_copyOf_18_16) (r : gR X E b_BS_copyOf none (gBv (wC ad X) Q)) : gW X E 0 0 (wC ad X s) [(0, .ref (ad 18)), (1, .ref (ad 16))] 0 [] := by
  have h : ∃ n6 : Nat, wl_BlockSet_copyOf_18_16_2 Q (fun v8 s7 => Q s7)  n6 0 s := h
  refine g_iconst C 0 d_BS_copyOf_0 (by decide) ?_
  refine g_istore_n C (lv2 := [(0, .ref (ad 18)), (1, .ref (ad 16)), (2, .int 0)]) d_BS_copyOf_1 rfl (by decide) rfl ?_
  obtain ⟨n6, h⟩ := h
  refine w_BlockSet_copyOf_18_16_2 X ad Q (_)  E C hRm r ?_ n6 0 s h
  intro v8 s7 h
  exact g_vret r d_BS_copyOf_28 (gBv_mk h)
theorem m_BlockSet_copyOf_18_16 (X : gX) (ad : Nat → Nat) (s : gS) (Q : gS → Prop) (h : wp_BlockSet_copyOf_18_16  s Q) (l : Launch) : gM l X y_BS_copyOf b_BS_copyOf 3 none rm_BlockSet_copyOf_18_16 [.ref (ad 18), .ref (ad 16)] (wC ad X s) (gBv (wC ad X) Q) :=
  gM_of (by decide +kernel) rfl (Nat.le_of_ble_eq_true rfl) rfl (fun E C hRm r => w_BlockSet_copyOf_18_16 X ad  s Q h E C hRm r)
def rm_BlockSet_add_18 : Room := { frames := 0, cells := 0, slots := 0, locals := 0 }
def wp_BlockSet_add_18 (a1 : Int32) (s : gS) (Q : gS → Prop) : Prop := ((a1 < 0 → Q s) ∧ (¬ a1 < 0 → ((200 ≤ a1 → Q s) ∧ (¬ 200 ≤ a1 → vp_in a1 200 ∧ (Q (s.1, ua s.2 11 (upd (s.2 11) a1.toNatClampNeg (vp_nar .boolean 1))))))))
set_option maxHeartbeats 4000000 in
set_option maxRecDepth 100000 in
theorem w_BlockSet_add_18 (X : gX) (ad : Nat → Nat) (a1 : Int32) (s : gS) (Q : gS → Prop) (h : wp_BlockSet_add_18 a1 s Q) (E : gE) (C : gC X E b_BS_add 2 R_BS) (hRm : gRm E = rm_BlockSet_add_18) (r : gR X E b_BS_add none (gBv (wC ad X) Q)) : gW X E 0 0 (wC ad X s) [(0, .ref (ad 18)), (1, .int a1)] 0 [] := by
  have h : ((a1 < 0 → Q s) ∧ (¬ a1 < 0 → ((200 ≤ a1 → Q s) ∧ (¬ 200 ≤ a1 → vp_in a1 200 ∧ (Q (s.1, ua s.2 11 (upd (s.2 11) a1.toNatClampNeg (vp_nar .boolean 1)))))))) := h
  refine g_iload_n C d_BS_add_0 rfl 1 rfl ?_
  refine g_if_lt C 20 d_BS_add_1 (by decide) (fun c1 => ?_) (fun c1 => ?_)
  · have h := h.1 c1
    exact g_vret r d_BS_add_20 (gBv_mk h)
  · have h := h.2 c1
    refine g_iload_n C d_BS_add_4 rfl 1 rfl ?_
    refine g_aload_n C d_BS_add_5 rfl 0 rfl ?_
    refine g_get C (v := .ref (ad 19)) 18 0 iw_BS rfl rfl (by decide) (gt 216 (by decide +kernel) rfl) rfl rfl d_BS_add_6 ?_
    refine g_alen C 19 1 200 rfl rfl rfl d_BS_add_9 ?_
    refine g_icmp_ge C 20 d_BS_add_10 (by decide) (fun c2 => ?_) (fun c2 => ?_)
    · have h := h.1 c2
      exact g_vret r d_BS_add_20 (gBv_mk h)
    · have h := h.2 c2
      refine g_aload_n C d_BS_add_13 rfl 0 rfl ?_
      refine g_get C (v := .ref (ad 19)) 18 0 iw_BS rfl rfl (by decide) (gt 216 (by decide +kernel) rfl) rfl rfl d_BS_add_14 ?_
      refine g_iload_n C d_BS_add_17 rfl 1 rfl ?_
      refine g_iconst C 1 d_BS_add_18 (by decide) ?_
      obtain ⟨i3, h⟩ := h
      refine g_zast C 19 1 (ws2 := wC ad X (s.1, ua s.2 11 (upd (s.2 11) a1.toNatClampNeg (vp_nar .boolean 1)))) rfl rfl i3 rfl d_BS_add_19 ?_
      exact g_vret r d_BS_add_20 (gBv_mk h)
theorem m_BlockSet_add_18 (X : gX) (ad : Nat → Nat) (a1 : Int32) (s : gS) (Q : gS → Prop) (h : wp_BlockSet_add_18 a1 s Q) (l : Launch) : gM l X y_BS_add b_BS_add 2 none rm_BlockSet_add_18 [.ref (ad 18), .int a1] (wC ad X s) (gBv (wC ad X) Q) :=
  gM_of (by decide +kernel) rfl (Nat.le_of_ble_eq_true rfl) rfl (fun E C hRm r => w_BlockSet_add_18 X ad a1 s Q h E C hRm r)
def rm_Runs_markBlocks_18 : Room := { frames := 1, cells := 0, slots := 0, locals := 22 }
def wl_Runs_markBlocks_18_20 (Q : gS → Prop) (K : Int32 → Int32 → gS → Prop) (x2 : Int32) : Nat → Int32 → Int32 → gS → Prop
  | 0, _, _, _ => False
  | n + 1, x3, x4, s => ((200 ≤ x4 → K x3 x4 s) ∧ (¬ 200 ≤ x4 → ((x3 < 2 → K x3 x4 s) ∧ (¬ x3 < 2 → wp_BlockSet_add_18 x3 s (fun s6 => wp_Disk_get x3 1 s6 (fun r9 s8 => ∀ v10 : Int32, v10 = x4 + 1 → wl_Runs_markBlocks_18_20 Q K x2 n r9 v10 s8))))))
set_option maxHeartbeats 4000000 in
set_option maxRecDepth 100000 in
theorem w_Runs_markBlocks_18_20 (X : gX) (ad : Nat → Nat) (Q : gS → Prop) (K : Int32 → Int32 → gS → Prop) (x2 : Int32) (E : gE) (C : gC X E b_RU_markBlocks 5 R_RU) (hRm : gRm E = rm_Runs_markBlocks_18) (r : gR X E b_RU_markBlocks none (gBv (wC ad X) Q)) (hK : ∀ (x3 : Int32) (x4 : Int32) (s : gS), K x3 x4 s → gW X E 0 0 (wC ad X s) [(0, .ref (ad 6)), (1, .ref (ad 18)), (2, .int x2), (3, .int x3), (4, .int x4)] 54 []) : ∀ (n : Nat) (x3 : Int32) (x4 : Int32) (s : gS), wl_Runs_markBlocks_18_20 Q K x2 n x3 x4 s → gW X E 0 0 (wC ad X s) [(0, .ref (ad 6)), (1, .ref (ad 18)), (2, .int x2), (3, .int x3), (4, .int x4)] 20 [] := by
  intro n
  induction n with
  | zero => intro x3 x4 s h; exact False.elim h
  | succ n ih =>
    intro x3 x4 s h
    have h : ((200 ≤ x4 → K x3 x4 s) ∧ (¬ 200 ≤ x4 → ((x3 < 2 → K x3 x4 s) ∧ (¬ x3 < 2 → wp_BlockSet_add_18 x3 s (fun s6 => wp_Disk_get x3 1 s6 (fun r9 s8 => ∀ v10 : Int32, v10 = x4 + 1 → wl_Runs_markBlocks_18_20 Q K x2 n r9 v10 s8)))))) := h
    refine g_iload C d_RU_markBlocks_20 4 rfl ?_
    refine g_sipush C 200 d_RU_markBlocks_22 (by decide) ?_
    refine g_icmp_ge C 54 d_RU_markBlocks_25 (by decide) (fun c4 => ?_) (fun c4 => ?_)
    · have h := h.1 c4
      exact hK x3 x4 s h
    · have h := h.2 c4
      refine g_iload_n C d_RU_markBlocks_28 rfl 3 rfl ?_
      refine g_iconst C 2 d_RU_markBlocks_29 (by decide) ?_
      refine g_icmp_lt C 54 d_RU_markBlocks_30 (by decide) (fun c5 => ?_) (fun c5 => ?_)
      · have h := h.1 c5
        exact hK x3 x4 s h
      · have h := h.2 c5
        refine g_aload_n C d_RU_markBlocks_33 rfl 1 rfl ?_
        refine g_iload_n C d_RU_markBlocks_34 rfl 3 rfl ?_
        refine g_callVN (host := "SpillQueue") C (rest := []) 18 (fun l => m_BlockSet_add_18 X ad x3 s _ h l) rfl rfl (gn 405 (by decide +kernel) rfl) cb_BS_add ⟨rfl, rfl⟩ (by rw [hRm]; decide) ⟨Nat.zero_le _, Nat.zero_le _⟩ rfl rfl (Nat.le_of_ble_eq_true rfl) d_RU_markBlocks_35 (gkv (fun s6 h => ?_))
        refine g_aload_n C d_RU_markBlocks_38 rfl 0 rfl ?_
        refine g_get C (v := .ref (ad 1)) 6 0 iw_RU rfl rfl (by decide) (gt 168 (by decide +kernel) rfl) rfl rfl d_RU_markBlocks_39 ?_
        refine g_iload_n C d_RU_markBlocks_42 rfl 3 rfl ?_
        refine g_iconst C 1 d_RU_markBlocks_43 (by decide) ?_
        refine g_callVN (host := "SpillQueue") C (rest := []) 1 (fun l => m_Disk_get X ad x3 1 s6 _ h l) rfl rfl (gn 409 (by decide +kernel) rfl) cb_DK_get ⟨rfl, rfl⟩ (by rw [hRm]; decide) ⟨Nat.zero_le _, Nat.zero_le _⟩ rfl rfl (Nat.le_of_ble_eq_true rfl) d_RU_markBlocks_44 (gki (fun r9 s8 h => ?_))
        refine g_istore_n C (lv2 := [(0, .ref (ad 6)), (1, .ref (ad 18)), (2, .int x2), (3, .int r9), (4, .int x4)]) d_RU_markBlocks_47 rfl (by decide) rfl ?_
        obtain ⟨v10, e_v10⟩ : ∃ y : Int32, y = x4 + 1 := ⟨_, rfl⟩
        have h := h v10 e_v10
        refine g_iinc C (v := v10) (lv2 := [(0, .ref (ad 6)), (1, .ref (ad 18)), (2, .int x2), (3, .int r9), (4, .int v10)]) d_RU_markBlocks_48 4 rfl (by rw [e_v10]; rfl) (by decide) rfl ?_
        refine g_goto C 20 d_RU_markBlocks_51 (by decide) ?_
        exact ih r9 v10 s8 h
def wl_Runs_markBlocks_18_2 (Q : gS → Prop) (K : Int32 → gS → Prop) : Nat → Int32 → gS → Prop
  | 0, _, _ => False
  | n + 1, x2, s => (((s.1 9) ≤ x2 → K x2 s) ∧ (¬ (s.1 9) ≤ x2 → vp_in x2 9 ∧ (∀ v3 : Int32, v3 = s.2 3 x2.toNatClampNeg → ∃ n11 : Nat, wl_Runs_markBlocks_18_20 Q (fun v13 v14 s12 => ∀ v15 : Int32, v15 = x2 + 1 → wl_Runs_markBlocks_18_2 Q K n v15 s12) x2 n11 v3 0 s)))
set_option maxHeartbeats 4000000 in
set_option maxRecDepth 100000 in
theorem w_Runs_markBlocks_18_2 (X : gX) (ad : Nat → Nat) (Q : gS → Prop) (K : Int32 → gS → Prop) (E : gE) (C : gC X E b_RU_markBlocks 5 R_RU) (hRm : gRm E = rm_Runs_markBlocks_18) (r : gR X E b_RU_markBlocks none (gBv (wC ad X) Q)) (hK : ∀ (x2 : Int32) (s : gS), K x2 s → gW X E 0 0 (wC ad X s) [(0, .ref (ad 6)), (1, .ref (ad 18)), (2, .int x2)] 60 []) : ∀ (n : Nat) (x2 : Int32) (s : gS), wl_Runs_markBlocks_18_2 Q K n x2 s → gW X E 0 0 (wC ad X s) [(0, .ref (ad 6)), (1, .ref (ad 18)), (2, .int x2)] 2 [] := by
  intro n
  induction n with
  | zero => intro x2 s h; exact False.elim h
  | succ n ih =>
    intro x2 s h
    have h : (((s.1 9) ≤ x2 → K x2 s) ∧ (¬ (s.1 9) ≤ x2 → vp_in x2 9 ∧ (∀ v3 : Int32, v3 = s.2 3 x2.toNatClampNeg → ∃ n11 : Nat, wl_Runs_markBlocks_18_20 Q (fun v13 v14 s12 => ∀ v15 : Int32, v15 = x2 + 1 → wl_Runs_markBlocks_18_2 Q K n v15 s12) x2 n11 v3 0 s))) := h
    refine g_iload_n C d_RU_markBlocks_2 rfl 2 rfl ?_
    refine g_aload_n C d_RU_markBlocks_3 rfl 0 rfl ?_
    refine g_get C (v := .int (s.1 9)) 6 7 iw_RU rfl rfl (by decide) (gt 183 (by decide +kernel) rfl) rfl rfl d_RU_markBlocks_4 ?_
    refine g_icmp_ge C 60 d_RU_markBlocks_7 (by decide) (fun c1 => ?_) (fun c1 => ?_)
    · have h := h.1 c1
      exact hK x2 s h
    · have h := h.2 c1
      refine g_aload_n C d_RU_markBlocks_10 rfl 0 rfl ?_
      refine g_get C (v := .ref (ad 7)) 6 1 iw_RU rfl rfl (by decide) (gt 169 (by decide +kernel) rfl) rfl rfl d_RU_markBlocks_11 ?_
      refine g_iload_n C d_RU_markBlocks_14 rfl 2 rfl ?_
      obtain ⟨i2, h⟩ := h
      refine g_iald C 7 0 rfl rfl i2 d_RU_markBlocks_15 ?_
      refine g_topi (fun v3 e_v3 => ?_)
      have h := h v3 e_v3
      refine g_istore_n C (lv2 := [(0, .ref (ad 6)), (1, .ref (ad 18)), (2, .int x2), (3, .int v3)]) d_RU_markBlocks_16 rfl (by decide) rfl ?_
      refine g_iconst C 0 d_RU_markBlocks_17 (by decide) ?_
      refine g_istore C (lv2 := [(0, .ref (ad 6)), (1, .ref (ad 18)), (2, .int x2), (3, .int v3), (4, .int 0)]) d_RU_markBlocks_18 (by decide) rfl ?_
      obtain ⟨n11, h⟩ := h
      refine w_Runs_markBlocks_18_20 X ad Q (_) x2 E C hRm r ?_ n11 v3 0 s h
      intro v13 v14 s12 h
      obtain ⟨v15, e_v15⟩ : ∃ y : Int32, y = x2 + 1 := ⟨_, rfl⟩
      have h := h v15 e_v15
      refine g_iinc C (v := v15) (lv2 := [(0, .ref (ad 6)), (1, .ref (ad 18)), (2, .int v15), (3, .int v13), (4, .int v14)]) d_RU_markBlocks_54 2 rfl (by rw [e_v15]; rfl) (by decide) rfl ?_
      refine g_goto C 2 d_RU_markBlocks_57 (by decide) ?_
      refine g_lv C [0, 1, 2] rfl ?_
      exact ih v15 s12 h
def wp_Runs_markBlocks_18 (s : gS) (Q : gS → Prop) : Prop := ∃ n16 : Nat, wl_Runs_markBlocks_18_2 Q (fun v18 s17 => Q s17)  n16 0 s
set_option maxHeartbeats 4000000 in
set_option maxRecDepth 100000 in
theorem w_Runs_markBlocks_18 (X : gX) (ad : Nat → Nat) (s : gS) (Q : gS → Prop) (h : wp_Runs_markBlocks_18  s Q) (E : gE) (C : gC X E b_RU_markBlocks 5 R_RU) (hRm : gRm E = rm_Runs_markBlocks_18) (r : gR X E b_RU_markBlocks none (gBv (wC ad X) Q)) : gW X E 0 0 (wC ad X s) [(0, .ref (ad 6)), (1, .ref (ad 18))] 0 [] := by
  have h : ∃ n16 : Nat, wl_Runs_markBlocks_18_2 Q (fun v18 s17 => Q s17)  n16 0 s := h
  refine g_iconst C 0 d_RU_markBlocks_0 (by decide) ?_
  refine g_istore_n C (lv2 := [(0, .ref (ad 6)), (1, .ref (ad 18)), (2, .int 0)]) d_RU_markBlocks_1 rfl (by decide) rfl ?_
  obtain ⟨n16, h⟩ := h
  refine w_Runs_markBlocks_18_2 X ad Q (_)  E C hRm r ?_ n16 0 s h
  intro v18 s17 h
  exact g_vret r d_RU_markBlocks_60 (gBv_mk h)
theorem m_Runs_markBlocks_18 (X : gX) (ad : Nat → Nat) (s : gS) (Q : gS → Prop) (h : wp_Runs_markBlocks_18  s Q) (l : Launch) : gM l X y_RU_markBlocks b_RU_markBlocks 5 none rm_Runs_markBlocks_18 [.ref (ad 6), .ref (ad 18)] (wC ad X s) (gBv (wC ad X) Q) :=
  gM_of (by decide +kernel) rfl (Nat.le_of_ble_eq_true rfl) rfl (fun E C hRm r => w_Runs_markBlocks_18 X ad  s Q h E C hRm r)
end
section
def rm_BlockSet_has_18 : Room := { frames := 0, cells := 0, slots := 0, locals := 0 }
def wp_BlockSet_has_18 (a1 : Int32) (s : gS) (Q : Int32 → gS → Prop) : Prop := ((a1 < 0 → Q 0 s) ∧ (¬ a1 < 0 → ((200 ≤ a1 → Q 0 s) ∧ (¬ 200 ≤ a1 → vp_in a1 200 ∧ ((((s.2 11 a1.toNatClampNeg) = 0 → Q 0 s) ∧ (¬ (s.2 11 a1.toNatClampNeg) = 0 → Q 1 s)))))))
set_option maxHeartbeats 4000000 in
set_option maxRecDepth 100000 in
theorem w_BlockSet_has_18 (X : gX) (ad : Nat → Nat) (a1 : Int32) (s : gS) (Q : Int32 → gS → Prop) (h : wp_BlockSet_has_18 a1 s Q) (E : gE) (C : gC X E b_BS_has 2 R_BS) (hRm : gRm E = rm_BlockSet_has_18) (r : gR X E b_BS_has (some .boolean) (gBi (wC ad X) Q)) : gW X E 0 0 (wC ad X s) [(0, .ref (ad 18)), (1, .int a1)] 0 [] := by
  have h : ((a1 < 0 → Q 0 s) ∧ (¬ a1 < 0 → ((200 ≤ a1 → Q 0 s) ∧ (¬ 200 ≤ a1 → vp_in a1 200 ∧ ((((s.2 11 a1.toNatClampNeg) = 0 → Q 0 s) ∧ (¬ (s.2 11 a1.toNatClampNeg) = 0 → Q 1 s))))))) := h
  refine g_iload_n C d_BS_has_0 rfl 1 rfl ?_
  refine g_if_lt C 26 d_BS_has_1 (by decide) (fun c1 => ?_) (fun c1 => ?_)
  · have h := h.1 c1
    refine g_iconst C 0 d_BS_has_26 (by decide) ?_
    exact g_iret r rfl d_BS_has_27 (gBi_mk h)
  · have h := h.2 c1
    refine g_iload_n C d_BS_has_4 rfl 1 rfl ?_
    refine g_aload_n C d_BS_has_5 rfl 0 rfl ?_
    refine g_get C (v := .ref (ad 19)) 18 0 iw_BS rfl rfl (by decide) (gt 216 (by decide +kernel) rfl) rfl rfl d_BS_has_6 ?_
    refine g_alen C 19 1 200 rfl rfl rfl d_BS_has_9 ?_
    refine g_icmp_ge C 26 d_BS_has_10 (by decide) (fun c2 => ?_) (fun c2 => ?_)
    · have h := h.1 c2
      refine g_iconst C 0 d_BS_has_26 (by decide) ?_
      exact g_iret r rfl d_BS_has_27 (gBi_mk h)
    · have h := h.2 c2
      refine g_aload_n C d_BS_has_13 rfl 0 rfl ?_
      refine g_get C (v := .ref (ad 19)) 18 0 iw_BS rfl rfl (by decide) (gt 216 (by decide +kernel) rfl) rfl rfl d_BS_has_14 ?_
      refine g_iload_n C d_BS_has_17 rfl 1 rfl ?_
      obtain ⟨i3, h⟩ := h
      refine g_zald C 19 1 rfl rfl i3 d_BS_has_18 ?_
      refine g_if_eq C 26 d_BS_has_19 (by decide) (fun c4 => ?_) (fun c4 => ?_)
      · have h := h.1 c4
        refine g_iconst C 0 d_BS_has_26 (by decide) ?_
        exact g_iret r rfl d_BS_has_27 (gBi_mk h)
      · have h := h.2 c4
        refine g_iconst C 1 d_BS_has_22 (by decide) ?_
        refine g_goto C 27 d_BS_has_23 (by decide) ?_
        exact g_iret r rfl d_BS_has_27 (gBi_mk h)
theorem m_BlockSet_has_18 (X : gX) (ad : Nat → Nat) (a1 : Int32) (s : gS) (Q : Int32 → gS → Prop) (h : wp_BlockSet_has_18 a1 s Q) (l : Launch) : gM l X y_BS_has b_BS_has 2 (some .boolean) rm_BlockSet_has_18 [.ref (ad 18), .int a1] (wC ad X s) (gBi (wC ad X) Q) :=
  gM_of (by decide +kernel) rfl (Nat.le_of_ble_eq_true rfl) rfl (fun E C hRm r => w_BlockSet_has_18 X ad a1 s Q h E C hRm r)
def rm_SpillQueue_gatherFree : Room := { frames := 2, cells := 0, slots := 0, locals := 46 }
def wl_SpillQueue_gatherFree_26 (Q : Int32 → gS → Prop) (K : Int32 → Int32 → gS → Prop) : Nat → Int32 → Int32 → gS → Prop
  | 0, _, _, _ => False
  | n + 1, x1, x2, s => (((s.1 3) ≤ x2 → K x1 x2 s) ∧ (¬ (s.1 3) ≤ x2 → ((200 ≤ x1 → K x1 x2 s) ∧ (¬ 200 ≤ x1 → wp_BlockSet_has_18 x2 s (fun r8 s7 => ((¬ r8 = 0 → ∀ v10 : Int32, v10 = x2 + 1 → wl_SpillQueue_gatherFree_26 Q K n x1 v10 s7) ∧ (r8 = 0 → vp_in x1 200 ∧ (∀ v12 : Int32, v12 = x1 + 1 → ∀ v13 : Int32, v13 = x2 + 1 → wl_SpillQueue_gatherFree_26 Q K n v12 v13 (s7.1, ua s7.2 12 (upd (s7.2 12) x1.toNatClampNeg x2))))))))))
set_option maxHeartbeats 4000000 in
set_option maxRecDepth 100000 in
theorem w_SpillQueue_gatherFree_26 (X : gX) (ad : Nat → Nat) (Q : Int32 → gS → Prop) (K : Int32 → Int32 → gS → Prop) (E : gE) (C : gC X E b_SQ_gatherFree 3 R_SQ) (hRm : gRm E = rm_SpillQueue_gatherFree) (r : gR X E b_SQ_gatherFree (some .int) (gBi (wC ad X) Q)) (hK : ∀ (x1 : Int32) (x2 : Int32) (s : gS), K x1 x2 s → gW X E 0 0 (wC ad X s) [(0, .ref (ad 0)), (1, .int x1), (2, .int x2)] 73 []) : ∀ (n : Nat) (x1 : Int32) (x2 : Int32) (s : gS), wl_SpillQueue_gatherFree_26 Q K n x1 x2 s → gW X E 0 0 (wC ad X s) [(0, .ref (ad 0)), (1, .int x1), (2, .int x2)] 26 [] := by
  intro n
  induction n with
  | zero => intro x1 x2 s h; exact False.elim h
  | succ n ih =>
    intro x1 x2 s h
    have h : (((s.1 3) ≤ x2 → K x1 x2 s) ∧ (¬ (s.1 3) ≤ x2 → ((200 ≤ x1 → K x1 x2 s) ∧ (¬ 200 ≤ x1 → wp_BlockSet_has_18 x2 s (fun r8 s7 => ((¬ r8 = 0 → ∀ v10 : Int32, v10 = x2 + 1 → wl_SpillQueue_gatherFree_26 Q K n x1 v10 s7) ∧ (r8 = 0 → vp_in x1 200 ∧ (∀ v12 : Int32, v12 = x1 + 1 → ∀ v13 : Int32, v13 = x2 + 1 → wl_SpillQueue_gatherFree_26 Q K n v12 v13 (s7.1, ua s7.2 12 (upd (s7.2 12) x1.toNatClampNeg x2)))))))))) := h
    refine g_iload_n C d_SQ_gatherFree_26 rfl 2 rfl ?_
    refine g_aload_n C d_SQ_gatherFree_27 rfl 0 rfl ?_
    refine g_get C (v := .ref (ad 1)) 0 0 iw_SQ rfl rfl (by decide) (gt 229 (by decide +kernel) rfl) rfl rfl d_SQ_gatherFree_28 ?_
    refine g_getN (host := "SpillQueue") C (v := .int (s.1 3)) 1 2 iw_DK rfl rfl (by decide) (gn 122 (by decide +kernel) rfl) rfl rfl d_SQ_gatherFree_31 ?_
    refine g_icmp_ge C 73 d_SQ_gatherFree_34 (by decide) (fun c5 => ?_) (fun c5 => ?_)
    · have h := h.1 c5
      exact hK x1 x2 s h
    · have h := h.2 c5
      refine g_iload_n C d_SQ_gatherFree_37 rfl 1 rfl ?_
      refine g_aload_n C d_SQ_gatherFree_38 rfl 0 rfl ?_
      refine g_get C (v := .ref (ad 20)) 0 6 iw_SQ rfl rfl (by decide) (gt 235 (by decide +kernel) rfl) rfl rfl d_SQ_gatherFree_39 ?_
      refine g_alen C 20 0 200 rfl rfl rfl d_SQ_gatherFree_42 ?_
      refine g_icmp_ge C 73 d_SQ_gatherFree_43 (by decide) (fun c6 => ?_) (fun c6 => ?_)
      · have h := h.1 c6
        exact hK x1 x2 s h
      · have h := h.2 c6
        refine g_aload_n C d_SQ_gatherFree_46 rfl 0 rfl ?_
        refine g_get C (v := .ref (ad 18)) 0 5 iw_SQ rfl rfl (by decide) (gt 234 (by decide +kernel) rfl) rfl rfl d_SQ_gatherFree_47 ?_
        refine g_iload_n C d_SQ_gatherFree_50 rfl 2 rfl ?_
        refine g_callVN (host := "SpillQueue") C (rest := []) 18 (fun l => m_BlockSet_has_18 X ad x2 s _ h l) rfl rfl (gn 496 (by decide +kernel) rfl) cb_BS_has ⟨rfl, rfl⟩ (by rw [hRm]; decide) ⟨Nat.zero_le _, Nat.zero_le _⟩ rfl rfl (Nat.le_of_ble_eq_true rfl) d_SQ_gatherFree_51 (gki (fun r8 s7 h => ?_))
        refine g_if_ne C 67 d_SQ_gatherFree_54 (by decide) (fun c9 => ?_) (fun c9 => ?_)
        · have h := h.1 c9
          obtain ⟨v10, e_v10⟩ : ∃ y : Int32, y = x2 + 1 := ⟨_, rfl⟩
          have h := h v10 e_v10
          refine g_iinc C (v := v10) (lv2 := [(0, .ref (ad 0)), (1, .int x1), (2, .int v10)]) d_SQ_gatherFree_67 2 rfl (by rw [e_v10]; rfl) (by decide) rfl ?_
          refine g_goto C 26 d_SQ_gatherFree_70 (by decide) ?_
          exact ih x1 v10 s7 h
        · have h := h.2 c9
          refine g_aload_n C d_SQ_gatherFree_57 rfl 0 rfl ?_
          refine g_get C (v := .ref (ad 20)) 0 6 iw_SQ rfl rfl (by decide) (gt 235 (by decide +kernel) rfl) rfl rfl d_SQ_gatherFree_58 ?_
          refine g_iload_n C d_SQ_gatherFree_61 rfl 1 rfl ?_
          refine g_iload_n C d_SQ_gatherFree_62 rfl 2 rfl ?_
          obtain ⟨i11, h⟩ := h
          refine g_iast C 20 0 (ws2 := wC ad X (s7.1, ua s7.2 12 (upd (s7.2 12) x1.toNatClampNeg x2))) rfl rfl i11 rfl d_SQ_gatherFree_63 ?_
          obtain ⟨v12, e_v12⟩ : ∃ y : Int32, y = x1 + 1 := ⟨_, rfl⟩
          have h := h v12 e_v12
          refine g_iinc C (v := v12) (lv2 := [(0, .ref (ad 0)), (1, .int v12), (2, .int x2)]) d_SQ_gatherFree_64 1 rfl (by rw [e_v12]; rfl) (by decide) rfl ?_
          obtain ⟨v13, e_v13⟩ : ∃ y : Int32, y = x2 + 1 := ⟨_, rfl⟩
          have h := h v13 e_v13
          refine g_iinc C (v := v13) (lv2 := [(0, .ref (ad 0)), (1, .int v12), (2, .int v13)]) d_SQ_gatherFree_67 2 rfl (by rw [e_v13]; rfl) (by decide) rfl ?_
          refine g_goto C 26 d_SQ_gatherFree_70 (by decide) ?_
          exact ih v12 v13 (s7.1, ua s7.2 12 (upd (s7.2 12) x1.toNatClampNeg x2)) h
def wp_SpillQueue_gatherFree (s : gS) (Q : Int32 → gS → Prop) : Prop := wp_BlockSet_copyOf_18_16 s (fun s1 => wp_Runs_markBlocks_18 s1 (fun s3 => ∃ n14 : Nat, wl_SpillQueue_gatherFree_26 Q (fun v16 v17 s15 => Q v16 s15)  n14 0 2 s3))
set_option maxHeartbeats 4000000 in
set_option maxRecDepth 100000 in
theorem w_SpillQueue_gatherFree (X : gX) (ad : Nat → Nat) (s : gS) (Q : Int32 → gS → Prop) (h : wp_SpillQueue_gatherFree  s Q) (E : gE) (C : gC X E b_SQ_gatherFree 3 R_SQ) (hRm : gRm E = rm_SpillQueue_gatherFree) (r : gR X E b_SQ_gatherFree (some .int) (gBi (wC ad X) Q)) : gW X E 0 0 (wC ad X s) [(0, .ref (ad 0))] 0 [] := by
  have h : wp_BlockSet_copyOf_18_16 s (fun s1 => wp_Runs_markBlocks_18 s1 (fun s3 => ∃ n14 : Nat, wl_SpillQueue_gatherFree_26 Q (fun v16 v17 s15 => Q v16 s15)  n14 0 2 s3)) := h
  refine g_aload_n C d_SQ_gatherFree_0 rfl 0 rfl ?_
  refine g_get C (v := .ref (ad 18)) 0 5 iw_SQ rfl rfl (by decide) (gt 234 (by decide +kernel) rfl) rfl rfl d_SQ_gatherFree_1 ?_
  refine g_aload_n C d_SQ_gatherFree_4 rfl 0 rfl ?_
  refine g_get C (v := .ref (ad 16)) 0 4 iw_SQ rfl rfl (by decide) (gt 233 (by decide +kernel) rfl) rfl rfl d_SQ_gatherFree_5 ?_
  refine g_callVN (host := "SpillQueue") C (rest := []) 18 (fun l => m_BlockSet_copyOf_18_16 X ad  s _ h l) rfl rfl (gn 488 (by decide +kernel) rfl) cb_BS_copyOf ⟨rfl, rfl⟩ (by rw [hRm]; decide) ⟨Nat.zero_le _, Nat.zero_le _⟩ rfl rfl (Nat.le_of_ble_eq_true rfl) d_SQ_gatherFree_8 (gkv (fun s1 h => ?_))
  refine g_aload_n C d_SQ_gatherFree_11 rfl 0 rfl ?_
  refine g_get C (v := .ref (ad 6)) 0 2 iw_SQ rfl rfl (by decide) (gt 231 (by decide +kernel) rfl) rfl rfl d_SQ_gatherFree_12 ?_
  refine g_aload_n C d_SQ_gatherFree_15 rfl 0 rfl ?_
  refine g_get C (v := .ref (ad 18)) 0 5 iw_SQ rfl rfl (by decide) (gt 234 (by decide +kernel) rfl) rfl rfl d_SQ_gatherFree_16 ?_
  refine g_callVN (host := "SpillQueue") C (rest := []) 6 (fun l => m_Runs_markBlocks_18 X ad  s1 _ h l) rfl rfl (gn 401 (by decide +kernel) rfl) cb_RU_markBlocks ⟨rfl, rfl⟩ (by rw [hRm]; decide) ⟨Nat.zero_le _, Nat.zero_le _⟩ rfl rfl (Nat.le_of_ble_eq_true rfl) d_SQ_gatherFree_19 (gkv (fun s3 h => ?_))
  refine g_iconst C 0 d_SQ_gatherFree_22 (by decide) ?_
  refine g_istore_n C (lv2 := [(0, .ref (ad 0)), (1, .int 0)]) d_SQ_gatherFree_23 rfl (by decide) rfl ?_
  refine g_iconst C 2 d_SQ_gatherFree_24 (by decide) ?_
  refine g_istore_n C (lv2 := [(0, .ref (ad 0)), (1, .int 0), (2, .int 2)]) d_SQ_gatherFree_25 rfl (by decide) rfl ?_
  obtain ⟨n14, h⟩ := h
  refine w_SpillQueue_gatherFree_26 X ad Q (_)  E C hRm r ?_ n14 0 2 s3 h
  intro v16 v17 s15 h
  refine g_iload_n C d_SQ_gatherFree_73 rfl 1 rfl ?_
  exact g_iret r rfl d_SQ_gatherFree_74 (gBi_mk h)
theorem m_SpillQueue_gatherFree (X : gX) (ad : Nat → Nat) (s : gS) (Q : Int32 → gS → Prop) (h : wp_SpillQueue_gatherFree  s Q) (l : Launch) : gM l X y_SQ_gatherFree b_SQ_gatherFree 3 (some .int) rm_SpillQueue_gatherFree [.ref (ad 0)] (wC ad X s) (gBi (wC ad X) Q) :=
  gM_of (by decide +kernel) rfl (Nat.le_of_ble_eq_true rfl) rfl (fun E C hRm r => w_SpillQueue_gatherFree X ad  s Q h E C hRm r)
def rm_Memory_least : Room := { frames := 0, cells := 0, slots := 0, locals := 0 }
def wp_Memory_least (s : gS) (Q : Int32 → gS → Prop) : Prop := (((s.1 7) ≤ 0 → Q (-1) s) ∧ (¬ (s.1 7) ≤ 0 → vp_in ((s.1 7) - 1) 100 ∧ (Q (s.2 2 ((s.1 7) - 1).toNatClampNeg) s)))
set_option maxHeartbeats 4000000 in
set_option maxRecDepth 100000 in
theorem w_Memory_least (X : gX) (ad : Nat → Nat) (s : gS) (Q : Int32 → gS → Prop) (h : wp_Memory_least  s Q) (E : gE) (C : gC X E b_ME_least 1 R_ME) (hRm : gRm E = rm_Memory_least) (r : gR X E b_ME_least (some .int) (gBi (wC ad X) Q)) : gW X E 0 0 (wC ad X s) [(0, .ref (ad 4))] 0 [] := by
  have h : (((s.1 7) ≤ 0 → Q (-1) s) ∧ (¬ (s.1 7) ≤ 0 → vp_in ((s.1 7) - 1) 100 ∧ (Q (s.2 2 ((s.1 7) - 1).toNatClampNeg) s))) := h
  refine g_aload_n C d_ME_least_0 rfl 0 rfl ?_
  refine g_get C (v := .int (s.1 7)) 4 1 iw_ME rfl rfl (by decide) (gt 152 (by decide +kernel) rfl) rfl rfl d_ME_least_1 ?_
  refine g_if_le C 21 d_ME_least_4 (by decide) (fun c1 => ?_) (fun c1 => ?_)
  · have h := h.1 c1
    refine g_iconst C (-1) d_ME_least_21 (by decide) ?_
    exact g_iret r rfl d_ME_least_22 (gBi_mk h)
  · have h := h.2 c1
    refine g_aload_n C d_ME_least_7 rfl 0 rfl ?_
    refine g_get C (v := .ref (ad 5)) 4 0 iw_ME rfl rfl (by decide) (gt 151 (by decide +kernel) rfl) rfl rfl d_ME_least_8 ?_
    refine g_aload_n C d_ME_least_11 rfl 0 rfl ?_
    refine g_get C (v := .int (s.1 7)) 4 1 iw_ME rfl rfl (by decide) (gt 152 (by decide +kernel) rfl) rfl rfl d_ME_least_12 ?_
    refine g_iconst C 1 d_ME_least_15 (by decide) ?_
    refine g_isub C d_ME_least_16 ?_
    obtain ⟨i2, h⟩ := h
    refine g_iald C 5 0 rfl rfl i2 d_ME_least_17 ?_
    refine g_goto C 22 d_ME_least_18 (by decide) ?_
    exact g_iret r rfl d_ME_least_22 (gBi_mk h)
theorem m_Memory_least (X : gX) (ad : Nat → Nat) (s : gS) (Q : Int32 → gS → Prop) (h : wp_Memory_least  s Q) (l : Launch) : gM l X y_ME_least b_ME_least 1 (some .int) rm_Memory_least [.ref (ad 4)] (wC ad X s) (gBi (wC ad X) Q) :=
  gM_of (by decide +kernel) rfl (Nat.le_of_ble_eq_true rfl) rfl (fun E C hRm r => w_Memory_least X ad  s Q h E C hRm r)
def rm_Memory_takeLeast : Room := { frames := 1, cells := 0, slots := 0, locals := 20 }
def wp_Memory_takeLeast (s : gS) (Q : Int32 → gS → Prop) : Prop := wp_Memory_least s (fun r2 s1 => (((s1.1 7) ≤ 0 → Q r2 s1) ∧ (¬ (s1.1 7) ≤ 0 → ∀ v4 : Int32, v4 = (s1.1 7) - 1 → Q r2 (up s1.1 7 (v4), s1.2))))
set_option maxHeartbeats 4000000 in
set_option maxRecDepth 100000 in
theorem w_Memory_takeLeast (X : gX) (ad : Nat → Nat) (s : gS) (Q : Int32 → gS → Prop) (h : wp_Memory_takeLeast  s Q) (E : gE) (C : gC X E b_ME_takeLeast 2 R_ME) (hRm : gRm E = rm_Memory_takeLeast) (r : gR X E b_ME_takeLeast (some .int) (gBi (wC ad X) Q)) : gW X E 0 0 (wC ad X s) [(0, .ref (ad 4))] 0 [] := by
  have h : wp_Memory_least s (fun r2 s1 => (((s1.1 7) ≤ 0 → Q r2 s1) ∧ (¬ (s1.1 7) ≤ 0 → ∀ v4 : Int32, v4 = (s1.1 7) - 1 → Q r2 (up s1.1 7 (v4), s1.2)))) := h
  refine g_aload_n C d_ME_takeLeast_0 rfl 0 rfl ?_
  refine g_callV C (rest := []) 4 (fun l => m_Memory_least X ad  s _ h l) rfl rfl (gt 509 (by decide +kernel) rfl) cb_ME_least ⟨rfl, rfl⟩ (by rw [hRm]; decide) ⟨Nat.zero_le _, Nat.zero_le _⟩ rfl rfl (Nat.le_of_ble_eq_true rfl) d_ME_takeLeast_1 (gki (fun r2 s1 h => ?_))
  refine g_istore_n C (lv2 := [(0, .ref (ad 4)), (1, .int r2)]) d_ME_takeLeast_4 rfl (by decide) rfl ?_
  refine g_aload_n C d_ME_takeLeast_5 rfl 0 rfl ?_
  refine g_get C (v := .int (s1.1 7)) 4 1 iw_ME rfl rfl (by decide) (gt 152 (by decide +kernel) rfl) rfl rfl d_ME_takeLeast_6 ?_
  refine g_if_le C 22 d_ME_takeLeast_9 (by decide) (fun c3 => ?_) (fun c3 => ?_)
  · have h := h.1 c3
    refine g_iload_n C d_ME_takeLeast_22 rfl 1 rfl ?_
    exact g_iret r rfl d_ME_takeLeast_23 (gBi_mk h)
  · have h := h.2 c3
    refine g_aload_n C d_ME_takeLeast_12 rfl 0 rfl ?_
    refine g_dup C rfl d_ME_takeLeast_13 ?_
    refine g_get C (v := .int (s1.1 7)) 4 1 iw_ME rfl rfl (by decide) (gt 152 (by decide +kernel) rfl) rfl rfl d_ME_takeLeast_14 ?_
    refine g_iconst C 1 d_ME_takeLeast_17 (by decide) ?_
    refine g_isub C d_ME_takeLeast_18 ?_
    refine g_topi (fun v4 e_v4 => ?_)
    have h := h v4 e_v4
    refine g_put C (ws2 := wC ad X (up s1.1 7 (v4), s1.2)) 4 1 iw_ME ty_ME tyok_ME nm_ME rfl rfl (by decide) (gt 152 (by decide +kernel) rfl) rfl rfl rfl rfl (Nat.le_of_ble_eq_true rfl) rfl d_ME_takeLeast_19 ?_
    refine g_iload_n C d_ME_takeLeast_22 rfl 1 rfl ?_
    exact g_iret r rfl d_ME_takeLeast_23 (gBi_mk h)
theorem m_Memory_takeLeast (X : gX) (ad : Nat → Nat) (s : gS) (Q : Int32 → gS → Prop) (h : wp_Memory_takeLeast  s Q) (l : Launch) : gM l X y_ME_takeLeast b_ME_takeLeast 2 (some .int) rm_Memory_takeLeast [.ref (ad 4)] (wC ad X s) (gBi (wC ad X) Q) :=
  gM_of (by decide +kernel) rfl (Nat.le_of_ble_eq_true rfl) rfl (fun E C hRm r => w_Memory_takeLeast X ad  s Q h E C hRm r)
def rm_Runs_dropEmpty : Room := { frames := 0, cells := 0, slots := 0, locals := 0 }
def wl_Runs_dropEmpty_4 (Q : gS → Prop) (K : Int32 → Int32 → gS → Prop) : Nat → Int32 → Int32 → gS → Prop
  | 0, _, _, _ => False
  | n + 1, x1, x2, s => (((s.1 9) ≤ x2 → K x1 x2 s) ∧ (¬ (s.1 9) ≤ x2 → vp_in x2 9 ∧ ((((s.2 5 x2.toNatClampNeg) ≤ 0 → ∀ v4 : Int32, v4 = x2 + 1 → wl_Runs_dropEmpty_4 Q K n x1 v4 s) ∧ (¬ (s.2 5 x2.toNatClampNeg) ≤ 0 → vp_in x2 9 ∧ (∀ v6 : Int32, v6 = s.2 3 x2.toNatClampNeg → vp_in x1 9 ∧ (vp_in x2 9 ∧ (∀ v9 : Int32, v9 = s.2 4 x2.toNatClampNeg → vp_in x1 9 ∧ (vp_in x2 9 ∧ (∀ v12 : Int32, v12 = s.2 5 x2.toNatClampNeg → vp_in x1 9 ∧ (vp_in x2 9 ∧ (∀ v15 : Int32, v15 = s.2 6 x2.toNatClampNeg → vp_in x1 9 ∧ (vp_in x2 9 ∧ (∀ v18 : Int32, v18 = s.2 7 x2.toNatClampNeg → vp_in x1 9 ∧ (∀ v20 : Int32, v20 = x1 + 1 → ∀ v21 : Int32, v21 = x2 + 1 → wl_Runs_dropEmpty_4 Q K n v20 v21 (s.1, ua (ua (ua (ua (ua s.2 3 (upd (s.2 3) x1.toNatClampNeg v6)) 4 (upd (s.2 4) x1.toNatClampNeg v9)) 5 (upd (s.2 5) x1.toNatClampNeg v12)) 6 (upd (s.2 6) x1.toNatClampNeg v15)) 7 (upd (s.2 7) x1.toNatClampNeg v18)))))))))))))))))
set_option maxHeartbeats 4000000 in
set_option maxRecDepth 100000 in
theorem w_Runs_dropEmpty_4 (X : gX) (ad : Nat → Nat) (Q : gS → Prop) (K : Int32 → Int32 → gS → Prop) (E : gE) (C : gC X E b_RU_dropEmpty 3 R_RU) (hRm : gRm E = rm_Runs_dropEmpty) (r : gR X E b_RU_dropEmpty none (gBv (wC ad X) Q)) (hK : ∀ (x1 : Int32) (x2 : Int32) (s : gS), K x1 x2 s → gW X E 0 0 (wC ad X s) [(0, .ref (ad 6)), (1, .int x1), (2, .int x2)] 90 []) : ∀ (n : Nat) (x1 : Int32) (x2 : Int32) (s : gS), wl_Runs_dropEmpty_4 Q K n x1 x2 s → gW X E 0 0 (wC ad X s) [(0, .ref (ad 6)), (1, .int x1), (2, .int x2)] 4 [] := by
  intro n
  induction n with
  | zero => intro x1 x2 s h; exact False.elim h
  | succ n ih =>
    intro x1 x2 s h
    have h : (((s.1 9) ≤ x2 → K x1 x2 s) ∧ (¬ (s.1 9) ≤ x2 → vp_in x2 9 ∧ ((((s.2 5 x2.toNatClampNeg) ≤ 0 → ∀ v4 : Int32, v4 = x2 + 1 → wl_Runs_dropEmpty_4 Q K n x1 v4 s) ∧ (¬ (s.2 5 x2.toNatClampNeg) ≤ 0 → vp_in x2 9 ∧ (∀ v6 : Int32, v6 = s.2 3 x2.toNatClampNeg → vp_in x1 9 ∧ (vp_in x2 9 ∧ (∀ v9 : Int32, v9 = s.2 4 x2.toNatClampNeg → vp_in x1 9 ∧ (vp_in x2 9 ∧ (∀ v12 : Int32, v12 = s.2 5 x2.toNatClampNeg → vp_in x1 9 ∧ (vp_in x2 9 ∧ (∀ v15 : Int32, v15 = s.2 6 x2.toNatClampNeg → vp_in x1 9 ∧ (vp_in x2 9 ∧ (∀ v18 : Int32, v18 = s.2 7 x2.toNatClampNeg → vp_in x1 9 ∧ (∀ v20 : Int32, v20 = x1 + 1 → ∀ v21 : Int32, v21 = x2 + 1 → wl_Runs_dropEmpty_4 Q K n v20 v21 (s.1, ua (ua (ua (ua (ua s.2 3 (upd (s.2 3) x1.toNatClampNeg v6)) 4 (upd (s.2 4) x1.toNatClampNeg v9)) 5 (upd (s.2 5) x1.toNatClampNeg v12)) 6 (upd (s.2 6) x1.toNatClampNeg v15)) 7 (upd (s.2 7) x1.toNatClampNeg v18))))))))))))))))) := h
    refine g_iload_n C d_RU_dropEmpty_4 rfl 2 rfl ?_
    refine g_aload_n C d_RU_dropEmpty_5 rfl 0 rfl ?_
    refine g_get C (v := .int (s.1 9)) 6 7 iw_RU rfl rfl (by decide) (gt 183 (by decide +kernel) rfl) rfl rfl d_RU_dropEmpty_6 ?_
    refine g_icmp_ge C 90 d_RU_dropEmpty_9 (by decide) (fun c1 => ?_) (fun c1 => ?_)
    · have h := h.1 c1
      exact hK x1 x2 s h
    · have h := h.2 c1
      refine g_aload_n C d_RU_dropEmpty_12 rfl 0 rfl ?_
      refine g_get C (v := .ref (ad 9)) 6 3 iw_RU rfl rfl (by decide) (gt 175 (by decide +kernel) rfl) rfl rfl d_RU_dropEmpty_13 ?_
      refine g_iload_n C d_RU_dropEmpty_16 rfl 2 rfl ?_
      obtain ⟨i2, h⟩ := h
      refine g_iald C 9 0 rfl rfl i2 d_RU_dropEmpty_17 ?_
      refine g_if_le C 84 d_RU_dropEmpty_18 (by decide) (fun c3 => ?_) (fun c3 => ?_)
      · have h := h.1 c3
        obtain ⟨v4, e_v4⟩ : ∃ y : Int32, y = x2 + 1 := ⟨_, rfl⟩
        have h := h v4 e_v4
        refine g_iinc C (v := v4) (lv2 := [(0, .ref (ad 6)), (1, .int x1), (2, .int v4)]) d_RU_dropEmpty_84 2 rfl (by rw [e_v4]; rfl) (by decide) rfl ?_
        refine g_goto C 4 d_RU_dropEmpty_87 (by decide) ?_
        exact ih x1 v4 s h
      · have h := h.2 c3
        refine g_aload_n C d_RU_dropEmpty_21 rfl 0 rfl ?_
        refine g_get C (v := .ref (ad 7)) 6 1 iw_RU rfl rfl (by decide) (gt 169 (by decide +kernel) rfl) rfl rfl d_RU_dropEmpty_22 ?_
        refine g_iload_n C d_RU_dropEmpty_25 rfl 1 rfl ?_
        refine g_aload_n C d_RU_dropEmpty_26 rfl 0 rfl ?_
        refine g_get C (v := .ref (ad 7)) 6 1 iw_RU rfl rfl (by decide) (gt 169 (by decide +kernel) rfl) rfl rfl d_RU_dropEmpty_27 ?_
        refine g_iload_n C d_RU_dropEmpty_30 rfl 2 rfl ?_
        obtain ⟨i5, h⟩ := h
        refine g_iald C 7 0 rfl rfl i5 d_RU_dropEmpty_31 ?_
        refine g_topi (fun v6 e_v6 => ?_)
        have h := h v6 e_v6
        obtain ⟨i7, h⟩ := h
        refine g_iast C 7 0 (ws2 := wC ad X (s.1, ua s.2 3 (upd (s.2 3) x1.toNatClampNeg v6))) rfl rfl i7 rfl d_RU_dropEmpty_32 ?_
        refine g_aload_n C d_RU_dropEmpty_33 rfl 0 rfl ?_
        refine g_get C (v := .ref (ad 8)) 6 2 iw_RU rfl rfl (by decide) (gt 172 (by decide +kernel) rfl) rfl rfl d_RU_dropEmpty_34 ?_
        refine g_iload_n C d_RU_dropEmpty_37 rfl 1 rfl ?_
        refine g_aload_n C d_RU_dropEmpty_38 rfl 0 rfl ?_
        refine g_get C (v := .ref (ad 8)) 6 2 iw_RU rfl rfl (by decide) (gt 172 (by decide +kernel) rfl) rfl rfl d_RU_dropEmpty_39 ?_
        refine g_iload_n C d_RU_dropEmpty_42 rfl 2 rfl ?_
        obtain ⟨i8, h⟩ := h
        refine g_iald C 8 0 rfl rfl i8 d_RU_dropEmpty_43 ?_
        refine g_topi (fun v9 e_v9 => ?_)
        have h := h v9 e_v9
        obtain ⟨i10, h⟩ := h
        refine g_iast C 8 0 (ws2 := wC ad X (s.1, ua (ua s.2 3 (upd (s.2 3) x1.toNatClampNeg v6)) 4 (upd (s.2 4) x1.toNatClampNeg v9))) rfl rfl i10 rfl d_RU_dropEmpty_44 ?_
        refine g_aload_n C d_RU_dropEmpty_45 rfl 0 rfl ?_
        refine g_get C (v := .ref (ad 9)) 6 3 iw_RU rfl rfl (by decide) (gt 175 (by decide +kernel) rfl) rfl rfl d_RU_dropEmpty_46 ?_
        refine g_iload_n C d_RU_dropEmpty_49 rfl 1 rfl ?_
        refine g_aload_n C d_RU_dropEmpty_50 rfl 0 rfl ?_
        refine g_get C (v := .ref (ad 9)) 6 3 iw_RU rfl rfl (by decide) (gt 175 (by decide +kernel) rfl) rfl rfl d_RU_dropEmpty_51 ?_
        refine g_iload_n C d_RU_dropEmpty_54 rfl 2 rfl ?_
        obtain ⟨i11, h⟩ := h
        refine g_iald C 9 0 rfl rfl i11 d_RU_dropEmpty_55 ?_
        refine g_topi (fun v12 e_v12 => ?_)
        have h := h v12 e_v12
        obtain ⟨i13, h⟩ := h
        refine g_iast C 9 0 (ws2 := wC ad X (s.1, ua (ua (ua s.2 3 (upd (s.2 3) x1.toNatClampNeg v6)) 4 (upd (s.2 4) x1.toNatClampNeg v9)) 5 (upd (s.2 5) x1.toNatClampNeg v12))) rfl rfl i13 rfl d_RU_dropEmpty_56 ?_
        refine g_aload_n C d_RU_dropEmpty_57 rfl 0 rfl ?_
        refine g_get C (v := .ref (ad 10)) 6 4 iw_RU rfl rfl (by decide) (gt 178 (by decide +kernel) rfl) rfl rfl d_RU_dropEmpty_58 ?_
        refine g_iload_n C d_RU_dropEmpty_61 rfl 1 rfl ?_
        refine g_aload_n C d_RU_dropEmpty_62 rfl 0 rfl ?_
        refine g_get C (v := .ref (ad 10)) 6 4 iw_RU rfl rfl (by decide) (gt 178 (by decide +kernel) rfl) rfl rfl d_RU_dropEmpty_63 ?_
        refine g_iload_n C d_RU_dropEmpty_66 rfl 2 rfl ?_
        obtain ⟨i14, h⟩ := h
        refine g_iald C 10 0 rfl rfl i14 d_RU_dropEmpty_67 ?_
        refine g_topi (fun v15 e_v15 => ?_)
        have h := h v15 e_v15
        obtain ⟨i16, h⟩ := h
        refine g_iast C 10 0 (ws2 := wC ad X (s.1, ua (ua (ua (ua s.2 3 (upd (s.2 3) x1.toNatClampNeg v6)) 4 (upd (s.2 4) x1.toNatClampNeg v9)) 5 (upd (s.2 5) x1.toNatClampNeg v12)) 6 (upd (s.2 6) x1.toNatClampNeg v15))) rfl rfl i16 rfl d_RU_dropEmpty_68 ?_
        refine g_aload_n C d_RU_dropEmpty_69 rfl 0 rfl ?_
        refine g_get C (v := .ref (ad 11)) 6 5 iw_RU rfl rfl (by decide) (gt 181 (by decide +kernel) rfl) rfl rfl d_RU_dropEmpty_70 ?_
        refine g_iload_n C d_RU_dropEmpty_73 rfl 1 rfl ?_
        refine g_aload_n C d_RU_dropEmpty_74 rfl 0 rfl ?_
        refine g_get C (v := .ref (ad 11)) 6 5 iw_RU rfl rfl (by decide) (gt 181 (by decide +kernel) rfl) rfl rfl d_RU_dropEmpty_75 ?_
        refine g_iload_n C d_RU_dropEmpty_78 rfl 2 rfl ?_
        obtain ⟨i17, h⟩ := h
        refine g_iald C 11 0 rfl rfl i17 d_RU_dropEmpty_79 ?_
        refine g_topi (fun v18 e_v18 => ?_)
        have h := h v18 e_v18
        obtain ⟨i19, h⟩ := h
        refine g_iast C 11 0 (ws2 := wC ad X (s.1, ua (ua (ua (ua (ua s.2 3 (upd (s.2 3) x1.toNatClampNeg v6)) 4 (upd (s.2 4) x1.toNatClampNeg v9)) 5 (upd (s.2 5) x1.toNatClampNeg v12)) 6 (upd (s.2 6) x1.toNatClampNeg v15)) 7 (upd (s.2 7) x1.toNatClampNeg v18))) rfl rfl i19 rfl d_RU_dropEmpty_80 ?_
        obtain ⟨v20, e_v20⟩ : ∃ y : Int32, y = x1 + 1 := ⟨_, rfl⟩
        have h := h v20 e_v20
        refine g_iinc C (v := v20) (lv2 := [(0, .ref (ad 6)), (1, .int v20), (2, .int x2)]) d_RU_dropEmpty_81 1 rfl (by rw [e_v20]; rfl) (by decide) rfl ?_
        obtain ⟨v21, e_v21⟩ : ∃ y : Int32, y = x2 + 1 := ⟨_, rfl⟩
        have h := h v21 e_v21
        refine g_iinc C (v := v21) (lv2 := [(0, .ref (ad 6)), (1, .int v20), (2, .int v21)]) d_RU_dropEmpty_84 2 rfl (by rw [e_v21]; rfl) (by decide) rfl ?_
        refine g_goto C 4 d_RU_dropEmpty_87 (by decide) ?_
        exact ih v20 v21 (s.1, ua (ua (ua (ua (ua s.2 3 (upd (s.2 3) x1.toNatClampNeg v6)) 4 (upd (s.2 4) x1.toNatClampNeg v9)) 5 (upd (s.2 5) x1.toNatClampNeg v12)) 6 (upd (s.2 6) x1.toNatClampNeg v15)) 7 (upd (s.2 7) x1.toNatClampNeg v18)) h
def wp_Runs_dropEmpty (s : gS) (Q : gS → Prop) : Prop := ∃ n22 : Nat, wl_Runs_dropEmpty_4 Q (fun v24 v25 s23 => Q (up s23.1 9 (v24), s23.2))  n22 0 0 s
set_option maxHeartbeats 4000000 in
set_option maxRecDepth 100000 in
theorem w_Runs_dropEmpty (X : gX) (ad : Nat → Nat) (s : gS) (Q : gS → Prop) (h : wp_Runs_dropEmpty  s Q) (E : gE) (C : gC X E b_RU_dropEmpty 3 R_RU) (hRm : gRm E = rm_Runs_dropEmpty) (r : gR X E b_RU_dropEmpty none (gBv (wC ad X) Q)) : gW X E 0 0 (wC ad X s) [(0, .ref (ad 6))] 0 [] := by
  have h : ∃ n22 : Nat, wl_Runs_dropEmpty_4 Q (fun v24 v25 s23 => Q (up s23.1 9 (v24), s23.2))  n22 0 0 s := h
  refine g_iconst C 0 d_RU_dropEmpty_0 (by decide) ?_
  refine g_istore_n C (lv2 := [(0, .ref (ad 6)), (1, .int 0)]) d_RU_dropEmpty_1 rfl (by decide) rfl ?_
  refine g_iconst C 0 d_RU_dropEmpty_2 (by decide) ?_
  refine g_istore_n C (lv2 := [(0, .ref (ad 6)), (1, .int 0), (2, .int 0)]) d_RU_dropEmpty_3 rfl (by decide) rfl ?_
  obtain ⟨n22, h⟩ := h
  refine w_Runs_dropEmpty_4 X ad Q (_)  E C hRm r ?_ n22 0 0 s h
  intro v24 v25 s23 h
  refine g_aload_n C d_RU_dropEmpty_90 rfl 0 rfl ?_
  refine g_iload_n C d_RU_dropEmpty_91 rfl 1 rfl ?_
  refine g_put C (ws2 := wC ad X (up s23.1 9 (v24), s23.2)) 6 7 iw_RU ty_RU tyok_RU nm_RU rfl rfl (by decide) (gt 183 (by decide +kernel) rfl) rfl rfl rfl rfl (Nat.le_of_ble_eq_true rfl) rfl d_RU_dropEmpty_92 ?_
  exact g_vret r d_RU_dropEmpty_95 (gBv_mk h)
theorem m_Runs_dropEmpty (X : gX) (ad : Nat → Nat) (s : gS) (Q : gS → Prop) (h : wp_Runs_dropEmpty  s Q) (l : Launch) : gM l X y_RU_dropEmpty b_RU_dropEmpty 3 none rm_Runs_dropEmpty [.ref (ad 6)] (wC ad X s) (gBv (wC ad X) Q) :=
  gM_of (by decide +kernel) rfl (Nat.le_of_ble_eq_true rfl) rfl (fun E C hRm r => w_Runs_dropEmpty X ad  s Q h E C hRm r)
def rm_Runs_add : Room := { frames := 1, cells := 0, slots := 0, locals := 22 }
def wp_Runs_add (a1 : Int32) (a2 : Int32) (a3 : Int32) (a4 : Int32) (s : gS) (Q : gS → Prop) : Prop := (((s.1 9) < 9 → vp_in (s.1 9) 9 ∧ (vp_in (s.1 9) 9 ∧ (vp_in (s.1 9) 9 ∧ (vp_in (s.1 9) 9 ∧ (wp_Disk_get a1 (2 + a2) (s.1, ua (ua (ua (ua s.2 3 (upd (s.2 3) (s.1 9).toNatClampNeg a1)) 4 (upd (s.2 4) (s.1 9).toNatClampNeg a2)) 5 (upd (s.2 5) (s.1 9).toNatClampNeg a3)) 6 (upd (s.2 6) (s.1 9).toNatClampNeg a4)) (fun r7 s6 => vp_in (s.1 9) 9 ∧ (∀ v9 : Int32, v9 = (s6.1 9) + 1 → Q (up s6.1 9 (v9), ua s6.2 7 (upd (s6.2 7) (s.1 9).toNatClampNeg r7))))))))) ∧ (¬ (s.1 9) < 9 → Q s))
set_option maxHeartbeats 4000000 in
set_option maxRecDepth 100000 in
theorem w_Runs_add (X : gX) (ad : Nat → Nat) (a1 : Int32) (a2 : Int32) (a3 : Int32) (a4 : Int32) (s : gS) (Q : gS → Prop) (h : wp_Runs_add a1 a2 a3 a4 s Q) (E : gE) (C : gC X E b_RU_add 5 R_RU) (hRm : gRm E = rm_Runs_add) (r : gR X E b_RU_add none (gBv (wC ad X) Q)) : gW X E 0 0 (wC ad X s) [(0, .ref (ad 6)), (1, .int a1), (2, .int a2), (3, .int a3), (4, .int a4)] 0 [] := by
  have h : (((s.1 9) < 9 → vp_in (s.1 9) 9 ∧ (vp_in (s.1 9) 9 ∧ (vp_in (s.1 9) 9 ∧ (vp_in (s.1 9) 9 ∧ (wp_Disk_get a1 (2 + a2) (s.1, ua (ua (ua (ua s.2 3 (upd (s.2 3) (s.1 9).toNatClampNeg a1)) 4 (upd (s.2 4) (s.1 9).toNatClampNeg a2)) 5 (upd (s.2 5) (s.1 9).toNatClampNeg a3)) 6 (upd (s.2 6) (s.1 9).toNatClampNeg a4)) (fun r7 s6 => vp_in (s.1 9) 9 ∧ (∀ v9 : Int32, v9 = (s6.1 9) + 1 → Q (up s6.1 9 (v9), ua s6.2 7 (upd (s6.2 7) (s.1 9).toNatClampNeg r7))))))))) ∧ (¬ (s.1 9) < 9 → Q s)) := h
  refine g_aload_n C d_RU_add_0 rfl 0 rfl ?_
  refine g_get C (v := .int (s.1 9)) 6 7 iw_RU rfl rfl (by decide) (gt 183 (by decide +kernel) rfl) rfl rfl d_RU_add_1 ?_
  refine g_bipush C 9 d_RU_add_4 (by decide) ?_
  refine g_icmp_lt C 10 d_RU_add_6 (by decide) (fun c1 => ?_) (fun c1 => ?_)
  · have h := h.1 c1
    refine g_aload_n C d_RU_add_10 rfl 0 rfl ?_
    refine g_get C (v := .ref (ad 7)) 6 1 iw_RU rfl rfl (by decide) (gt 169 (by decide +kernel) rfl) rfl rfl d_RU_add_11 ?_
    refine g_aload_n C d_RU_add_14 rfl 0 rfl ?_
    refine g_get C (v := .int (s.1 9)) 6 7 iw_RU rfl rfl (by decide) (gt 183 (by decide +kernel) rfl) rfl rfl d_RU_add_15 ?_
    refine g_iload_n C d_RU_add_18 rfl 1 rfl ?_
    obtain ⟨i2, h⟩ := h
    refine g_iast C 7 0 (ws2 := wC ad X (s.1, ua s.2 3 (upd (s.2 3) (s.1 9).toNatClampNeg a1))) rfl rfl i2 rfl d_RU_add_19 ?_
    refine g_aload_n C d_RU_add_20 rfl 0 rfl ?_
    refine g_get C (v := .ref (ad 8)) 6 2 iw_RU rfl rfl (by decide) (gt 172 (by decide +kernel) rfl) rfl rfl d_RU_add_21 ?_
    refine g_aload_n C d_RU_add_24 rfl 0 rfl ?_
    refine g_get C (v := .int (s.1 9)) 6 7 iw_RU rfl rfl (by decide) (gt 183 (by decide +kernel) rfl) rfl rfl d_RU_add_25 ?_
    refine g_iload_n C d_RU_add_28 rfl 2 rfl ?_
    obtain ⟨i3, h⟩ := h
    refine g_iast C 8 0 (ws2 := wC ad X (s.1, ua (ua s.2 3 (upd (s.2 3) (s.1 9).toNatClampNeg a1)) 4 (upd (s.2 4) (s.1 9).toNatClampNeg a2))) rfl rfl i3 rfl d_RU_add_29 ?_
    refine g_aload_n C d_RU_add_30 rfl 0 rfl ?_
    refine g_get C (v := .ref (ad 9)) 6 3 iw_RU rfl rfl (by decide) (gt 175 (by decide +kernel) rfl) rfl rfl d_RU_add_31 ?_
    refine g_aload_n C d_RU_add_34 rfl 0 rfl ?_
    refine g_get C (v := .int (s.1 9)) 6 7 iw_RU rfl rfl (by decide) (gt 183 (by decide +kernel) rfl) rfl rfl d_RU_add_35 ?_
    refine g_iload_n C d_RU_add_38 rfl 3 rfl ?_
    obtain ⟨i4, h⟩ := h
    refine g_iast C 9 0 (ws2 := wC ad X (s.1, ua (ua (ua s.2 3 (upd (s.2 3) (s.1 9).toNatClampNeg a1)) 4 (upd (s.2 4) (s.1 9).toNatClampNeg a2)) 5 (upd (s.2 5) (s.1 9).toNatClampNeg a3))) rfl rfl i4 rfl d_RU_add_39 ?_
    refine g_aload_n C d_RU_add_40 rfl 0 rfl ?_
    refine g_get C (v := .ref (ad 10)) 6 4 iw_RU rfl rfl (by decide) (gt 178 (by decide +kernel) rfl) rfl rfl d_RU_add_41 ?_
    refine g_aload_n C d_RU_add_44 rfl 0 rfl ?_
    refine g_get C (v := .int (s.1 9)) 6 7 iw_RU rfl rfl (by decide) (gt 183 (by decide +kernel) rfl) rfl rfl d_RU_add_45 ?_
    refine g_iload C d_RU_add_48 4 rfl ?_
    obtain ⟨i5, h⟩ := h
    refine g_iast C 10 0 (ws2 := wC ad X (s.1, ua (ua (ua (ua s.2 3 (upd (s.2 3) (s.1 9).toNatClampNeg a1)) 4 (upd (s.2 4) (s.1 9).toNatClampNeg a2)) 5 (upd (s.2 5) (s.1 9).toNatClampNeg a3)) 6 (upd (s.2 6) (s.1 9).toNatClampNeg a4))) rfl rfl i5 rfl d_RU_add_50 ?_
    refine g_aload_n C d_RU_add_51 rfl 0 rfl ?_
    refine g_get C (v := .ref (ad 11)) 6 5 iw_RU rfl rfl (by decide) (gt 181 (by decide +kernel) rfl) rfl rfl d_RU_add_52 ?_
    refine g_aload_n C d_RU_add_55 rfl 0 rfl ?_
    refine g_get C (v := .int (s.1 9)) 6 7 iw_RU rfl rfl (by decide) (gt 183 (by decide +kernel) rfl) rfl rfl d_RU_add_56 ?_
    refine g_aload_n C d_RU_add_59 rfl 0 rfl ?_
    refine g_get C (v := .ref (ad 1)) 6 0 iw_RU rfl rfl (by decide) (gt 168 (by decide +kernel) rfl) rfl rfl d_RU_add_60 ?_
    refine g_iload_n C d_RU_add_63 rfl 1 rfl ?_
    refine g_iconst C 2 d_RU_add_64 (by decide) ?_
    refine g_iload_n C d_RU_add_65 rfl 2 rfl ?_
    refine g_iadd C d_RU_add_66 ?_
    refine g_callVN (host := "SpillQueue") C (rest := [.int (s.1 9), .ref (ad 11)]) 1 (fun l => m_Disk_get X ad a1 (2 + a2) (s.1, ua (ua (ua (ua s.2 3 (upd (s.2 3) (s.1 9).toNatClampNeg a1)) 4 (upd (s.2 4) (s.1 9).toNatClampNeg a2)) 5 (upd (s.2 5) (s.1 9).toNatClampNeg a3)) 6 (upd (s.2 6) (s.1 9).toNatClampNeg a4)) _ h l) rfl rfl (gn 409 (by decide +kernel) rfl) cb_DK_get ⟨rfl, rfl⟩ (by rw [hRm]; decide) ⟨Nat.zero_le _, Nat.zero_le _⟩ rfl rfl (Nat.le_of_ble_eq_true rfl) d_RU_add_67 (gki (fun r7 s6 h => ?_))
    obtain ⟨i8, h⟩ := h
    refine g_iast C 11 0 (ws2 := wC ad X (s6.1, ua s6.2 7 (upd (s6.2 7) (s.1 9).toNatClampNeg r7))) rfl rfl i8 rfl d_RU_add_70 ?_
    refine g_aload_n C d_RU_add_71 rfl 0 rfl ?_
    refine g_dup C rfl d_RU_add_72 ?_
    refine g_get C (v := .int (s6.1 9)) 6 7 iw_RU rfl rfl (by decide) (gt 183 (by decide +kernel) rfl) rfl rfl d_RU_add_73 ?_
    refine g_iconst C 1 d_RU_add_76 (by decide) ?_
    refine g_iadd C d_RU_add_77 ?_
    refine g_topi (fun v9 e_v9 => ?_)
    have h := h v9 e_v9
    refine g_put C (ws2 := wC ad X (up s6.1 9 (v9), ua s6.2 7 (upd (s6.2 7) (s.1 9).toNatClampNeg r7))) 6 7 iw_RU ty_RU tyok_RU nm_RU rfl rfl (by decide) (gt 183 (by decide +kernel) rfl) rfl rfl rfl rfl (Nat.le_of_ble_eq_true rfl) rfl d_RU_add_78 ?_
    exact g_vret r d_RU_add_81 (gBv_mk h)
  · have h := h.2 c1
    exact g_vret r d_RU_add_9 (gBv_mk h)
theorem m_Runs_add (X : gX) (ad : Nat → Nat) (a1 : Int32) (a2 : Int32) (a3 : Int32) (a4 : Int32) (s : gS) (Q : gS → Prop) (h : wp_Runs_add a1 a2 a3 a4 s Q) (l : Launch) : gM l X y_RU_add b_RU_add 5 none rm_Runs_add [.ref (ad 6), .int a1, .int a2, .int a3, .int a4] (wC ad X s) (gBv (wC ad X) Q) :=
  gM_of (by decide +kernel) rfl (Nat.le_of_ble_eq_true rfl) rfl (fun E C hRm r => w_Runs_add X ad a1 a2 a3 a4 s Q h E C hRm r)
def rm_SpillQueue_makeRun_4 : Room := { frames := 3, cells := 0, slots := 0, locals := 68 }
def wl_SpillQueue_makeRun_4_106 (Q : Int32 → gS → Prop) (K : Int32 → gS → Prop) (x2 : Int32) (x3 : Int32) (x4 : Int32) (x5 : Int32) (x6 : Int32) (x7 : Int32) : Nat → Int32 → gS → Prop
  | 0, _, _ => False
  | n + 1, x8, s => ((x7 ≤ x8 → K x8 s) ∧ (¬ x7 ≤ x8 → wp_Memory_takeLeast s (fun r20 s19 => wp_Disk_setRow (2 + x8) r20 s19 (fun s21 => ∀ v23 : Int32, v23 = x8 + 1 → wl_SpillQueue_makeRun_4_106 Q K x2 x3 x4 x5 x6 x7 n v23 s21))))
set_option maxHeartbeats 4000000 in
set_option maxRecDepth 100000 in
theorem w_SpillQueue_makeRun_4_106 (X : gX) (ad : Nat → Nat) (Q : Int32 → gS → Prop) (K : Int32 → gS → Prop) (x2 : Int32) (x3 : Int32) (x4 : Int32) (x5 : Int32) (x6 : Int32) (x7 : Int32) (E : gE) (C : gC X E b_SQ_makeRun 9 R_SQ) (hRm : gRm E = rm_SpillQueue_makeRun_4) (r : gR X E b_SQ_makeRun (some .int) (gBi (wC ad X) Q)) (hK : ∀ (x8 : Int32) (s : gS), K x8 s → gW X E 0 0 (wC ad X s) [(0, .ref (ad 0)), (1, .ref (ad 4)), (2, .int x2), (3, .int x3), (4, .int x4), (5, .int x5), (6, .int x6), (7, .int x7), (8, .int x8)] 134 []) : ∀ (n : Nat) (x8 : Int32) (s : gS), wl_SpillQueue_makeRun_4_106 Q K x2 x3 x4 x5 x6 x7 n x8 s → gW X E 0 0 (wC ad X s) [(0, .ref (ad 0)), (1, .ref (ad 4)), (2, .int x2), (3, .int x3), (4, .int x4), (5, .int x5), (6, .int x6), (7, .int x7), (8, .int x8)] 106 [] := by
  intro n
  induction n with
  | zero => intro x8 s h; exact False.elim h
  | succ n ih =>
    intro x8 s h
    have h : ((x7 ≤ x8 → K x8 s) ∧ (¬ x7 ≤ x8 → wp_Memory_takeLeast s (fun r20 s19 => wp_Disk_setRow (2 + x8) r20 s19 (fun s21 => ∀ v23 : Int32, v23 = x8 + 1 → wl_SpillQueue_makeRun_4_106 Q K x2 x3 x4 x5 x6 x7 n v23 s21)))) := h
    refine g_iload C d_SQ_makeRun_106 8 rfl ?_
    refine g_iload C d_SQ_makeRun_108 7 rfl ?_
    refine g_icmp_ge C 134 d_SQ_makeRun_110 (by decide) (fun c18 => ?_) (fun c18 => ?_)
    · have h := h.1 c18
      exact hK x8 s h
    · have h := h.2 c18
      refine g_aload_n C d_SQ_makeRun_113 rfl 0 rfl ?_
      refine g_get C (v := .ref (ad 1)) 0 0 iw_SQ rfl rfl (by decide) (gt 229 (by decide +kernel) rfl) rfl rfl d_SQ_makeRun_114 ?_
      refine g_iconst C 2 d_SQ_makeRun_117 (by decide) ?_
      refine g_iload C d_SQ_makeRun_118 8 rfl ?_
      refine g_iadd C d_SQ_makeRun_120 ?_
      refine g_aload_n C d_SQ_makeRun_121 rfl 1 rfl ?_
      refine g_callU C (x := ⟨"SpillQueue$Keys", "takeLeast", "()I"⟩) (rest := [.int (2 + x8), .ref (ad 1)]) (owner := "SpillQueue$Keys") 4 (fun l => m_Memory_takeLeast X ad  s _ h l) rfl rfl (gt 503 (by decide +kernel) rfl) (gt 505 (by decide +kernel) rfl) (gn 504 (by decide +kernel) rfl) (gt 506 (by decide +kernel) rfl) (gt 507 (by decide +kernel) rfl) (gt 90 (by decide +kernel) rfl) (gt 508 rfl rfl) (by decide +kernel) ⟨rfl, rfl⟩ (by rw [hRm]; decide) ⟨Nat.zero_le _, Nat.zero_le _⟩ rfl rfl (Nat.le_of_ble_eq_true rfl) d_SQ_makeRun_122 (gki (fun r20 s19 h => ?_))
      refine g_callVN (host := "SpillQueue") C (rest := []) 1 (fun l => m_Disk_setRow X ad (2 + x8) r20 s19 _ h l) rfl rfl (gn 499 (by decide +kernel) rfl) cb_DK_setRow ⟨rfl, rfl⟩ (by rw [hRm]; decide) ⟨Nat.zero_le _, Nat.zero_le _⟩ rfl rfl (Nat.le_of_ble_eq_true rfl) d_SQ_makeRun_125 (gkv (fun s21 h => ?_))
      obtain ⟨v23, e_v23⟩ : ∃ y : Int32, y = x8 + 1 := ⟨_, rfl⟩
      have h := h v23 e_v23
      refine g_iinc C (v := v23) (lv2 := [(0, .ref (ad 0)), (1, .ref (ad 4)), (2, .int x2), (3, .int x3), (4, .int x4), (5, .int x5), (6, .int x6), (7, .int x7), (8, .int v23)]) d_SQ_makeRun_128 8 rfl (by rw [e_v23]; rfl) (by decide) rfl ?_
      refine g_goto C 106 d_SQ_makeRun_131 (by decide) ?_
      exact ih v23 s21 h
def wl_SpillQueue_makeRun_4_45 (Q : Int32 → gS → Prop) (K : Int32 → gS → Prop) (x2 : Int32) (x3 : Int32) (x4 : Int32) (x5 : Int32) : Nat → Int32 → gS → Prop
  | 0, _, _ => False
  | n + 1, x6, s => ((x4 ≤ x6 → K x6 s) ∧ (¬ x4 ≤ x6 → wp_Disk_clearRow s (fun s12 => ((x4 ≤ (x6 + 1) → wp_Disk_setRow 1 0 s12 (fun s15 => ∀ v17 : Int32, v17 = (if (x3 - (x6 * x5)) < x5 then (x3 - (x6 * x5)) else x5) → ∃ n24 : Nat, wl_SpillQueue_makeRun_4_106 Q (fun v26 s25 => vp_in x6 200 ∧ (wp_Disk_writeRow (s25.2 12 x6.toNatClampNeg) s25 (fun r29 s28 => ((¬ r29 = 0 → ∀ v31 : Int32, v31 = x6 + 1 → wl_SpillQueue_makeRun_4_45 Q K x2 x3 x4 x5 n v31 s28) ∧ (r29 = 0 → wp_SpillQueue_powerOff s28 (fun s32 => Q (-9) s32)))))) x2 x3 x4 x5 x6 v17 n24 0 s15)) ∧ (¬ x4 ≤ (x6 + 1) → vp_in (x6 + 1) 200 ∧ (wp_Disk_setRow 1 (s12.2 12 (x6 + 1).toNatClampNeg) s12 (fun s35 => ∀ v37 : Int32, v37 = (if (x3 - (x6 * x5)) < x5 then (x3 - (x6 * x5)) else x5) → ∃ n38 : Nat, wl_SpillQueue_makeRun_4_106 Q (fun v40 s39 => vp_in x6 200 ∧ (wp_Disk_writeRow (s39.2 12 x6.toNatClampNeg) s39 (fun r43 s42 => ((¬ r43 = 0 → ∀ v45 : Int32, v45 = x6 + 1 → wl_SpillQueue_makeRun_4_45 Q K x2 x3 x4 x5 n v45 s42) ∧ (r43 = 0 → wp_SpillQueue_powerOff s42 (fun s46 => Q (-9) s46)))))) x2 x3 x4 x5 x6 v37 n38 0 s35)))))))
set_option maxHeartbeats 4000000 in
set_option maxRecDepth 100000 in
theorem w_SpillQueue_makeRun_4_45 (X : gX) (ad : Nat → Nat) (Q : Int32 → gS → Prop) (K : Int32 → gS → Prop) (x2 : Int32) (x3 : Int32) (x4 : Int32) (x5 : Int32) (E : gE) (C : gC X E b_SQ_makeRun 9 R_SQ) (hRm : gRm E = rm_SpillQueue_makeRun_4) (r : gR X E b_SQ_makeRun (some .int) (gBi (wC ad X) Q)) (hK : ∀ (x6 : Int32) (s : gS), K x6 s → gW X E 0 0 (wC ad X s) [(0, .ref (ad 0)), (1, .ref (ad 4)), (2, .int x2), (3, .int x3), (4, .int x4), (5, .int x5), (6, .int x6)] 164 []) : ∀ (n : Nat) (x6 : Int32) (s : gS), wl_SpillQueue_makeRun_4_45 Q K x2 x3 x4 x5 n x6 s → gW X E 0 0 (wC ad X s) [(0, .ref (ad 0)), (1, .ref (ad 4)), (2, .int x2), (3, .int x3), (4, .int x4), (5, .int x5), (6, .int x6)] 45 [] := by
  intro n
  induction n with
  | zero => intro x6 s h; exact False.elim h
  | succ n ih =>
    intro x6 s h
    have h : ((x4 ≤ x6 → K x6 s) ∧ (¬ x4 ≤ x6 → wp_Disk_clearRow s (fun s12 => ((x4 ≤ (x6 + 1) → wp_Disk_setRow 1 0 s12 (fun s15 => ∀ v17 : Int32, v17 = (if (x3 - (x6 * x5)) < x5 then (x3 - (x6 * x5)) else x5) → ∃ n24 : Nat, wl_SpillQueue_makeRun_4_106 Q (fun v26 s25 => vp_in x6 200 ∧ (wp_Disk_writeRow (s25.2 12 x6.toNatClampNeg) s25 (fun r29 s28 => ((¬ r29 = 0 → ∀ v31 : Int32, v31 = x6 + 1 → wl_SpillQueue_makeRun_4_45 Q K x2 x3 x4 x5 n v31 s28) ∧ (r29 = 0 → wp_SpillQueue_powerOff s28 (fun s32 => Q (-9) s32)))))) x2 x3 x4 x5 x6 v17 n24 0 s15)) ∧ (¬ x4 ≤ (x6 + 1) → vp_in (x6 + 1) 200 ∧ (wp_Disk_setRow 1 (s12.2 12 (x6 + 1).toNatClampNeg) s12 (fun s35 => ∀ v37 : Int32, v37 = (if (x3 - (x6 * x5)) < x5 then (x3 - (x6 * x5)) else x5) → ∃ n38 : Nat, wl_SpillQueue_makeRun_4_106 Q (fun v40 s39 => vp_in x6 200 ∧ (wp_Disk_writeRow (s39.2 12 x6.toNatClampNeg) s39 (fun r43 s42 => ((¬ r43 = 0 → ∀ v45 : Int32, v45 = x6 + 1 → wl_SpillQueue_makeRun_4_45 Q K x2 x3 x4 x5 n v45 s42) ∧ (r43 = 0 → wp_SpillQueue_powerOff s42 (fun s46 => Q (-9) s46)))))) x2 x3 x4 x5 x6 v37 n38 0 s35))))))) := h
    refine g_iload C d_SQ_makeRun_45 6 rfl ?_
    refine g_iload C d_SQ_makeRun_47 4 rfl ?_
    refine g_icmp_ge C 164 d_SQ_makeRun_49 (by decide) (fun c11 => ?_) (fun c11 => ?_)
    · have h := h.1 c11
      exact hK x6 s h
    · have h := h.2 c11
      refine g_aload_n C d_SQ_makeRun_52 rfl 0 rfl ?_
      refine g_get C (v := .ref (ad 1)) 0 0 iw_SQ rfl rfl (by decide) (gt 229 (by decide +kernel) rfl) rfl rfl d_SQ_makeRun_53 ?_
      refine g_callVN (host := "SpillQueue") C (rest := []) 1 (fun l => m_Disk_clearRow X ad  s _ h l) rfl rfl (gn 498 (by decide +kernel) rfl) cb_DK_clearRow ⟨rfl, rfl⟩ (by rw [hRm]; decide) ⟨Nat.zero_le _, Nat.zero_le _⟩ rfl rfl (Nat.le_of_ble_eq_true rfl) d_SQ_makeRun_56 (gkv (fun s12 h => ?_))
      refine g_aload_n C d_SQ_makeRun_59 rfl 0 rfl ?_
      refine g_get C (v := .ref (ad 1)) 0 0 iw_SQ rfl rfl (by decide) (gt 229 (by decide +kernel) rfl) rfl rfl d_SQ_makeRun_60 ?_
      refine g_iconst C 1 d_SQ_makeRun_63 (by decide) ?_
      refine g_iload C d_SQ_makeRun_64 6 rfl ?_
      refine g_iconst C 1 d_SQ_makeRun_66 (by decide) ?_
      refine g_iadd C d_SQ_makeRun_67 ?_
      refine g_iload C d_SQ_makeRun_68 4 rfl ?_
      refine g_icmp_ge C 85 d_SQ_makeRun_70 (by decide) (fun c14 => ?_) (fun c14 => ?_)
      · have h := h.1 c14
        refine g_iconst C 0 d_SQ_makeRun_85 (by decide) ?_
        refine g_callVN (host := "SpillQueue") C (rest := []) 1 (fun l => m_Disk_setRow X ad 1 0 s12 _ h l) rfl rfl (gn 499 (by decide +kernel) rfl) cb_DK_setRow ⟨rfl, rfl⟩ (by rw [hRm]; decide) ⟨Nat.zero_le _, Nat.zero_le _⟩ rfl rfl (Nat.le_of_ble_eq_true rfl) d_SQ_makeRun_86 (gkv (fun s15 h => ?_))
        refine g_iload C d_SQ_makeRun_89 5 rfl ?_
        refine g_iload_n C d_SQ_makeRun_91 rfl 3 rfl ?_
        refine g_iload C d_SQ_makeRun_92 6 rfl ?_
        refine g_iload C d_SQ_makeRun_94 5 rfl ?_
        refine g_imul C d_SQ_makeRun_96 ?_
        refine g_isub C d_SQ_makeRun_97 ?_
        refine g_mmin C (gt 500 (by decide +kernel) rfl) (gt 501 (by decide +kernel) rfl) (gt 102 (by decide +kernel) rfl) (gt 502 rfl rfl) (by rw [hRm]; decide) ⟨Nat.zero_le _, Nat.zero_le _⟩ d_SQ_makeRun_98 ?_
        refine g_topi (fun v17 e_v17 => ?_)
        have h := h v17 e_v17
        refine g_istore C (lv2 := [(0, .ref (ad 0)), (1, .ref (ad 4)), (2, .int x2), (3, .int x3), (4, .int x4), (5, .int x5), (6, .int x6), (7, .int v17)]) d_SQ_makeRun_101 (by decide) rfl ?_
        refine g_iconst C 0 d_SQ_makeRun_103 (by decide) ?_
        refine g_istore C (lv2 := [(0, .ref (ad 0)), (1, .ref (ad 4)), (2, .int x2), (3, .int x3), (4, .int x4), (5, .int x5), (6, .int x6), (7, .int v17), (8, .int 0)]) d_SQ_makeRun_104 (by decide) rfl ?_
        obtain ⟨n24, h⟩ := h
        refine w_SpillQueue_makeRun_4_106 X ad Q (_) x2 x3 x4 x5 x6 v17 E C hRm r ?_ n24 0 s15 h
        intro v26 s25 h
        refine g_aload_n C d_SQ_makeRun_134 rfl 0 rfl ?_
        refine g_get C (v := .ref (ad 1)) 0 0 iw_SQ rfl rfl (by decide) (gt 229 (by decide +kernel) rfl) rfl rfl d_SQ_makeRun_135 ?_
        refine g_aload_n C d_SQ_makeRun_138 rfl 0 rfl ?_
        refine g_get C (v := .ref (ad 20)) 0 6 iw_SQ rfl rfl (by decide) (gt 235 (by decide +kernel) rfl) rfl rfl d_SQ_makeRun_139 ?_
        refine g_iload C d_SQ_makeRun_142 6 rfl ?_
        obtain ⟨i27, h⟩ := h
        refine g_iald C 20 0 rfl rfl i27 d_SQ_makeRun_144 ?_
        refine g_callVN (host := "SpillQueue") C (rest := []) 1 (fun l => m_Disk_writeRow X ad (s25.2 12 x6.toNatClampNeg) s25 _ h l) rfl rfl (gn 529 (by decide +kernel) rfl) cb_DK_writeRow ⟨rfl, rfl⟩ (by rw [hRm]; decide) ⟨Nat.zero_le _, Nat.zero_le _⟩ rfl rfl (Nat.le_of_ble_eq_true rfl) d_SQ_makeRun_145 (gki (fun r29 s28 h => ?_))
        refine g_if_ne C 158 d_SQ_makeRun_148 (by decide) (fun c30 => ?_) (fun c30 => ?_)
        · have h := h.1 c30
          obtain ⟨v31, e_v31⟩ : ∃ y : Int32, y = x6 + 1 := ⟨_, rfl⟩
          have h := h v31 e_v31
          refine g_iinc C (v := v31) (lv2 := [(0, .ref (ad 0)), (1, .ref (ad 4)), (2, .int x2), (3, .int x3), (4, .int x4), (5, .int x5), (6, .int v31), (7, .int v17), (8, .int v26)]) d_SQ_makeRun_158 6 rfl (by rw [e_v31]; rfl) (by decide) rfl ?_
          refine g_goto C 45 d_SQ_makeRun_161 (by decide) ?_
          refine g_lv C [0, 1, 2, 3, 4, 5, 6] rfl ?_
          exact ih v31 s28 h
        · have h := h.2 c30
          refine g_aload_n C d_SQ_makeRun_151 rfl 0 rfl ?_
          refine g_callV C (rest := []) 0 (fun l => m_SpillQueue_powerOff X ad  s28 _ h l) rfl rfl (gt 351 (by decide +kernel) rfl) cb_SQ_powerOff ⟨rfl, rfl⟩ (by rw [hRm]; decide) ⟨Nat.zero_le _, Nat.zero_le _⟩ rfl rfl (Nat.le_of_ble_eq_true rfl) d_SQ_makeRun_152 (gkv (fun s32 h => ?_))
          refine g_bipush C (-9) d_SQ_makeRun_155 (by decide) ?_
          exact g_iret r rfl d_SQ_makeRun_157 (gBi_mk h)
      · have h := h.2 c14
        refine g_aload_n C d_SQ_makeRun_73 rfl 0 rfl ?_
        refine g_get C (v := .ref (ad 20)) 0 6 iw_SQ rfl rfl (by decide) (gt 235 (by decide +kernel) rfl) rfl rfl d_SQ_makeRun_74 ?_
        refine g_iload C d_SQ_makeRun_77 6 rfl ?_
        refine g_iconst C 1 d_SQ_makeRun_79 (by decide) ?_
        refine g_iadd C d_SQ_makeRun_80 ?_
        obtain ⟨i34, h⟩ := h
        refine g_iald C 20 0 rfl rfl i34 d_SQ_makeRun_81 ?_
        refine g_goto C 86 d_SQ_makeRun_82 (by decide) ?_
        refine g_callVN (host := "SpillQueue") C (rest := []) 1 (fun l => m_Disk_setRow X ad 1 (s12.2 12 (x6 + 1).toNatClampNeg) s12 _ h l) rfl rfl (gn 499 (by decide +kernel) rfl) cb_DK_setRow ⟨rfl, rfl⟩ (by rw [hRm]; decide) ⟨Nat.zero_le _, Nat.zero_le _⟩ rfl rfl (Nat.le_of_ble_eq_true rfl) d_SQ_makeRun_86 (gkv (fun s35 h => ?_))
        refine g_iload C d_SQ_makeRun_89 5 rfl ?_
        refine g_iload_n C d_SQ_makeRun_91 rfl 3 rfl ?_
        refine g_iload C d_SQ_makeRun_92 6 rfl ?_
        refine g_iload C d_SQ_makeRun_94 5 rfl ?_
        refine g_imul C d_SQ_makeRun_96 ?_
        refine g_isub C d_SQ_makeRun_97 ?_
        refine g_mmin C (gt 500 (by decide +kernel) rfl) (gt 501 (by decide +kernel) rfl) (gt 102 (by decide +kernel) rfl) (gt 502 rfl rfl) (by rw [hRm]; decide) ⟨Nat.zero_le _, Nat.zero_le _⟩ d_SQ_makeRun_98 ?_
        refine g_topi (fun v37 e_v37 => ?_)
        have h := h v37 e_v37
        refine g_istore C (lv2 := [(0, .ref (ad 0)), (1, .ref (ad 4)), (2, .int x2), (3, .int x3), (4, .int x4), (5, .int x5), (6, .int x6), (7, .int v37)]) d_SQ_makeRun_101 (by decide) rfl ?_
        refine g_iconst C 0 d_SQ_makeRun_103 (by decide) ?_
        refine g_istore C (lv2 := [(0, .ref (ad 0)), (1, .ref (ad 4)), (2, .int x2), (3, .int x3), (4, .int x4), (5, .int x5), (6, .int x6), (7, .int v37), (8, .int 0)]) d_SQ_makeRun_104 (by decide) rfl ?_
        obtain ⟨n38, h⟩ := h
        refine w_SpillQueue_makeRun_4_106 X ad Q (_) x2 x3 x4 x5 x6 v37 E C hRm r ?_ n38 0 s35 h
        intro v40 s39 h
        refine g_aload_n C d_SQ_makeRun_134 rfl 0 rfl ?_
        refine g_get C (v := .ref (ad 1)) 0 0 iw_SQ rfl rfl (by decide) (gt 229 (by decide +kernel) rfl) rfl rfl d_SQ_makeRun_135 ?_
        refine g_aload_n C d_SQ_makeRun_138 rfl 0 rfl ?_
        refine g_get C (v := .ref (ad 20)) 0 6 iw_SQ rfl rfl (by decide) (gt 235 (by decide +kernel) rfl) rfl rfl d_SQ_makeRun_139 ?_
        refine g_iload C d_SQ_makeRun_142 6 rfl ?_
        obtain ⟨i41, h⟩ := h
        refine g_iald C 20 0 rfl rfl i41 d_SQ_makeRun_144 ?_
        refine g_callVN (host := "SpillQueue") C (rest := []) 1 (fun l => m_Disk_writeRow X ad (s39.2 12 x6.toNatClampNeg) s39 _ h l) rfl rfl (gn 529 (by decide +kernel) rfl) cb_DK_writeRow ⟨rfl, rfl⟩ (by rw [hRm]; decide) ⟨Nat.zero_le _, Nat.zero_le _⟩ rfl rfl (Nat.le_of_ble_eq_true rfl) d_SQ_makeRun_145 (gki (fun r43 s42 h => ?_))
        refine g_if_ne C 158 d_SQ_makeRun_148 (by decide) (fun c44 => ?_) (fun c44 => ?_)
        · have h := h.1 c44
          obtain ⟨v45, e_v45⟩ : ∃ y : Int32, y = x6 + 1 := ⟨_, rfl⟩
          have h := h v45 e_v45
          refine g_iinc C (v := v45) (lv2 := [(0, .ref (ad 0)), (1, .ref (ad 4)), (2, .int x2), (3, .int x3), (4, .int x4), (5, .int x5), (6, .int v45), (7, .int v37), (8, .int v40)]) d_SQ_makeRun_158 6 rfl (by rw [e_v45]; rfl) (by decide) rfl ?_
          refine g_goto C 45 d_SQ_makeRun_161 (by decide) ?_
          refine g_lv C [0, 1, 2, 3, 4, 5, 6] rfl ?_
          exact ih v45 s42 h
        · have h := h.2 c44
          refine g_aload_n C d_SQ_makeRun_151 rfl 0 rfl ?_
          refine g_callV C (rest := []) 0 (fun l => m_SpillQueue_powerOff X ad  s42 _ h l) rfl rfl (gt 351 (by decide +kernel) rfl) cb_SQ_powerOff ⟨rfl, rfl⟩ (by rw [hRm]; decide) ⟨Nat.zero_le _, Nat.zero_le _⟩ rfl rfl (Nat.le_of_ble_eq_true rfl) d_SQ_makeRun_152 (gkv (fun s46 h => ?_))
          refine g_bipush C (-9) d_SQ_makeRun_155 (by decide) ?_
          exact g_iret r rfl d_SQ_makeRun_157 (gBi_mk h)
def wp_SpillQueue_makeRun_4 (a2 : Int32) (s : gS) (Q : Int32 → gS → Prop) : Prop := wp_Memory_howMany s (fun r2 s1 => wp_Disk_blocksFor r2 s1 (fun r4 s3 => ((r4 < 1 → Q (-2) s3) ∧ (¬ r4 < 1 → wp_SpillQueue_gatherFree s3 (fun r7 s6 => ((r4 ≤ r7 → wp_Disk_keysPerBlock s6 (fun r10 s9 => ∃ n48 : Nat, wl_SpillQueue_makeRun_4_45 Q (fun v50 s49 => wp_Runs_dropEmpty s49 (fun s51 => vp_in 0 200 ∧ (wp_Runs_add (s51.2 12 (0 : Int32).toNatClampNeg) 0 r2 a2 s51 (fun s54 => Q 0 s54)))) a2 r2 r4 r10 n48 0 s9)) ∧ (¬ r4 ≤ r7 → Q (-2) s6)))))))
set_option maxHeartbeats 4000000 in
set_option maxRecDepth 100000 in
theorem w_SpillQueue_makeRun_4 (X : gX) (ad : Nat → Nat) (a2 : Int32) (s : gS) (Q : Int32 → gS → Prop) (h : wp_SpillQueue_makeRun_4 a2 s Q) (E : gE) (C : gC X E b_SQ_makeRun 9 R_SQ) (hRm : gRm E = rm_SpillQueue_makeRun_4) (r : gR X E b_SQ_makeRun (some .int) (gBi (wC ad X) Q)) : gW X E 0 0 (wC ad X s) [(0, .ref (ad 0)), (1, .ref (ad 4)), (2, .int a2)] 0 [] := by
  have h : wp_Memory_howMany s (fun r2 s1 => wp_Disk_blocksFor r2 s1 (fun r4 s3 => ((r4 < 1 → Q (-2) s3) ∧ (¬ r4 < 1 → wp_SpillQueue_gatherFree s3 (fun r7 s6 => ((r4 ≤ r7 → wp_Disk_keysPerBlock s6 (fun r10 s9 => ∃ n48 : Nat, wl_SpillQueue_makeRun_4_45 Q (fun v50 s49 => wp_Runs_dropEmpty s49 (fun s51 => vp_in 0 200 ∧ (wp_Runs_add (s51.2 12 (0 : Int32).toNatClampNeg) 0 r2 a2 s51 (fun s54 => Q 0 s54)))) a2 r2 r4 r10 n48 0 s9)) ∧ (¬ r4 ≤ r7 → Q (-2) s6))))))) := h
  refine g_aload_n C d_SQ_makeRun_0 rfl 1 rfl ?_
  refine g_callU C (x := ⟨"SpillQueue$Keys", "howMany", "()I"⟩) (rest := []) (owner := "SpillQueue$Keys") 4 (fun l => m_Memory_howMany X ad  s _ h l) rfl rfl (gt 469 (by decide +kernel) rfl) (gt 471 (by decide +kernel) rfl) (gn 470 (by decide +kernel) rfl) (gt 472 (by decide +kernel) rfl) (gt 265 (by decide +kernel) rfl) (gt 90 (by decide +kernel) rfl) (gt 267 rfl rfl) (by decide +kernel) ⟨rfl, rfl⟩ (by rw [hRm]; decide) ⟨Nat.zero_le _, Nat.zero_le _⟩ rfl rfl (Nat.le_of_ble_eq_true rfl) d_SQ_makeRun_1 (gki (fun r2 s1 h => ?_))
  refine g_istore_n C (lv2 := [(0, .ref (ad 0)), (1, .ref (ad 4)), (2, .int a2), (3, .int r2)]) d_SQ_makeRun_4 rfl (by decide) rfl ?_
  refine g_aload_n C d_SQ_makeRun_5 rfl 0 rfl ?_
  refine g_get C (v := .ref (ad 1)) 0 0 iw_SQ rfl rfl (by decide) (gt 229 (by decide +kernel) rfl) rfl rfl d_SQ_makeRun_6 ?_
  refine g_iload_n C d_SQ_makeRun_9 rfl 3 rfl ?_
  refine g_callVN (host := "SpillQueue") C (rest := []) 1 (fun l => m_Disk_blocksFor X ad r2 s1 _ h l) rfl rfl (gn 476 (by decide +kernel) rfl) cb_DK_blocksFor ⟨rfl, rfl⟩ (by rw [hRm]; decide) ⟨Nat.zero_le _, Nat.zero_le _⟩ rfl rfl (Nat.le_of_ble_eq_true rfl) d_SQ_makeRun_10 (gki (fun r4 s3 h => ?_))
  refine g_istore C (lv2 := [(0, .ref (ad 0)), (1, .ref (ad 4)), (2, .int a2), (3, .int r2), (4, .int r4)]) d_SQ_makeRun_13 (by decide) rfl ?_
  refine g_iload C d_SQ_makeRun_15 4 rfl ?_
  refine g_iconst C 1 d_SQ_makeRun_17 (by decide) ?_
  refine g_icmp_lt C 30 d_SQ_makeRun_18 (by decide) (fun c5 => ?_) (fun c5 => ?_)
  · have h := h.1 c5
    refine g_bipush C (-2) d_SQ_makeRun_30 (by decide) ?_
    exact g_iret r rfl d_SQ_makeRun_32 (gBi_mk h)
  · have h := h.2 c5
    refine g_aload_n C d_SQ_makeRun_21 rfl 0 rfl ?_
    refine g_callV C (rest := []) 0 (fun l => m_SpillQueue_gatherFree X ad  s3 _ h l) rfl rfl (gt 484 (by decide +kernel) rfl) cb_SQ_gatherFree ⟨rfl, rfl⟩ (by rw [hRm]; decide) ⟨Nat.zero_le _, Nat.zero_le _⟩ rfl rfl (Nat.le_of_ble_eq_true rfl) d_SQ_makeRun_22 (gki (fun r7 s6 h => ?_))
    refine g_iload C d_SQ_makeRun_25 4 rfl ?_
    refine g_icmp_ge C 33 d_SQ_makeRun_27 (by decide) (fun c8 => ?_) (fun c8 => ?_)
    · have h := h.1 c8
      refine g_aload_n C d_SQ_makeRun_33 rfl 0 rfl ?_
      refine g_get C (v := .ref (ad 1)) 0 0 iw_SQ rfl rfl (by decide) (gt 229 (by decide +kernel) rfl) rfl rfl d_SQ_makeRun_34 ?_
      refine g_callVN (host := "SpillQueue") C (rest := []) 1 (fun l => m_Disk_keysPerBlock X ad  s6 _ h l) rfl rfl (gn 497 (by decide +kernel) rfl) cb_DK_keysPerBlock ⟨rfl, rfl⟩ (by rw [hRm]; decide) ⟨Nat.zero_le _, Nat.zero_le _⟩ rfl rfl (Nat.le_of_ble_eq_true rfl) d_SQ_makeRun_37 (gki (fun r10 s9 h => ?_))
      refine g_istore C (lv2 := [(0, .ref (ad 0)), (1, .ref (ad 4)), (2, .int a2), (3, .int r2), (4, .int r4), (5, .int r10)]) d_SQ_makeRun_40 (by decide) rfl ?_
      refine g_iconst C 0 d_SQ_makeRun_42 (by decide) ?_
      refine g_istore C (lv2 := [(0, .ref (ad 0)), (1, .ref (ad 4)), (2, .int a2), (3, .int r2), (4, .int r4), (5, .int r10), (6, .int 0)]) d_SQ_makeRun_43 (by decide) rfl ?_
      obtain ⟨n48, h⟩ := h
      refine w_SpillQueue_makeRun_4_45 X ad Q (_) a2 r2 r4 r10 E C hRm r ?_ n48 0 s9 h
      intro v50 s49 h
      refine g_aload_n C d_SQ_makeRun_164 rfl 0 rfl ?_
      refine g_get C (v := .ref (ad 6)) 0 2 iw_SQ rfl rfl (by decide) (gt 231 (by decide +kernel) rfl) rfl rfl d_SQ_makeRun_165 ?_
      refine g_callVN (host := "SpillQueue") C (rest := []) 6 (fun l => m_Runs_dropEmpty X ad  s49 _ h l) rfl rfl (gn 530 (by decide +kernel) rfl) cb_RU_dropEmpty ⟨rfl, rfl⟩ (by rw [hRm]; decide) ⟨Nat.zero_le _, Nat.zero_le _⟩ rfl rfl (Nat.le_of_ble_eq_true rfl) d_SQ_makeRun_168 (gkv (fun s51 h => ?_))
      refine g_aload_n C d_SQ_makeRun_171 rfl 0 rfl ?_
      refine g_get C (v := .ref (ad 6)) 0 2 iw_SQ rfl rfl (by decide) (gt 231 (by decide +kernel) rfl) rfl rfl d_SQ_makeRun_172 ?_
      refine g_aload_n C d_SQ_makeRun_175 rfl 0 rfl ?_
      refine g_get C (v := .ref (ad 20)) 0 6 iw_SQ rfl rfl (by decide) (gt 235 (by decide +kernel) rfl) rfl rfl d_SQ_makeRun_176 ?_
      refine g_iconst C 0 d_SQ_makeRun_179 (by decide) ?_
      obtain ⟨i53, h⟩ := h
      refine g_iald C 20 0 rfl rfl i53 d_SQ_makeRun_180 ?_
      refine g_iconst C 0 d_SQ_makeRun_181 (by decide) ?_
      refine g_iload_n C d_SQ_makeRun_182 rfl 3 rfl ?_
      refine g_iload_n C d_SQ_makeRun_183 rfl 2 rfl ?_
      refine g_callVN (host := "SpillQueue") C (rest := []) 6 (fun l => m_Runs_add X ad (s51.2 12 (0 : Int32).toNatClampNeg) 0 r2 a2 s51 _ h l) rfl rfl (gn 534 (by decide +kernel) rfl) cb_RU_add ⟨rfl, rfl⟩ (by rw [hRm]; decide) ⟨Nat.zero_le _, Nat.zero_le _⟩ rfl rfl (Nat.le_of_ble_eq_true rfl) d_SQ_makeRun_184 (gkv (fun s54 h => ?_))
      refine g_iconst C 0 d_SQ_makeRun_187 (by decide) ?_
      exact g_iret r rfl d_SQ_makeRun_188 (gBi_mk h)
    · have h := h.2 c8
      refine g_bipush C (-2) d_SQ_makeRun_30 (by decide) ?_
      exact g_iret r rfl d_SQ_makeRun_32 (gBi_mk h)
theorem m_SpillQueue_makeRun_4 (X : gX) (ad : Nat → Nat) (a2 : Int32) (s : gS) (Q : Int32 → gS → Prop) (h : wp_SpillQueue_makeRun_4 a2 s Q) (l : Launch) : gM l X y_SQ_makeRun b_SQ_makeRun 9 (some .int) rm_SpillQueue_makeRun_4 [.ref (ad 0), .ref (ad 4), .int a2] (wC ad X s) (gBi (wC ad X) Q) :=
  gM_of (by decide +kernel) rfl (Nat.le_of_ble_eq_true rfl) rfl (fun E C hRm r => w_SpillQueue_makeRun_4 X ad a2 s Q h E C hRm r)
end
section
def rm_Runs_runsAtLevelOf : Room := { frames := 0, cells := 0, slots := 0, locals := 0 }
def wl_Runs_runsAtLevelOf_4 (Q : Int32 → gS → Prop) (K : Int32 → Int32 → gS → Prop) (x1 : Int32) : Nat → Int32 → Int32 → gS → Prop
  | 0, _, _, _ => False
  | n + 1, x2, x3, s => (((s.1 9) ≤ x3 → K x2 x3 s) ∧ (¬ (s.1 9) ≤ x3 → vp_in x3 9 ∧ (vp_in x1 9 ∧ (((¬ (s.2 6 x3.toNatClampNeg) = (s.2 6 x1.toNatClampNeg) → ∀ v5 : Int32, v5 = x3 + 1 → wl_Runs_runsAtLevelOf_4 Q K x1 n x2 v5 s) ∧ ((s.2 6 x3.toNatClampNeg) = (s.2 6 x1.toNatClampNeg) → ∀ v6 : Int32, v6 = x2 + 1 → ∀ v7 : Int32, v7 = x3 + 1 → wl_Runs_runsAtLevelOf_4 Q K x1 n v6 v7 s))))))
set_option maxHeartbeats 4000000 in
set_option maxRecDepth 100000 in
theorem w_Runs_runsAtLevelOf_4 (X : gX) (ad : Nat → Nat) (Q : Int32 → gS → Prop) (K : Int32 → Int32 → gS → Prop) (x1 : Int32) (E : gE) (C : gC X E b_RU_runsAtLevelOf 4 R_RU) (hRm : gRm E = rm_Runs_runsAtLevelOf) (r : gR X E b_RU_runsAtLevelOf (some .int) (gBi (wC ad X) Q)) (hK : ∀ (x2 : Int32) (x3 : Int32) (s : gS), K x2 x3 s → gW X E 0 0 (wC ad X s) [(0, .ref (ad 6)), (1, .int x1), (2, .int x2), (3, .int x3)] 36 []) : ∀ (n : Nat) (x2 : Int32) (x3 : Int32) (s : gS), wl_Runs_runsAtLevelOf_4 Q K x1 n x2 x3 s → gW X E 0 0 (wC ad X s) [(0, .ref (ad 6)), (1, .int x1), (2, .int x2), (3, .int x3)] 4 [] := by
  intro n
  induction n with
  | zero => intro x2 x3 s h; exact False.elim h
  | succ n ih =>
    intro x2 x3 s h
    have h : (((s.1 9) ≤ x3 → K x2 x3 s) ∧ (¬ (s.1 9) ≤ x3 → vp_in x3 9 ∧ (vp_in x1 9 ∧ (((¬ (s.2 6 x3.toNatClampNeg) = (s.2 6 x1.toNatClampNeg) → ∀ v5 : Int32, v5 = x3 + 1 → wl_Runs_runsAtLevelOf_4 Q K x1 n x2 v5 s) ∧ ((s.2 6 x3.toNatClampNeg) = (s.2 6 x1.toNatClampNeg) → ∀ v6 : Int32, v6 = x2 + 1 → ∀ v7 : Int32, v7 = x3 + 1 → wl_Runs_runsAtLevelOf_4 Q K x1 n v6 v7 s)))))) := h
    refine g_iload_n C d_RU_runsAtLevelOf_4 rfl 3 rfl ?_
    refine g_aload_n C d_RU_runsAtLevelOf_5 rfl 0 rfl ?_
    refine g_get C (v := .int (s.1 9)) 6 7 iw_RU rfl rfl (by decide) (gt 183 (by decide +kernel) rfl) rfl rfl d_RU_runsAtLevelOf_6 ?_
    refine g_icmp_ge C 36 d_RU_runsAtLevelOf_9 (by decide) (fun c1 => ?_) (fun c1 => ?_)
    · have h := h.1 c1
      exact hK x2 x3 s h
    · have h := h.2 c1
      refine g_aload_n C d_RU_runsAtLevelOf_12 rfl 0 rfl ?_
      refine g_get C (v := .ref (ad 10)) 6 4 iw_RU rfl rfl (by decide) (gt 178 (by decide +kernel) rfl) rfl rfl d_RU_runsAtLevelOf_13 ?_
      refine g_iload_n C d_RU_runsAtLevelOf_16 rfl 3 rfl ?_
      obtain ⟨i2, h⟩ := h
      refine g_iald C 10 0 rfl rfl i2 d_RU_runsAtLevelOf_17 ?_
      refine g_aload_n C d_RU_runsAtLevelOf_18 rfl 0 rfl ?_
      refine g_get C (v := .ref (ad 10)) 6 4 iw_RU rfl rfl (by decide) (gt 178 (by decide +kernel) rfl) rfl rfl d_RU_runsAtLevelOf_19 ?_
      refine g_iload_n C d_RU_runsAtLevelOf_22 rfl 1 rfl ?_
      obtain ⟨i3, h⟩ := h
      refine g_iald C 10 0 rfl rfl i3 d_RU_runsAtLevelOf_23 ?_
      refine g_icmp_ne C 30 d_RU_runsAtLevelOf_24 (by decide) (fun c4 => ?_) (fun c4 => ?_)
      · have h := h.1 c4
        obtain ⟨v5, e_v5⟩ : ∃ y : Int32, y = x3 + 1 := ⟨_, rfl⟩
        have h := h v5 e_v5
        refine g_iinc C (v := v5) (lv2 := [(0, .ref (ad 6)), (1, .int x1), (2, .int x2), (3, .int v5)]) d_RU_runsAtLevelOf_30 3 rfl (by rw [e_v5]; rfl) (by decide) rfl ?_
        refine g_goto C 4 d_RU_runsAtLevelOf_33 (by decide) ?_
        exact ih x2 v5 s h
      · have h := h.2 c4
        obtain ⟨v6, e_v6⟩ : ∃ y : Int32, y = x2 + 1 := ⟨_, rfl⟩
        have h := h v6 e_v6
        refine g_iinc C (v := v6) (lv2 := [(0, .ref (ad 6)), (1, .int x1), (2, .int v6), (3, .int x3)]) d_RU_runsAtLevelOf_27 2 rfl (by rw [e_v6]; rfl) (by decide) rfl ?_
        obtain ⟨v7, e_v7⟩ : ∃ y : Int32, y = x3 + 1 := ⟨_, rfl⟩
        have h := h v7 e_v7
        refine g_iinc C (v := v7) (lv2 := [(0, .ref (ad 6)), (1, .int x1), (2, .int v6), (3, .int v7)]) d_RU_runsAtLevelOf_30 3 rfl (by rw [e_v7]; rfl) (by decide) rfl ?_
        refine g_goto C 4 d_RU_runsAtLevelOf_33 (by decide) ?_
        exact ih v6 v7 s h
def wp_Runs_runsAtLevelOf (a1 : Int32) (s : gS) (Q : Int32 → gS → Prop) : Prop := ∃ n8 : Nat, wl_Runs_runsAtLevelOf_4 Q (fun v10 v11 s9 => Q v10 s9) a1 n8 0 0 s
set_option maxHeartbeats 4000000 in
set_option maxRecDepth 100000 in
theorem w_Runs_runsAtLevelOf (X : gX) (ad : Nat → Nat) (a1 : Int32) (s : gS) (Q : Int32 → gS → Prop) (h : wp_Runs_runsAtLevelOf a1 s Q) (E : gE) (C : gC X E b_RU_runsAtLevelOf 4 R_RU) (hRm : gRm E = rm_Runs_runsAtLevelOf) (r : gR X E b_RU_runsAtLevelOf (some .int) (gBi (wC ad X) Q)) : gW X E 0 0 (wC ad X s) [(0, .ref (ad 6)), (1, .int a1)] 0 [] := by
  have h : ∃ n8 : Nat, wl_Runs_runsAtLevelOf_4 Q (fun v10 v11 s9 => Q v10 s9) a1 n8 0 0 s := h
  refine g_iconst C 0 d_RU_runsAtLevelOf_0 (by decide) ?_
  refine g_istore_n C (lv2 := [(0, .ref (ad 6)), (1, .int a1), (2, .int 0)]) d_RU_runsAtLevelOf_1 rfl (by decide) rfl ?_
  refine g_iconst C 0 d_RU_runsAtLevelOf_2 (by decide) ?_
  refine g_istore_n C (lv2 := [(0, .ref (ad 6)), (1, .int a1), (2, .int 0), (3, .int 0)]) d_RU_runsAtLevelOf_3 rfl (by decide) rfl ?_
  obtain ⟨n8, h⟩ := h
  refine w_Runs_runsAtLevelOf_4 X ad Q (_) a1 E C hRm r ?_ n8 0 0 s h
  intro v10 v11 s9 h
  refine g_iload_n C d_RU_runsAtLevelOf_36 rfl 2 rfl ?_
  exact g_iret r rfl d_RU_runsAtLevelOf_37 (gBi_mk h)
theorem m_Runs_runsAtLevelOf (X : gX) (ad : Nat → Nat) (a1 : Int32) (s : gS) (Q : Int32 → gS → Prop) (h : wp_Runs_runsAtLevelOf a1 s Q) (l : Launch) : gM l X y_RU_runsAtLevelOf b_RU_runsAtLevelOf 4 (some .int) rm_Runs_runsAtLevelOf [.ref (ad 6), .int a1] (wC ad X s) (gBi (wC ad X) Q) :=
  gM_of (by decide +kernel) rfl (Nat.le_of_ble_eq_true rfl) rfl (fun E C hRm r => w_Runs_runsAtLevelOf X ad a1 s Q h E C hRm r)
def rm_Runs_crowdedAt : Room := { frames := 1, cells := 0, slots := 0, locals := 23 }
def wl_Runs_crowdedAt_4 (Q : Int32 → gS → Prop) (K : Int32 → Int32 → gS → Prop) (x1 : Int32) : Nat → Int32 → Int32 → gS → Prop
  | 0, _, _, _ => False
  | n + 1, x2, x3, s => (((s.1 9) ≤ x3 → K x2 x3 s) ∧ (¬ (s.1 9) ≤ x3 → wp_Runs_runsAtLevelOf x3 s (fun r3 s2 => ((r3 < x1 → ∀ v5 : Int32, v5 = x3 + 1 → wl_Runs_crowdedAt_4 Q K x1 n x2 v5 s2) ∧ (¬ r3 < x1 → ((x2 < 0 → ∀ v7 : Int32, v7 = x3 + 1 → wl_Runs_crowdedAt_4 Q K x1 n x3 v7 s2) ∧ (¬ x2 < 0 → vp_in x3 9 ∧ (vp_in x2 9 ∧ ((((s2.2 6 x2.toNatClampNeg) ≤ (s2.2 6 x3.toNatClampNeg) → ∀ v11 : Int32, v11 = x3 + 1 → wl_Runs_crowdedAt_4 Q K x1 n x2 v11 s2) ∧ (¬ (s2.2 6 x2.toNatClampNeg) ≤ (s2.2 6 x3.toNatClampNeg) → ∀ v12 : Int32, v12 = x3 + 1 → wl_Runs_crowdedAt_4 Q K x1 n x3 v12 s2)))))))))))
set_option maxHeartbeats 4000000 in
set_option maxRecDepth 100000 in
theorem w_Runs_crowdedAt_4 (X : gX) (ad : Nat → Nat) (Q : Int32 → gS → Prop) (K : Int32 → Int32 → gS → Prop) (x1 : Int32) (E : gE) (C : gC X E b_RU_crowdedAt 4 R_RU) (hRm : gRm E = rm_Runs_crowdedAt) (r : gR X E b_RU_crowdedAt (some .int) (gBi (wC ad X) Q)) (hK : ∀ (x2 : Int32) (x3 : Int32) (s : gS), K x2 x3 s → gW X E 0 0 (wC ad X s) [(0, .ref (ad 6)), (1, .int x1), (2, .int x2), (3, .int x3)] 48 []) : ∀ (n : Nat) (x2 : Int32) (x3 : Int32) (s : gS), wl_Runs_crowdedAt_4 Q K x1 n x2 x3 s → gW X E 0 0 (wC ad X s) [(0, .ref (ad 6)), (1, .int x1), (2, .int x2), (3, .int x3)] 4 [] := by
  intro n
  induction n with
  | zero => intro x2 x3 s h; exact False.elim h
  | succ n ih =>
    intro x2 x3 s h
    have h : (((s.1 9) ≤ x3 → K x2 x3 s) ∧ (¬ (s.1 9) ≤ x3 → wp_Runs_runsAtLevelOf x3 s (fun r3 s2 => ((r3 < x1 → ∀ v5 : Int32, v5 = x3 + 1 → wl_Runs_crowdedAt_4 Q K x1 n x2 v5 s2) ∧ (¬ r3 < x1 → ((x2 < 0 → ∀ v7 : Int32, v7 = x3 + 1 → wl_Runs_crowdedAt_4 Q K x1 n x3 v7 s2) ∧ (¬ x2 < 0 → vp_in x3 9 ∧ (vp_in x2 9 ∧ ((((s2.2 6 x2.toNatClampNeg) ≤ (s2.2 6 x3.toNatClampNeg) → ∀ v11 : Int32, v11 = x3 + 1 → wl_Runs_crowdedAt_4 Q K x1 n x2 v11 s2) ∧ (¬ (s2.2 6 x2.toNatClampNeg) ≤ (s2.2 6 x3.toNatClampNeg) → ∀ v12 : Int32, v12 = x3 + 1 → wl_Runs_crowdedAt_4 Q K x1 n x3 v12 s2))))))))))) := h
    refine g_iload_n C d_RU_crowdedAt_4 rfl 3 rfl ?_
    refine g_aload_n C d_RU_crowdedAt_5 rfl 0 rfl ?_
    refine g_get C (v := .int (s.1 9)) 6 7 iw_RU rfl rfl (by decide) (gt 183 (by decide +kernel) rfl) rfl rfl d_RU_crowdedAt_6 ?_
    refine g_icmp_ge C 48 d_RU_crowdedAt_9 (by decide) (fun c1 => ?_) (fun c1 => ?_)
    · have h := h.1 c1
      exact hK x2 x3 s h
    · have h := h.2 c1
      refine g_aload_n C d_RU_crowdedAt_12 rfl 0 rfl ?_
      refine g_iload_n C d_RU_crowdedAt_13 rfl 3 rfl ?_
      refine g_callV C (rest := []) 6 (fun l => m_Runs_runsAtLevelOf X ad x3 s _ h l) rfl rfl (gt 546 (by decide +kernel) rfl) cb_RU_runsAtLevelOf ⟨rfl, rfl⟩ (by rw [hRm]; decide) ⟨Nat.zero_le _, Nat.zero_le _⟩ rfl rfl (Nat.le_of_ble_eq_true rfl) d_RU_crowdedAt_14 (gki (fun r3 s2 h => ?_))
      refine g_iload_n C d_RU_crowdedAt_17 rfl 1 rfl ?_
      refine g_icmp_lt C 42 d_RU_crowdedAt_18 (by decide) (fun c4 => ?_) (fun c4 => ?_)
      · have h := h.1 c4
        obtain ⟨v5, e_v5⟩ : ∃ y : Int32, y = x3 + 1 := ⟨_, rfl⟩
        have h := h v5 e_v5
        refine g_iinc C (v := v5) (lv2 := [(0, .ref (ad 6)), (1, .int x1), (2, .int x2), (3, .int v5)]) d_RU_crowdedAt_42 3 rfl (by rw [e_v5]; rfl) (by decide) rfl ?_
        refine g_goto C 4 d_RU_crowdedAt_45 (by decide) ?_
        exact ih x2 v5 s2 h
      · have h := h.2 c4
        refine g_iload_n C d_RU_crowdedAt_21 rfl 2 rfl ?_
        refine g_if_lt C 40 d_RU_crowdedAt_22 (by decide) (fun c6 => ?_) (fun c6 => ?_)
        · have h := h.1 c6
          refine g_iload_n C d_RU_crowdedAt_40 rfl 3 rfl ?_
          refine g_istore_n C (lv2 := [(0, .ref (ad 6)), (1, .int x1), (2, .int x3), (3, .int x3)]) d_RU_crowdedAt_41 rfl (by decide) rfl ?_
          obtain ⟨v7, e_v7⟩ : ∃ y : Int32, y = x3 + 1 := ⟨_, rfl⟩
          have h := h v7 e_v7
          refine g_iinc C (v := v7) (lv2 := [(0, .ref (ad 6)), (1, .int x1), (2, .int x3), (3, .int v7)]) d_RU_crowdedAt_42 3 rfl (by rw [e_v7]; rfl) (by decide) rfl ?_
          refine g_goto C 4 d_RU_crowdedAt_45 (by decide) ?_
          exact ih x3 v7 s2 h
        · have h := h.2 c6
          refine g_aload_n C d_RU_crowdedAt_25 rfl 0 rfl ?_
          refine g_get C (v := .ref (ad 10)) 6 4 iw_RU rfl rfl (by decide) (gt 178 (by decide +kernel) rfl) rfl rfl d_RU_crowdedAt_26 ?_
          refine g_iload_n C d_RU_crowdedAt_29 rfl 3 rfl ?_
          obtain ⟨i8, h⟩ := h
          refine g_iald C 10 0 rfl rfl i8 d_RU_crowdedAt_30 ?_
          refine g_aload_n C d_RU_crowdedAt_31 rfl 0 rfl ?_
          refine g_get C (v := .ref (ad 10)) 6 4 iw_RU rfl rfl (by decide) (gt 178 (by decide +kernel) rfl) rfl rfl d_RU_crowdedAt_32 ?_
          refine g_iload_n C d_RU_crowdedAt_35 rfl 2 rfl ?_
          obtain ⟨i9, h⟩ := h
          refine g_iald C 10 0 rfl rfl i9 d_RU_crowdedAt_36 ?_
          refine g_icmp_ge C 42 d_RU_crowdedAt_37 (by decide) (fun c10 => ?_) (fun c10 => ?_)
          · have h := h.1 c10
            obtain ⟨v11, e_v11⟩ : ∃ y : Int32, y = x3 + 1 := ⟨_, rfl⟩
            have h := h v11 e_v11
            refine g_iinc C (v := v11) (lv2 := [(0, .ref (ad 6)), (1, .int x1), (2, .int x2), (3, .int v11)]) d_RU_crowdedAt_42 3 rfl (by rw [e_v11]; rfl) (by decide) rfl ?_
            refine g_goto C 4 d_RU_crowdedAt_45 (by decide) ?_
            exact ih x2 v11 s2 h
          · have h := h.2 c10
            refine g_iload_n C d_RU_crowdedAt_40 rfl 3 rfl ?_
            refine g_istore_n C (lv2 := [(0, .ref (ad 6)), (1, .int x1), (2, .int x3), (3, .int x3)]) d_RU_crowdedAt_41 rfl (by decide) rfl ?_
            obtain ⟨v12, e_v12⟩ : ∃ y : Int32, y = x3 + 1 := ⟨_, rfl⟩
            have h := h v12 e_v12
            refine g_iinc C (v := v12) (lv2 := [(0, .ref (ad 6)), (1, .int x1), (2, .int x3), (3, .int v12)]) d_RU_crowdedAt_42 3 rfl (by rw [e_v12]; rfl) (by decide) rfl ?_
            refine g_goto C 4 d_RU_crowdedAt_45 (by decide) ?_
            exact ih x3 v12 s2 h
def wp_Runs_crowdedAt (a1 : Int32) (s : gS) (Q : Int32 → gS → Prop) : Prop := ∃ n13 : Nat, wl_Runs_crowdedAt_4 Q (fun v15 v16 s14 => Q v15 s14) a1 n13 (-1) 0 s
set_option maxHeartbeats 4000000 in
set_option maxRecDepth 100000 in
theorem w_Runs_crowdedAt (X : gX) (ad : Nat → Nat) (a1 : Int32) (s : gS) (Q : Int32 → gS → Prop) (h : wp_Runs_crowdedAt a1 s Q) (E : gE) (C : gC X E b_RU_crowdedAt 4 R_RU) (hRm : gRm E = rm_Runs_crowdedAt) (r : gR X E b_RU_crowdedAt (some .int) (gBi (wC ad X) Q)) : gW X E 0 0 (wC ad X s) [(0, .ref (ad 6)), (1, .int a1)] 0 [] := by
  have h : ∃ n13 : Nat, wl_Runs_crowdedAt_4 Q (fun v15 v16 s14 => Q v15 s14) a1 n13 (-1) 0 s := h
  refine g_iconst C (-1) d_RU_crowdedAt_0 (by decide) ?_
  refine g_istore_n C (lv2 := [(0, .ref (ad 6)), (1, .int a1), (2, .int (-1))]) d_RU_crowdedAt_1 rfl (by decide) rfl ?_
  refine g_iconst C 0 d_RU_crowdedAt_2 (by decide) ?_
  refine g_istore_n C (lv2 := [(0, .ref (ad 6)), (1, .int a1), (2, .int (-1)), (3, .int 0)]) d_RU_crowdedAt_3 rfl (by decide) rfl ?_
  obtain ⟨n13, h⟩ := h
  refine w_Runs_crowdedAt_4 X ad Q (_) a1 E C hRm r ?_ n13 (-1) 0 s h
  intro v15 v16 s14 h
  refine g_iload_n C d_RU_crowdedAt_48 rfl 2 rfl ?_
  exact g_iret r rfl d_RU_crowdedAt_49 (gBi_mk h)
theorem m_Runs_crowdedAt (X : gX) (ad : Nat → Nat) (a1 : Int32) (s : gS) (Q : Int32 → gS → Prop) (h : wp_Runs_crowdedAt a1 s Q) (l : Launch) : gM l X y_RU_crowdedAt b_RU_crowdedAt 4 (some .int) rm_Runs_crowdedAt [.ref (ad 6), .int a1] (wC ad X s) (gBi (wC ad X) Q) :=
  gM_of (by decide +kernel) rfl (Nat.le_of_ble_eq_true rfl) rfl (fun E C hRm r => w_Runs_crowdedAt X ad a1 s Q h E C hRm r)
def rm_Runs_chooseLevel : Room := { frames := 0, cells := 0, slots := 0, locals := 0 }
def wl_Runs_chooseLevel_2 (Q : gS → Prop) (K : Int32 → gS → Prop) (x1 : Int32) : Nat → Int32 → gS → Prop
  | 0, _, _ => False
  | n + 1, x2, s => (((s.1 9) ≤ x2 → K x2 s) ∧ (¬ (s.1 9) ≤ x2 → vp_in x2 9 ∧ (((¬ (s.2 6 x2.toNatClampNeg) = x1 → vp_in x2 9 ∧ (∀ v5 : Int32, v5 = x2 + 1 → wl_Runs_chooseLevel_2 Q K x1 n v5 (s.1, ua s.2 8 (upd (s.2 8) x2.toNatClampNeg (vp_nar .boolean 0))))) ∧ ((s.2 6 x2.toNatClampNeg) = x1 → vp_in x2 9 ∧ (∀ v7 : Int32, v7 = x2 + 1 → wl_Runs_chooseLevel_2 Q K x1 n v7 (s.1, ua s.2 8 (upd (s.2 8) x2.toNatClampNeg (vp_nar .boolean 1)))))))))
set_option maxHeartbeats 4000000 in
set_option maxRecDepth 100000 in
theorem w_Runs_chooseLevel_2 (X : gX) (ad : Nat → Nat) (Q : gS → Prop) (K : Int32 → gS → Prop) (x1 : Int32) (E : gE) (C : gC X E b_RU_chooseLevel 3 R_RU) (hRm : gRm E = rm_Runs_chooseLevel) (r : gR X E b_RU_chooseLevel none (gBv (wC ad X) Q)) (hK : ∀ (x2 : Int32) (s : gS), K x2 s → gW X E 0 0 (wC ad X s) [(0, .ref (ad 6)), (1, .int x1), (2, .int x2)] 37 []) : ∀ (n : Nat) (x2 : Int32) (s : gS), wl_Runs_chooseLevel_2 Q K x1 n x2 s → gW X E 0 0 (wC ad X s) [(0, .ref (ad 6)), (1, .int x1), (2, .int x2)] 2 [] := by
  intro n
  induction n with
  | zero => intro x2 s h; exact False.elim h
  | succ n ih =>
    intro x2 s h
    have h : (((s.1 9) ≤ x2 → K x2 s) ∧ (¬ (s.1 9) ≤ x2 → vp_in x2 9 ∧ (((¬ (s.2 6 x2.toNatClampNeg) = x1 → vp_in x2 9 ∧ (∀ v5 : Int32, v5 = x2 + 1 → wl_Runs_chooseLevel_2 Q K x1 n v5 (s.1, ua s.2 8 (upd (s.2 8) x2.toNatClampNeg (vp_nar .boolean 0))))) ∧ ((s.2 6 x2.toNatClampNeg) = x1 → vp_in x2 9 ∧ (∀ v7 : Int32, v7 = x2 + 1 → wl_Runs_chooseLevel_2 Q K x1 n v7 (s.1, ua s.2 8 (upd (s.2 8) x2.toNatClampNeg (vp_nar .boolean 1))))))))) := h
    refine g_iload_n C d_RU_chooseLevel_2 rfl 2 rfl ?_
    refine g_aload_n C d_RU_chooseLevel_3 rfl 0 rfl ?_
    refine g_get C (v := .int (s.1 9)) 6 7 iw_RU rfl rfl (by decide) (gt 183 (by decide +kernel) rfl) rfl rfl d_RU_chooseLevel_4 ?_
    refine g_icmp_ge C 37 d_RU_chooseLevel_7 (by decide) (fun c1 => ?_) (fun c1 => ?_)
    · have h := h.1 c1
      exact hK x2 s h
    · have h := h.2 c1
      refine g_aload_n C d_RU_chooseLevel_10 rfl 0 rfl ?_
      refine g_get C (v := .ref (ad 12)) 6 6 iw_RU rfl rfl (by decide) (gt 182 (by decide +kernel) rfl) rfl rfl d_RU_chooseLevel_11 ?_
      refine g_iload_n C d_RU_chooseLevel_14 rfl 2 rfl ?_
      refine g_aload_n C d_RU_chooseLevel_15 rfl 0 rfl ?_
      refine g_get C (v := .ref (ad 10)) 6 4 iw_RU rfl rfl (by decide) (gt 178 (by decide +kernel) rfl) rfl rfl d_RU_chooseLevel_16 ?_
      refine g_iload_n C d_RU_chooseLevel_19 rfl 2 rfl ?_
      obtain ⟨i2, h⟩ := h
      refine g_iald C 10 0 rfl rfl i2 d_RU_chooseLevel_20 ?_
      refine g_iload_n C d_RU_chooseLevel_21 rfl 1 rfl ?_
      refine g_icmp_ne C 29 d_RU_chooseLevel_22 (by decide) (fun c3 => ?_) (fun c3 => ?_)
      · have h := h.1 c3
        refine g_iconst C 0 d_RU_chooseLevel_29 (by decide) ?_
        obtain ⟨i4, h⟩ := h
        refine g_zast C 12 1 (ws2 := wC ad X (s.1, ua s.2 8 (upd (s.2 8) x2.toNatClampNeg (vp_nar .boolean 0)))) rfl rfl i4 rfl d_RU_chooseLevel_30 ?_
        obtain ⟨v5, e_v5⟩ : ∃ y : Int32, y = x2 + 1 := ⟨_, rfl⟩
        have h := h v5 e_v5
        refine g_iinc C (v := v5) (lv2 := [(0, .ref (ad 6)), (1, .int x1), (2, .int v5)]) d_RU_chooseLevel_31 2 rfl (by rw [e_v5]; rfl) (by decide) rfl ?_
        refine g_goto C 2 d_RU_chooseLevel_34 (by decide) ?_
        exact ih v5 (s.1, ua s.2 8 (upd (s.2 8) x2.toNatClampNeg (vp_nar .boolean 0))) h
      · have h := h.2 c3
        refine g_iconst C 1 d_RU_chooseLevel_25 (by decide) ?_
        refine g_goto C 30 d_RU_chooseLevel_26 (by decide) ?_
        obtain ⟨i6, h⟩ := h
        refine g_zast C 12 1 (ws2 := wC ad X (s.1, ua s.2 8 (upd (s.2 8) x2.toNatClampNeg (vp_nar .boolean 1)))) rfl rfl i6 rfl d_RU_chooseLevel_30 ?_
        obtain ⟨v7, e_v7⟩ : ∃ y : Int32, y = x2 + 1 := ⟨_, rfl⟩
        have h := h v7 e_v7
        refine g_iinc C (v := v7) (lv2 := [(0, .ref (ad 6)), (1, .int x1), (2, .int v7)]) d_RU_chooseLevel_31 2 rfl (by rw [e_v7]; rfl) (by decide) rfl ?_
        refine g_goto C 2 d_RU_chooseLevel_34 (by decide) ?_
        exact ih v7 (s.1, ua s.2 8 (upd (s.2 8) x2.toNatClampNeg (vp_nar .boolean 1))) h
def wp_Runs_chooseLevel (a1 : Int32) (s : gS) (Q : gS → Prop) : Prop := ∃ n8 : Nat, wl_Runs_chooseLevel_2 Q (fun v10 s9 => Q s9) a1 n8 0 s
set_option maxHeartbeats 4000000 in
set_option maxRecDepth 100000 in
theorem w_Runs_chooseLevel (X : gX) (ad : Nat → Nat) (a1 : Int32) (s : gS) (Q : gS → Prop) (h : wp_Runs_chooseLevel a1 s Q) (E : gE) (C : gC X E b_RU_chooseLevel 3 R_RU) (hRm : gRm E = rm_Runs_chooseLevel) (r : gR X E b_RU_chooseLevel none (gBv (wC ad X) Q)) : gW X E 0 0 (wC ad X s) [(0, .ref (ad 6)), (1, .int a1)] 0 [] := by
  have h : ∃ n8 : Nat, wl_Runs_chooseLevel_2 Q (fun v10 s9 => Q s9) a1 n8 0 s := h
  refine g_iconst C 0 d_RU_chooseLevel_0 (by decide) ?_
  refine g_istore_n C (lv2 := [(0, .ref (ad 6)), (1, .int a1), (2, .int 0)]) d_RU_chooseLevel_1 rfl (by decide) rfl ?_
  obtain ⟨n8, h⟩ := h
  refine w_Runs_chooseLevel_2 X ad Q (_) a1 E C hRm r ?_ n8 0 s h
  intro v10 s9 h
  exact g_vret r d_RU_chooseLevel_37 (gBv_mk h)
theorem m_Runs_chooseLevel (X : gX) (ad : Nat → Nat) (a1 : Int32) (s : gS) (Q : gS → Prop) (h : wp_Runs_chooseLevel a1 s Q) (l : Launch) : gM l X y_RU_chooseLevel b_RU_chooseLevel 3 none rm_Runs_chooseLevel [.ref (ad 6), .int a1] (wC ad X s) (gBv (wC ad X) Q) :=
  gM_of (by decide +kernel) rfl (Nat.le_of_ble_eq_true rfl) rfl (fun E C hRm r => w_Runs_chooseLevel X ad a1 s Q h E C hRm r)
def rm_Runs_howMany : Room := { frames := 0, cells := 0, slots := 0, locals := 0 }
def wl_Runs_howMany_4 (Q : Int32 → gS → Prop) (K : Int32 → Int32 → gS → Prop) : Nat → Int32 → Int32 → gS → Prop
  | 0, _, _, _ => False
  | n + 1, x1, x2, s => (((s.1 9) ≤ x2 → K x1 x2 s) ∧ (¬ (s.1 9) ≤ x2 → vp_in x2 9 ∧ ((((s.2 8 x2.toNatClampNeg) = 0 → ∀ v4 : Int32, v4 = x1 + 0 → ∀ v5 : Int32, v5 = x2 + 1 → wl_Runs_howMany_4 Q K n v4 v5 s) ∧ (¬ (s.2 8 x2.toNatClampNeg) = 0 → vp_in x2 9 ∧ (∀ v7 : Int32, v7 = x1 + (s.2 5 x2.toNatClampNeg) → ∀ v8 : Int32, v8 = x2 + 1 → wl_Runs_howMany_4 Q K n v7 v8 s))))))
set_option maxHeartbeats 4000000 in
set_option maxRecDepth 100000 in
theorem w_Runs_howMany_4 (X : gX) (ad : Nat → Nat) (Q : Int32 → gS → Prop) (K : Int32 → Int32 → gS → Prop) (E : gE) (C : gC X E b_RU_howMany 3 R_RU) (hRm : gRm E = rm_Runs_howMany) (r : gR X E b_RU_howMany (some .int) (gBi (wC ad X) Q)) (hK : ∀ (x1 : Int32) (x2 : Int32) (s : gS), K x1 x2 s → gW X E 0 0 (wC ad X s) [(0, .ref (ad 6)), (1, .int x1), (2, .int x2)] 40 []) : ∀ (n : Nat) (x1 : Int32) (x2 : Int32) (s : gS), wl_Runs_howMany_4 Q K n x1 x2 s → gW X E 0 0 (wC ad X s) [(0, .ref (ad 6)), (1, .int x1), (2, .int x2)] 4 [] := by
  intro n
  induction n with
  | zero => intro x1 x2 s h; exact False.elim h
  | succ n ih =>
    intro x1 x2 s h
    have h : (((s.1 9) ≤ x2 → K x1 x2 s) ∧ (¬ (s.1 9) ≤ x2 → vp_in x2 9 ∧ ((((s.2 8 x2.toNatClampNeg) = 0 → ∀ v4 : Int32, v4 = x1 + 0 → ∀ v5 : Int32, v5 = x2 + 1 → wl_Runs_howMany_4 Q K n v4 v5 s) ∧ (¬ (s.2 8 x2.toNatClampNeg) = 0 → vp_in x2 9 ∧ (∀ v7 : Int32, v7 = x1 + (s.2 5 x2.toNatClampNeg) → ∀ v8 : Int32, v8 = x2 + 1 → wl_Runs_howMany_4 Q K n v7 v8 s)))))) := h
    refine g_iload_n C d_RU_howMany_4 rfl 2 rfl ?_
    refine g_aload_n C d_RU_howMany_5 rfl 0 rfl ?_
    refine g_get C (v := .int (s.1 9)) 6 7 iw_RU rfl rfl (by decide) (gt 183 (by decide +kernel) rfl) rfl rfl d_RU_howMany_6 ?_
    refine g_icmp_ge C 40 d_RU_howMany_9 (by decide) (fun c1 => ?_) (fun c1 => ?_)
    · have h := h.1 c1
      exact hK x1 x2 s h
    · have h := h.2 c1
      refine g_iload_n C d_RU_howMany_12 rfl 1 rfl ?_
      refine g_aload_n C d_RU_howMany_13 rfl 0 rfl ?_
      refine g_get C (v := .ref (ad 12)) 6 6 iw_RU rfl rfl (by decide) (gt 182 (by decide +kernel) rfl) rfl rfl d_RU_howMany_14 ?_
      refine g_iload_n C d_RU_howMany_17 rfl 2 rfl ?_
      obtain ⟨i2, h⟩ := h
      refine g_zald C 12 1 rfl rfl i2 d_RU_howMany_18 ?_
      refine g_if_eq C 31 d_RU_howMany_19 (by decide) (fun c3 => ?_) (fun c3 => ?_)
      · have h := h.1 c3
        refine g_iconst C 0 d_RU_howMany_31 (by decide) ?_
        refine g_iadd C d_RU_howMany_32 ?_
        refine g_topi (fun v4 e_v4 => ?_)
        have h := h v4 e_v4
        refine g_istore_n C (lv2 := [(0, .ref (ad 6)), (1, .int v4), (2, .int x2)]) d_RU_howMany_33 rfl (by decide) rfl ?_
        obtain ⟨v5, e_v5⟩ : ∃ y : Int32, y = x2 + 1 := ⟨_, rfl⟩
        have h := h v5 e_v5
        refine g_iinc C (v := v5) (lv2 := [(0, .ref (ad 6)), (1, .int v4), (2, .int v5)]) d_RU_howMany_34 2 rfl (by rw [e_v5]; rfl) (by decide) rfl ?_
        refine g_goto C 4 d_RU_howMany_37 (by decide) ?_
        exact ih v4 v5 s h
      · have h := h.2 c3
        refine g_aload_n C d_RU_howMany_22 rfl 0 rfl ?_
        refine g_get C (v := .ref (ad 9)) 6 3 iw_RU rfl rfl (by decide) (gt 175 (by decide +kernel) rfl) rfl rfl d_RU_howMany_23 ?_
        refine g_iload_n C d_RU_howMany_26 rfl 2 rfl ?_
        obtain ⟨i6, h⟩ := h
        refine g_iald C 9 0 rfl rfl i6 d_RU_howMany_27 ?_
        refine g_goto C 32 d_RU_howMany_28 (by decide) ?_
        refine g_iadd C d_RU_howMany_32 ?_
        refine g_topi (fun v7 e_v7 => ?_)
        have h := h v7 e_v7
        refine g_istore_n C (lv2 := [(0, .ref (ad 6)), (1, .int v7), (2, .int x2)]) d_RU_howMany_33 rfl (by decide) rfl ?_
        obtain ⟨v8, e_v8⟩ : ∃ y : Int32, y = x2 + 1 := ⟨_, rfl⟩
        have h := h v8 e_v8
        refine g_iinc C (v := v8) (lv2 := [(0, .ref (ad 6)), (1, .int v7), (2, .int v8)]) d_RU_howMany_34 2 rfl (by rw [e_v8]; rfl) (by decide) rfl ?_
        refine g_goto C 4 d_RU_howMany_37 (by decide) ?_
        exact ih v7 v8 s h
def wp_Runs_howMany (s : gS) (Q : Int32 → gS → Prop) : Prop := ∃ n9 : Nat, wl_Runs_howMany_4 Q (fun v11 v12 s10 => Q v11 s10)  n9 0 0 s
set_option maxHeartbeats 4000000 in
set_option maxRecDepth 100000 in
theorem w_Runs_howMany (X : gX) (ad : Nat → Nat) (s : gS) (Q : Int32 → gS → Prop) (h : wp_Runs_howMany  s Q) (E : gE) (C : gC X E b_RU_howMany 3 R_RU) (hRm : gRm E = rm_Runs_howMany) (r : gR X E b_RU_howMany (some .int) (gBi (wC ad X) Q)) : gW X E 0 0 (wC ad X s) [(0, .ref (ad 6))] 0 [] := by
  have h : ∃ n9 : Nat, wl_Runs_howMany_4 Q (fun v11 v12 s10 => Q v11 s10)  n9 0 0 s := h
  refine g_iconst C 0 d_RU_howMany_0 (by decide) ?_
  refine g_istore_n C (lv2 := [(0, .ref (ad 6)), (1, .int 0)]) d_RU_howMany_1 rfl (by decide) rfl ?_
  refine g_iconst C 0 d_RU_howMany_2 (by decide) ?_
  refine g_istore_n C (lv2 := [(0, .ref (ad 6)), (1, .int 0), (2, .int 0)]) d_RU_howMany_3 rfl (by decide) rfl ?_
  obtain ⟨n9, h⟩ := h
  refine w_Runs_howMany_4 X ad Q (_)  E C hRm r ?_ n9 0 0 s h
  intro v11 v12 s10 h
  refine g_iload_n C d_RU_howMany_40 rfl 1 rfl ?_
  exact g_iret r rfl d_RU_howMany_41 (gBi_mk h)
theorem m_Runs_howMany (X : gX) (ad : Nat → Nat) (s : gS) (Q : Int32 → gS → Prop) (h : wp_Runs_howMany  s Q) (l : Launch) : gM l X y_RU_howMany b_RU_howMany 3 (some .int) rm_Runs_howMany [.ref (ad 6)] (wC ad X s) (gBi (wC ad X) Q) :=
  gM_of (by decide +kernel) rfl (Nat.le_of_ble_eq_true rfl) rfl (fun E C hRm r => w_Runs_howMany X ad  s Q h E C hRm r)
def rm_Runs_leastAt : Room := { frames := 0, cells := 0, slots := 0, locals := 0 }
def wl_Runs_leastAt_4 (Q : Int32 → gS → Prop) (K : Int32 → Int32 → gS → Prop) (x1 : Int32) : Nat → Int32 → Int32 → gS → Prop
  | 0, _, _, _ => False
  | n + 1, x2, x3, s => (((s.1 9) ≤ x3 → K x2 x3 s) ∧ (¬ (s.1 9) ≤ x3 → vp_in x3 9 ∧ ((((s.2 5 x3.toNatClampNeg) ≤ 0 → ∀ v4 : Int32, v4 = x3 + 1 → wl_Runs_leastAt_4 Q K x1 n x2 v4 s) ∧ (¬ (s.2 5 x3.toNatClampNeg) ≤ 0 → vp_in x3 9 ∧ (((¬ (s.2 8 x3.toNatClampNeg) = 0 → ((x2 < 0 → ∀ v8 : Int32, v8 = x3 + 1 → wl_Runs_leastAt_4 Q K x1 n x3 v8 s) ∧ (¬ x2 < 0 → vp_in x3 9 ∧ (vp_in x2 9 ∧ ((((s.2 7 x2.toNatClampNeg) ≤ (s.2 7 x3.toNatClampNeg) → ∀ v12 : Int32, v12 = x3 + 1 → wl_Runs_leastAt_4 Q K x1 n x2 v12 s) ∧ (¬ (s.2 7 x2.toNatClampNeg) ≤ (s.2 7 x3.toNatClampNeg) → ∀ v13 : Int32, v13 = x3 + 1 → wl_Runs_leastAt_4 Q K x1 n x3 v13 s))))))) ∧ ((s.2 8 x3.toNatClampNeg) = 0 → ((¬ x1 = 0 → ∀ v15 : Int32, v15 = x3 + 1 → wl_Runs_leastAt_4 Q K x1 n x2 v15 s) ∧ (x1 = 0 → ((x2 < 0 → ∀ v17 : Int32, v17 = x3 + 1 → wl_Runs_leastAt_4 Q K x1 n x3 v17 s) ∧ (¬ x2 < 0 → vp_in x3 9 ∧ (vp_in x2 9 ∧ ((((s.2 7 x2.toNatClampNeg) ≤ (s.2 7 x3.toNatClampNeg) → ∀ v21 : Int32, v21 = x3 + 1 → wl_Runs_leastAt_4 Q K x1 n x2 v21 s) ∧ (¬ (s.2 7 x2.toNatClampNeg) ≤ (s.2 7 x3.toNatClampNeg) → ∀ v22 : Int32, v22 = x3 + 1 → wl_Runs_leastAt_4 Q K x1 n x3 v22 s))))))))))))))))
set_option maxHeartbeats 4000000 in
set_option maxRecDepth 100000 in
theorem w_Runs_leastAt_4 (X : gX) (ad : Nat → Nat) (Q : Int32 → gS → Prop) (K : Int32 → Int32 → gS → Prop) (x1 : Int32) (E : gE) (C : gC X E b_RU_leastAt 5 R_RU) (hRm : gRm E = rm_Runs_leastAt) (r : gR X E b_RU_leastAt (some .int) (gBi (wC ad X) Q)) (hK : ∀ (x2 : Int32) (x3 : Int32) (s : gS), K x2 x3 s → gW X E 0 0 (wC ad X s) [(0, .ref (ad 6)), (1, .int x1), (2, .int x2), (3, .int x3)] 73 []) : ∀ (n : Nat) (x2 : Int32) (x3 : Int32) (s : gS), wl_Runs_leastAt_4 Q K x1 n x2 x3 s → gW X E 0 0 (wC ad X s) [(0, .ref (ad 6)), (1, .int x1), (2, .int x2), (3, .int x3)] 4 [] := by
  intro n
  induction n with
  | zero => intro x2 x3 s h; exact False.elim h
  | succ n ih =>
    intro x2 x3 s h
    have h : (((s.1 9) ≤ x3 → K x2 x3 s) ∧ (¬ (s.1 9) ≤ x3 → vp_in x3 9 ∧ ((((s.2 5 x3.toNatClampNeg) ≤ 0 → ∀ v4 : Int32, v4 = x3 + 1 → wl_Runs_leastAt_4 Q K x1 n x2 v4 s) ∧ (¬ (s.2 5 x3.toNatClampNeg) ≤ 0 → vp_in x3 9 ∧ (((¬ (s.2 8 x3.toNatClampNeg) = 0 → ((x2 < 0 → ∀ v8 : Int32, v8 = x3 + 1 → wl_Runs_leastAt_4 Q K x1 n x3 v8 s) ∧ (¬ x2 < 0 → vp_in x3 9 ∧ (vp_in x2 9 ∧ ((((s.2 7 x2.toNatClampNeg) ≤ (s.2 7 x3.toNatClampNeg) → ∀ v12 : Int32, v12 = x3 + 1 → wl_Runs_leastAt_4 Q K x1 n x2 v12 s) ∧ (¬ (s.2 7 x2.toNatClampNeg) ≤ (s.2 7 x3.toNatClampNeg) → ∀ v13 : Int32, v13 = x3 + 1 → wl_Runs_leastAt_4 Q K x1 n x3 v13 s))))))) ∧ ((s.2 8 x3.toNatClampNeg) = 0 → ((¬ x1 = 0 → ∀ v15 : Int32, v15 = x3 + 1 → wl_Runs_leastAt_4 Q K x1 n x2 v15 s) ∧ (x1 = 0 → ((x2 < 0 → ∀ v17 : Int32, v17 = x3 + 1 → wl_Runs_leastAt_4 Q K x1 n x3 v17 s) ∧ (¬ x2 < 0 → vp_in x3 9 ∧ (vp_in x2 9 ∧ ((((s.2 7 x2.toNatClampNeg) ≤ (s.2 7 x3.toNatClampNeg) → ∀ v21 : Int32, v21 = x3 + 1 → wl_Runs_leastAt_4 Q K x1 n x2 v21 s) ∧ (¬ (s.2 7 x2.toNatClampNeg) ≤ (s.2 7 x3.toNatClampNeg) → ∀ v22 : Int32, v22 = x3 + 1 → wl_Runs_leastAt_4 Q K x1 n x3 v22 s)))))))))))))))) := h
    refine g_iload_n C d_RU_leastAt_4 rfl 3 rfl ?_
    refine g_aload_n C d_RU_leastAt_5 rfl 0 rfl ?_
    refine g_get C (v := .int (s.1 9)) 6 7 iw_RU rfl rfl (by decide) (gt 183 (by decide +kernel) rfl) rfl rfl d_RU_leastAt_6 ?_
    refine g_icmp_ge C 73 d_RU_leastAt_9 (by decide) (fun c1 => ?_) (fun c1 => ?_)
    · have h := h.1 c1
      exact hK x2 x3 s h
    · have h := h.2 c1
      refine g_aload_n C d_RU_leastAt_12 rfl 0 rfl ?_
      refine g_get C (v := .ref (ad 9)) 6 3 iw_RU rfl rfl (by decide) (gt 175 (by decide +kernel) rfl) rfl rfl d_RU_leastAt_13 ?_
      refine g_iload_n C d_RU_leastAt_16 rfl 3 rfl ?_
      obtain ⟨i2, h⟩ := h
      refine g_iald C 9 0 rfl rfl i2 d_RU_leastAt_17 ?_
      refine g_if_le C 38 d_RU_leastAt_18 (by decide) (fun c3 => ?_) (fun c3 => ?_)
      · have h := h.1 c3
        refine g_iconst C 0 d_RU_leastAt_38 (by decide) ?_
        refine g_istore C (lv2 := [(0, .ref (ad 6)), (1, .int x1), (2, .int x2), (3, .int x3), (4, .int 0)]) d_RU_leastAt_39 (by decide) rfl ?_
        refine g_iload C d_RU_leastAt_41 4 rfl ?_
        refine g_if_eq C 67 d_RU_leastAt_43 (by decide) (fun _ => ?_) (fun c9 => absurd c9 (by decide))
        obtain ⟨v4, e_v4⟩ : ∃ y : Int32, y = x3 + 1 := ⟨_, rfl⟩
        have h := h v4 e_v4
        refine g_iinc C (v := v4) (lv2 := [(0, .ref (ad 6)), (1, .int x1), (2, .int x2), (3, .int v4), (4, .int 0)]) d_RU_leastAt_67 3 rfl (by rw [e_v4]; rfl) (by decide) rfl ?_
        refine g_goto C 4 d_RU_leastAt_70 (by decide) ?_
        refine g_lv C [0, 1, 2, 3] rfl ?_
        exact ih x2 v4 s h
      · have h := h.2 c3
        refine g_aload_n C d_RU_leastAt_21 rfl 0 rfl ?_
        refine g_get C (v := .ref (ad 12)) 6 6 iw_RU rfl rfl (by decide) (gt 182 (by decide +kernel) rfl) rfl rfl d_RU_leastAt_22 ?_
        refine g_iload_n C d_RU_leastAt_25 rfl 3 rfl ?_
        obtain ⟨i5, h⟩ := h
        refine g_zald C 12 1 rfl rfl i5 d_RU_leastAt_26 ?_
        refine g_if_ne C 34 d_RU_leastAt_27 (by decide) (fun c6 => ?_) (fun c6 => ?_)
        · have h := h.1 c6
          refine g_iconst C 1 d_RU_leastAt_34 (by decide) ?_
          refine g_goto C 39 d_RU_leastAt_35 (by decide) ?_
          refine g_istore C (lv2 := [(0, .ref (ad 6)), (1, .int x1), (2, .int x2), (3, .int x3), (4, .int 1)]) d_RU_leastAt_39 (by decide) rfl ?_
          refine g_iload C d_RU_leastAt_41 4 rfl ?_
          refine g_if_eq C 67 d_RU_leastAt_43 (by decide) (fun c9 => absurd c9 (by decide)) (fun _ => ?_)
          refine g_iload_n C d_RU_leastAt_46 rfl 2 rfl ?_
          refine g_if_lt C 65 d_RU_leastAt_47 (by decide) (fun c7 => ?_) (fun c7 => ?_)
          · have h := h.1 c7
            refine g_iload_n C d_RU_leastAt_65 rfl 3 rfl ?_
            refine g_istore_n C (lv2 := [(0, .ref (ad 6)), (1, .int x1), (2, .int x3), (3, .int x3), (4, .int 1)]) d_RU_leastAt_66 rfl (by decide) rfl ?_
            obtain ⟨v8, e_v8⟩ : ∃ y : Int32, y = x3 + 1 := ⟨_, rfl⟩
            have h := h v8 e_v8
            refine g_iinc C (v := v8) (lv2 := [(0, .ref (ad 6)), (1, .int x1), (2, .int x3), (3, .int v8), (4, .int 1)]) d_RU_leastAt_67 3 rfl (by rw [e_v8]; rfl) (by decide) rfl ?_
            refine g_goto C 4 d_RU_leastAt_70 (by decide) ?_
            refine g_lv C [0, 1, 2, 3] rfl ?_
            exact ih x3 v8 s h
          · have h := h.2 c7
            refine g_aload_n C d_RU_leastAt_50 rfl 0 rfl ?_
            refine g_get C (v := .ref (ad 11)) 6 5 iw_RU rfl rfl (by decide) (gt 181 (by decide +kernel) rfl) rfl rfl d_RU_leastAt_51 ?_
            refine g_iload_n C d_RU_leastAt_54 rfl 3 rfl ?_
            obtain ⟨i9, h⟩ := h
            refine g_iald C 11 0 rfl rfl i9 d_RU_leastAt_55 ?_
            refine g_aload_n C d_RU_leastAt_56 rfl 0 rfl ?_
            refine g_get C (v := .ref (ad 11)) 6 5 iw_RU rfl rfl (by decide) (gt 181 (by decide +kernel) rfl) rfl rfl d_RU_leastAt_57 ?_
            refine g_iload_n C d_RU_leastAt_60 rfl 2 rfl ?_
            obtain ⟨i10, h⟩ := h
            refine g_iald C 11 0 rfl rfl i10 d_RU_leastAt_61 ?_
            refine g_icmp_ge C 67 d_RU_leastAt_62 (by decide) (fun c11 => ?_) (fun c11 => ?_)
            · have h := h.1 c11
              obtain ⟨v12, e_v12⟩ : ∃ y : Int32, y = x3 + 1 := ⟨_, rfl⟩
              have h := h v12 e_v12
              refine g_iinc C (v := v12) (lv2 := [(0, .ref (ad 6)), (1, .int x1), (2, .int x2), (3, .int v12), (4, .int 1)]) d_RU_leastAt_67 3 rfl (by rw [e_v12]; rfl) (by decide) rfl ?_
              refine g_goto C 4 d_RU_leastAt_70 (by decide) ?_
              refine g_lv C [0, 1, 2, 3] rfl ?_
              exact ih x2 v12 s h
            · have h := h.2 c11
              refine g_iload_n C d_RU_leastAt_65 rfl 3 rfl ?_
              refine g_istore_n C (lv2 := [(0, .ref (ad 6)), (1, .int x1), (2, .int x3), (3, .int x3), (4, .int 1)]) d_RU_leastAt_66 rfl (by decide) rfl ?_
              obtain ⟨v13, e_v13⟩ : ∃ y : Int32, y = x3 + 1 := ⟨_, rfl⟩
              have h := h v13 e_v13
              refine g_iinc C (v := v13) (lv2 := [(0, .ref (ad 6)), (1, .int x1), (2, .int x3), (3, .int v13), (4, .int 1)]) d_RU_leastAt_67 3 rfl (by rw [e_v13]; rfl) (by decide) rfl ?_
              refine g_goto C 4 d_RU_leastAt_70 (by decide) ?_
              refine g_lv C [0, 1, 2, 3] rfl ?_
              exact ih x3 v13 s h
        · have h := h.2 c6
          refine g_iload_n C d_RU_leastAt_30 rfl 1 rfl ?_
          refine g_if_ne C 38 d_RU_leastAt_31 (by decide) (fun c14 => ?_) (fun c14 => ?_)
          · have h := h.1 c14
            refine g_iconst C 0 d_RU_leastAt_38 (by decide) ?_
            refine g_istore C (lv2 := [(0, .ref (ad 6)), (1, .int x1), (2, .int x2), (3, .int x3), (4, .int 0)]) d_RU_leastAt_39 (by decide) rfl ?_
            refine g_iload C d_RU_leastAt_41 4 rfl ?_
            refine g_if_eq C 67 d_RU_leastAt_43 (by decide) (fun _ => ?_) (fun c9 => absurd c9 (by decide))
            obtain ⟨v15, e_v15⟩ : ∃ y : Int32, y = x3 + 1 := ⟨_, rfl⟩
            have h := h v15 e_v15
            refine g_iinc C (v := v15) (lv2 := [(0, .ref (ad 6)), (1, .int x1), (2, .int x2), (3, .int v15), (4, .int 0)]) d_RU_leastAt_67 3 rfl (by rw [e_v15]; rfl) (by decide) rfl ?_
            refine g_goto C 4 d_RU_leastAt_70 (by decide) ?_
            refine g_lv C [0, 1, 2, 3] rfl ?_
            exact ih x2 v15 s h
          · have h := h.2 c14
            refine g_iconst C 1 d_RU_leastAt_34 (by decide) ?_
            refine g_goto C 39 d_RU_leastAt_35 (by decide) ?_
            refine g_istore C (lv2 := [(0, .ref (ad 6)), (1, .int x1), (2, .int x2), (3, .int x3), (4, .int 1)]) d_RU_leastAt_39 (by decide) rfl ?_
            refine g_iload C d_RU_leastAt_41 4 rfl ?_
            refine g_if_eq C 67 d_RU_leastAt_43 (by decide) (fun c9 => absurd c9 (by decide)) (fun _ => ?_)
            refine g_iload_n C d_RU_leastAt_46 rfl 2 rfl ?_
            refine g_if_lt C 65 d_RU_leastAt_47 (by decide) (fun c16 => ?_) (fun c16 => ?_)
            · have h := h.1 c16
              refine g_iload_n C d_RU_leastAt_65 rfl 3 rfl ?_
              refine g_istore_n C (lv2 := [(0, .ref (ad 6)), (1, .int x1), (2, .int x3), (3, .int x3), (4, .int 1)]) d_RU_leastAt_66 rfl (by decide) rfl ?_
              obtain ⟨v17, e_v17⟩ : ∃ y : Int32, y = x3 + 1 := ⟨_, rfl⟩
              have h := h v17 e_v17
              refine g_iinc C (v := v17) (lv2 := [(0, .ref (ad 6)), (1, .int x1), (2, .int x3), (3, .int v17), (4, .int 1)]) d_RU_leastAt_67 3 rfl (by rw [e_v17]; rfl) (by decide) rfl ?_
              refine g_goto C 4 d_RU_leastAt_70 (by decide) ?_
              refine g_lv C [0, 1, 2, 3] rfl ?_
              exact ih x3 v17 s h
            · have h := h.2 c16
              refine g_aload_n C d_RU_leastAt_50 rfl 0 rfl ?_
              refine g_get C (v := .ref (ad 11)) 6 5 iw_RU rfl rfl (by decide) (gt 181 (by decide +kernel) rfl) rfl rfl d_RU_leastAt_51 ?_
              refine g_iload_n C d_RU_leastAt_54 rfl 3 rfl ?_
              obtain ⟨i18, h⟩ := h
              refine g_iald C 11 0 rfl rfl i18 d_RU_leastAt_55 ?_
              refine g_aload_n C d_RU_leastAt_56 rfl 0 rfl ?_
              refine g_get C (v := .ref (ad 11)) 6 5 iw_RU rfl rfl (by decide) (gt 181 (by decide +kernel) rfl) rfl rfl d_RU_leastAt_57 ?_
              refine g_iload_n C d_RU_leastAt_60 rfl 2 rfl ?_
              obtain ⟨i19, h⟩ := h
              refine g_iald C 11 0 rfl rfl i19 d_RU_leastAt_61 ?_
              refine g_icmp_ge C 67 d_RU_leastAt_62 (by decide) (fun c20 => ?_) (fun c20 => ?_)
              · have h := h.1 c20
                obtain ⟨v21, e_v21⟩ : ∃ y : Int32, y = x3 + 1 := ⟨_, rfl⟩
                have h := h v21 e_v21
                refine g_iinc C (v := v21) (lv2 := [(0, .ref (ad 6)), (1, .int x1), (2, .int x2), (3, .int v21), (4, .int 1)]) d_RU_leastAt_67 3 rfl (by rw [e_v21]; rfl) (by decide) rfl ?_
                refine g_goto C 4 d_RU_leastAt_70 (by decide) ?_
                refine g_lv C [0, 1, 2, 3] rfl ?_
                exact ih x2 v21 s h
              · have h := h.2 c20
                refine g_iload_n C d_RU_leastAt_65 rfl 3 rfl ?_
                refine g_istore_n C (lv2 := [(0, .ref (ad 6)), (1, .int x1), (2, .int x3), (3, .int x3), (4, .int 1)]) d_RU_leastAt_66 rfl (by decide) rfl ?_
                obtain ⟨v22, e_v22⟩ : ∃ y : Int32, y = x3 + 1 := ⟨_, rfl⟩
                have h := h v22 e_v22
                refine g_iinc C (v := v22) (lv2 := [(0, .ref (ad 6)), (1, .int x1), (2, .int x3), (3, .int v22), (4, .int 1)]) d_RU_leastAt_67 3 rfl (by rw [e_v22]; rfl) (by decide) rfl ?_
                refine g_goto C 4 d_RU_leastAt_70 (by decide) ?_
                refine g_lv C [0, 1, 2, 3] rfl ?_
                exact ih x3 v22 s h
def wp_Runs_leastAt (a1 : Int32) (s : gS) (Q : Int32 → gS → Prop) : Prop := ∃ n23 : Nat, wl_Runs_leastAt_4 Q (fun v25 v26 s24 => Q v25 s24) a1 n23 (-1) 0 s
set_option maxHeartbeats 4000000 in
set_option maxRecDepth 100000 in
theorem w_Runs_leastAt (X : gX) (ad : Nat → Nat) (a1 : Int32) (s : gS) (Q : Int32 → gS → Prop) (h : wp_Runs_leastAt a1 s Q) (E : gE) (C : gC X E b_RU_leastAt 5 R_RU) (hRm : gRm E = rm_Runs_leastAt) (r : gR X E b_RU_leastAt (some .int) (gBi (wC ad X) Q)) : gW X E 0 0 (wC ad X s) [(0, .ref (ad 6)), (1, .int a1)] 0 [] := by
  have h : ∃ n23 : Nat, wl_Runs_leastAt_4 Q (fun v25 v26 s24 => Q v25 s24) a1 n23 (-1) 0 s := h
  refine g_iconst C (-1) d_RU_leastAt_0 (by decide) ?_
  refine g_istore_n C (lv2 := [(0, .ref (ad 6)), (1, .int a1), (2, .int (-1))]) d_RU_leastAt_1 rfl (by decide) rfl ?_
  refine g_iconst C 0 d_RU_leastAt_2 (by decide) ?_
  refine g_istore_n C (lv2 := [(0, .ref (ad 6)), (1, .int a1), (2, .int (-1)), (3, .int 0)]) d_RU_leastAt_3 rfl (by decide) rfl ?_
  obtain ⟨n23, h⟩ := h
  refine w_Runs_leastAt_4 X ad Q (_) a1 E C hRm r ?_ n23 (-1) 0 s h
  intro v25 v26 s24 h
  refine g_iload_n C d_RU_leastAt_73 rfl 2 rfl ?_
  exact g_iret r rfl d_RU_leastAt_74 (gBi_mk h)
theorem m_Runs_leastAt (X : gX) (ad : Nat → Nat) (a1 : Int32) (s : gS) (Q : Int32 → gS → Prop) (h : wp_Runs_leastAt a1 s Q) (l : Launch) : gM l X y_RU_leastAt b_RU_leastAt 5 (some .int) rm_Runs_leastAt [.ref (ad 6), .int a1] (wC ad X s) (gBi (wC ad X) Q) :=
  gM_of (by decide +kernel) rfl (Nat.le_of_ble_eq_true rfl) rfl (fun E C hRm r => w_Runs_leastAt X ad a1 s Q h E C hRm r)
def rm_Runs_has : Room := { frames := 0, cells := 0, slots := 0, locals := 0 }
def wp_Runs_has (a1 : Int32) (s : gS) (Q : Int32 → gS → Prop) : Prop := ((a1 < 0 → Q 0 s) ∧ (¬ a1 < 0 → (((s.1 9) ≤ a1 → Q 0 s) ∧ (¬ (s.1 9) ≤ a1 → Q 1 s))))
set_option maxHeartbeats 4000000 in
set_option maxRecDepth 100000 in
theorem w_Runs_has (X : gX) (ad : Nat → Nat) (a1 : Int32) (s : gS) (Q : Int32 → gS → Prop) (h : wp_Runs_has a1 s Q) (E : gE) (C : gC X E b_RU_has 2 R_RU) (hRm : gRm E = rm_Runs_has) (r : gR X E b_RU_has (some .boolean) (gBi (wC ad X) Q)) : gW X E 0 0 (wC ad X s) [(0, .ref (ad 6)), (1, .int a1)] 0 [] := by
  have h : ((a1 < 0 → Q 0 s) ∧ (¬ a1 < 0 → (((s.1 9) ≤ a1 → Q 0 s) ∧ (¬ (s.1 9) ≤ a1 → Q 1 s)))) := h
  refine g_iload_n C d_RU_has_0 rfl 1 rfl ?_
  refine g_if_lt C 16 d_RU_has_1 (by decide) (fun c1 => ?_) (fun c1 => ?_)
  · have h := h.1 c1
    refine g_iconst C 0 d_RU_has_16 (by decide) ?_
    exact g_iret r rfl d_RU_has_17 (gBi_mk h)
  · have h := h.2 c1
    refine g_iload_n C d_RU_has_4 rfl 1 rfl ?_
    refine g_aload_n C d_RU_has_5 rfl 0 rfl ?_
    refine g_get C (v := .int (s.1 9)) 6 7 iw_RU rfl rfl (by decide) (gt 183 (by decide +kernel) rfl) rfl rfl d_RU_has_6 ?_
    refine g_icmp_ge C 16 d_RU_has_9 (by decide) (fun c2 => ?_) (fun c2 => ?_)
    · have h := h.1 c2
      refine g_iconst C 0 d_RU_has_16 (by decide) ?_
      exact g_iret r rfl d_RU_has_17 (gBi_mk h)
    · have h := h.2 c2
      refine g_iconst C 1 d_RU_has_12 (by decide) ?_
      refine g_goto C 17 d_RU_has_13 (by decide) ?_
      exact g_iret r rfl d_RU_has_17 (gBi_mk h)
theorem m_Runs_has (X : gX) (ad : Nat → Nat) (a1 : Int32) (s : gS) (Q : Int32 → gS → Prop) (h : wp_Runs_has a1 s Q) (l : Launch) : gM l X y_RU_has b_RU_has 2 (some .boolean) rm_Runs_has [.ref (ad 6), .int a1] (wC ad X s) (gBi (wC ad X) Q) :=
  gM_of (by decide +kernel) rfl (Nat.le_of_ble_eq_true rfl) rfl (fun E C hRm r => w_Runs_has X ad a1 s Q h E C hRm r)
end
section
def rm_Runs_takeFrom : Room := { frames := 1, cells := 0, slots := 0, locals := 22 }
def wp_Runs_takeFrom (a1 : Int32) (s : gS) (Q : Int32 → gS → Prop) : Prop := wp_Runs_has a1 s (fun r2 s1 => ((¬ r2 = 0 → vp_in a1 9 ∧ (∀ v5 : Int32, v5 = s1.2 7 a1.toNatClampNeg → vp_in a1 9 ∧ (∀ v7 : Int32, v7 = (s1.2 4 a1.toNatClampNeg) + 1 → vp_in a1 9 ∧ (vp_in a1 9 ∧ (∀ v10 : Int32, v10 = (s1.2 5 a1.toNatClampNeg) - 1 → vp_in a1 9 ∧ (vp_in a1 9 ∧ (((((upd (s1.2 5) a1.toNatClampNeg v10) a1.toNatClampNeg) ≤ 0 → vp_in a1 9 ∧ (vp_in a1 9 ∧ (wp_Disk_get (s1.2 3 a1.toNatClampNeg) (2 + ((upd (s1.2 4) a1.toNatClampNeg v7) a1.toNatClampNeg)) (s1.1, ua (ua s1.2 4 (upd (s1.2 4) a1.toNatClampNeg v7)) 5 (upd (s1.2 5) a1.toNatClampNeg v10)) (fun r17 s16 => vp_in a1 9 ∧ (Q v5 (s16.1, ua s16.2 7 (upd (s16.2 7) a1.toNatClampNeg r17))))))) ∧ (¬ ((upd (s1.2 5) a1.toNatClampNeg v10) a1.toNatClampNeg) ≤ 0 → vp_in a1 9 ∧ (wp_Disk_keysPerBlock (s1.1, ua (ua s1.2 4 (upd (s1.2 4) a1.toNatClampNeg v7)) 5 (upd (s1.2 5) a1.toNatClampNeg v10)) (fun r21 s20 => ((((upd (s1.2 4) a1.toNatClampNeg v7) a1.toNatClampNeg) < r21 → vp_in a1 9 ∧ (vp_in a1 9 ∧ (wp_Disk_get (s20.2 3 a1.toNatClampNeg) (2 + (s20.2 4 a1.toNatClampNeg)) s20 (fun r26 s25 => vp_in a1 9 ∧ (Q v5 (s25.1, ua s25.2 7 (upd (s25.2 7) a1.toNatClampNeg r26))))))) ∧ (¬ ((upd (s1.2 4) a1.toNatClampNeg v7) a1.toNatClampNeg) < r21 → vp_in a1 9 ∧ (wp_Disk_get (s20.2 3 a1.toNatClampNeg) 1 s20 (fun r30 s29 => vp_in a1 9 ∧ (vp_in a1 9 ∧ (vp_in a1 9 ∧ (vp_in a1 9 ∧ (wp_Disk_get ((upd (s29.2 3) a1.toNatClampNeg r30) a1.toNatClampNeg) (2 + ((upd (s29.2 4) a1.toNatClampNeg 0) a1.toNatClampNeg)) (s29.1, ua (ua s29.2 3 (upd (s29.2 3) a1.toNatClampNeg r30)) 4 (upd (s29.2 4) a1.toNatClampNeg 0)) (fun r36 s35 => vp_in a1 9 ∧ (Q v5 (s35.1, ua s35.2 7 (upd (s35.2 7) a1.toNatClampNeg r36))))))))))))))))))))))) ∧ (r2 = 0 → Q (-1) s1)))
set_option maxHeartbeats 4000000 in
set_option maxRecDepth 100000 in
theorem w_Runs_takeFrom (X : gX) (ad : Nat → Nat) (a1 : Int32) (s : gS) (Q : Int32 → gS → Prop) (h : wp_Runs_takeFrom a1 s Q) (E : gE) (C : gC X E b_RU_takeFrom 3 R_RU) (hRm : gRm E = rm_Runs_takeFrom) (r : gR X E b_RU_takeFrom (some .int) (gBi (wC ad X) Q)) : gW X E 0 0 (wC ad X s) [(0, .ref (ad 6)), (1, .int a1)] 0 [] := by
  have h : wp_Runs_has a1 s (fun r2 s1 => ((¬ r2 = 0 → vp_in a1 9 ∧ (∀ v5 : Int32, v5 = s1.2 7 a1.toNatClampNeg → vp_in a1 9 ∧ (∀ v7 : Int32, v7 = (s1.2 4 a1.toNatClampNeg) + 1 → vp_in a1 9 ∧ (vp_in a1 9 ∧ (∀ v10 : Int32, v10 = (s1.2 5 a1.toNatClampNeg) - 1 → vp_in a1 9 ∧ (vp_in a1 9 ∧ (((((upd (s1.2 5) a1.toNatClampNeg v10) a1.toNatClampNeg) ≤ 0 → vp_in a1 9 ∧ (vp_in a1 9 ∧ (wp_Disk_get (s1.2 3 a1.toNatClampNeg) (2 + ((upd (s1.2 4) a1.toNatClampNeg v7) a1.toNatClampNeg)) (s1.1, ua (ua s1.2 4 (upd (s1.2 4) a1.toNatClampNeg v7)) 5 (upd (s1.2 5) a1.toNatClampNeg v10)) (fun r17 s16 => vp_in a1 9 ∧ (Q v5 (s16.1, ua s16.2 7 (upd (s16.2 7) a1.toNatClampNeg r17))))))) ∧ (¬ ((upd (s1.2 5) a1.toNatClampNeg v10) a1.toNatClampNeg) ≤ 0 → vp_in a1 9 ∧ (wp_Disk_keysPerBlock (s1.1, ua (ua s1.2 4 (upd (s1.2 4) a1.toNatClampNeg v7)) 5 (upd (s1.2 5) a1.toNatClampNeg v10)) (fun r21 s20 => ((((upd (s1.2 4) a1.toNatClampNeg v7) a1.toNatClampNeg) < r21 → vp_in a1 9 ∧ (vp_in a1 9 ∧ (wp_Disk_get (s20.2 3 a1.toNatClampNeg) (2 + (s20.2 4 a1.toNatClampNeg)) s20 (fun r26 s25 => vp_in a1 9 ∧ (Q v5 (s25.1, ua s25.2 7 (upd (s25.2 7) a1.toNatClampNeg r26))))))) ∧ (¬ ((upd (s1.2 4) a1.toNatClampNeg v7) a1.toNatClampNeg) < r21 → vp_in a1 9 ∧ (wp_Disk_get (s20.2 3 a1.toNatClampNeg) 1 s20 (fun r30 s29 => vp_in a1 9 ∧ (vp_in a1 9 ∧ (vp_in a1 9 ∧ (vp_in a1 9 ∧ (wp_Disk_get ((upd (s29.2 3) a1.toNatClampNeg r30) a1.toNatClampNeg) (2 + ((upd (s29.2 4) a1.toNatClampNeg 0) a1.toNatClampNeg)) (s29.1, ua (ua s29.2 3 (upd (s29.2 3) a1.toNatClampNeg r30)) 4 (upd (s29.2 4) a1.toNatClampNeg 0)) (fun r36 s35 => vp_in a1 9 ∧ (Q v5 (s35.1, ua s35.2 7 (upd (s35.2 7) a1.toNatClampNeg r36))))))))))))))))))))))) ∧ (r2 = 0 → Q (-1) s1))) := h
  refine g_aload_n C d_RU_takeFrom_0 rfl 0 rfl ?_
  refine g_iload_n C d_RU_takeFrom_1 rfl 1 rfl ?_
  refine g_callV C (rest := []) 6 (fun l => m_Runs_has X ad a1 s _ h l) rfl rfl (gt 524 (by decide +kernel) rfl) cb_RU_has ⟨rfl, rfl⟩ (by rw [hRm]; decide) ⟨Nat.zero_le _, Nat.zero_le _⟩ rfl rfl (Nat.le_of_ble_eq_true rfl) d_RU_takeFrom_2 (gki (fun r2 s1 h => ?_))
  refine g_if_ne C 10 d_RU_takeFrom_5 (by decide) (fun c3 => ?_) (fun c3 => ?_)
  · have h := h.1 c3
    refine g_aload_n C d_RU_takeFrom_10 rfl 0 rfl ?_
    refine g_get C (v := .ref (ad 11)) 6 5 iw_RU rfl rfl (by decide) (gt 181 (by decide +kernel) rfl) rfl rfl d_RU_takeFrom_11 ?_
    refine g_iload_n C d_RU_takeFrom_14 rfl 1 rfl ?_
    obtain ⟨i4, h⟩ := h
    refine g_iald C 11 0 rfl rfl i4 d_RU_takeFrom_15 ?_
    refine g_topi (fun v5 e_v5 => ?_)
    have h := h v5 e_v5
    refine g_istore_n C (lv2 := [(0, .ref (ad 6)), (1, .int a1), (2, .int v5)]) d_RU_takeFrom_16 rfl (by decide) rfl ?_
    refine g_aload_n C d_RU_takeFrom_17 rfl 0 rfl ?_
    refine g_get C (v := .ref (ad 8)) 6 2 iw_RU rfl rfl (by decide) (gt 172 (by decide +kernel) rfl) rfl rfl d_RU_takeFrom_18 ?_
    refine g_iload_n C d_RU_takeFrom_21 rfl 1 rfl ?_
    refine g_dup2 C rfl rfl d_RU_takeFrom_22 ?_
    obtain ⟨i6, h⟩ := h
    refine g_iald C 8 0 rfl rfl i6 d_RU_takeFrom_23 ?_
    refine g_iconst C 1 d_RU_takeFrom_24 (by decide) ?_
    refine g_iadd C d_RU_takeFrom_25 ?_
    refine g_topi (fun v7 e_v7 => ?_)
    have h := h v7 e_v7
    obtain ⟨i8, h⟩ := h
    refine g_iast C 8 0 (ws2 := wC ad X (s1.1, ua s1.2 4 (upd (s1.2 4) a1.toNatClampNeg v7))) rfl rfl i8 rfl d_RU_takeFrom_26 ?_
    refine g_aload_n C d_RU_takeFrom_27 rfl 0 rfl ?_
    refine g_get C (v := .ref (ad 9)) 6 3 iw_RU rfl rfl (by decide) (gt 175 (by decide +kernel) rfl) rfl rfl d_RU_takeFrom_28 ?_
    refine g_iload_n C d_RU_takeFrom_31 rfl 1 rfl ?_
    refine g_dup2 C rfl rfl d_RU_takeFrom_32 ?_
    obtain ⟨i9, h⟩ := h
    refine g_iald C 9 0 rfl rfl i9 d_RU_takeFrom_33 ?_
    refine g_iconst C 1 d_RU_takeFrom_34 (by decide) ?_
    refine g_isub C d_RU_takeFrom_35 ?_
    refine g_topi (fun v10 e_v10 => ?_)
    have h := h v10 e_v10
    obtain ⟨i11, h⟩ := h
    refine g_iast C 9 0 (ws2 := wC ad X (s1.1, ua (ua s1.2 4 (upd (s1.2 4) a1.toNatClampNeg v7)) 5 (upd (s1.2 5) a1.toNatClampNeg v10))) rfl rfl i11 rfl d_RU_takeFrom_36 ?_
    refine g_aload_n C d_RU_takeFrom_37 rfl 0 rfl ?_
    refine g_get C (v := .ref (ad 9)) 6 3 iw_RU rfl rfl (by decide) (gt 175 (by decide +kernel) rfl) rfl rfl d_RU_takeFrom_38 ?_
    refine g_iload_n C d_RU_takeFrom_41 rfl 1 rfl ?_
    obtain ⟨i12, h⟩ := h
    refine g_iald C 9 0 rfl rfl i12 d_RU_takeFrom_42 ?_
    refine g_if_le C 89 d_RU_takeFrom_43 (by decide) (fun c13 => ?_) (fun c13 => ?_)
    · have h := h.1 c13
      refine g_aload_n C d_RU_takeFrom_89 rfl 0 rfl ?_
      refine g_get C (v := .ref (ad 11)) 6 5 iw_RU rfl rfl (by decide) (gt 181 (by decide +kernel) rfl) rfl rfl d_RU_takeFrom_90 ?_
      refine g_iload_n C d_RU_takeFrom_93 rfl 1 rfl ?_
      refine g_aload_n C d_RU_takeFrom_94 rfl 0 rfl ?_
      refine g_get C (v := .ref (ad 1)) 6 0 iw_RU rfl rfl (by decide) (gt 168 (by decide +kernel) rfl) rfl rfl d_RU_takeFrom_95 ?_
      refine g_aload_n C d_RU_takeFrom_98 rfl 0 rfl ?_
      refine g_get C (v := .ref (ad 7)) 6 1 iw_RU rfl rfl (by decide) (gt 169 (by decide +kernel) rfl) rfl rfl d_RU_takeFrom_99 ?_
      refine g_iload_n C d_RU_takeFrom_102 rfl 1 rfl ?_
      obtain ⟨i14, h⟩ := h
      refine g_iald C 7 0 rfl rfl i14 d_RU_takeFrom_103 ?_
      refine g_iconst C 2 d_RU_takeFrom_104 (by decide) ?_
      refine g_aload_n C d_RU_takeFrom_105 rfl 0 rfl ?_
      refine g_get C (v := .ref (ad 8)) 6 2 iw_RU rfl rfl (by decide) (gt 172 (by decide +kernel) rfl) rfl rfl d_RU_takeFrom_106 ?_
      refine g_iload_n C d_RU_takeFrom_109 rfl 1 rfl ?_
      obtain ⟨i15, h⟩ := h
      refine g_iald C 8 0 rfl rfl i15 d_RU_takeFrom_110 ?_
      refine g_iadd C d_RU_takeFrom_111 ?_
      refine g_callVN (host := "SpillQueue") C (rest := [.int a1, .ref (ad 11)]) 1 (fun l => m_Disk_get X ad (s1.2 3 a1.toNatClampNeg) (2 + ((upd (s1.2 4) a1.toNatClampNeg v7) a1.toNatClampNeg)) (s1.1, ua (ua s1.2 4 (upd (s1.2 4) a1.toNatClampNeg v7)) 5 (upd (s1.2 5) a1.toNatClampNeg v10)) _ h l) rfl rfl (gn 409 (by decide +kernel) rfl) cb_DK_get ⟨rfl, rfl⟩ (by rw [hRm]; decide) ⟨Nat.zero_le _, Nat.zero_le _⟩ rfl rfl (Nat.le_of_ble_eq_true rfl) d_RU_takeFrom_112 (gki (fun r17 s16 h => ?_))
      obtain ⟨i18, h⟩ := h
      refine g_iast C 11 0 (ws2 := wC ad X (s16.1, ua s16.2 7 (upd (s16.2 7) a1.toNatClampNeg r17))) rfl rfl i18 rfl d_RU_takeFrom_115 ?_
      refine g_iload_n C d_RU_takeFrom_116 rfl 2 rfl ?_
      exact g_iret r rfl d_RU_takeFrom_117 (gBi_mk h)
    · have h := h.2 c13
      refine g_aload_n C d_RU_takeFrom_46 rfl 0 rfl ?_
      refine g_get C (v := .ref (ad 8)) 6 2 iw_RU rfl rfl (by decide) (gt 172 (by decide +kernel) rfl) rfl rfl d_RU_takeFrom_47 ?_
      refine g_iload_n C d_RU_takeFrom_50 rfl 1 rfl ?_
      obtain ⟨i19, h⟩ := h
      refine g_iald C 8 0 rfl rfl i19 d_RU_takeFrom_51 ?_
      refine g_aload_n C d_RU_takeFrom_52 rfl 0 rfl ?_
      refine g_get C (v := .ref (ad 1)) 6 0 iw_RU rfl rfl (by decide) (gt 168 (by decide +kernel) rfl) rfl rfl d_RU_takeFrom_53 ?_
      refine g_callVN (host := "SpillQueue") C (rest := [.int ((upd (s1.2 4) a1.toNatClampNeg v7) a1.toNatClampNeg)]) 1 (fun l => m_Disk_keysPerBlock X ad  (s1.1, ua (ua s1.2 4 (upd (s1.2 4) a1.toNatClampNeg v7)) 5 (upd (s1.2 5) a1.toNatClampNeg v10)) _ h l) rfl rfl (gn 528 (by decide +kernel) rfl) cb_DK_keysPerBlock ⟨rfl, rfl⟩ (by rw [hRm]; decide) ⟨Nat.zero_le _, Nat.zero_le _⟩ rfl rfl (Nat.le_of_ble_eq_true rfl) d_RU_takeFrom_56 (gki (fun r21 s20 h => ?_))
      refine g_icmp_lt C 89 d_RU_takeFrom_59 (by decide) (fun c22 => ?_) (fun c22 => ?_)
      · have h := h.1 c22
        refine g_aload_n C d_RU_takeFrom_89 rfl 0 rfl ?_
        refine g_get C (v := .ref (ad 11)) 6 5 iw_RU rfl rfl (by decide) (gt 181 (by decide +kernel) rfl) rfl rfl d_RU_takeFrom_90 ?_
        refine g_iload_n C d_RU_takeFrom_93 rfl 1 rfl ?_
        refine g_aload_n C d_RU_takeFrom_94 rfl 0 rfl ?_
        refine g_get C (v := .ref (ad 1)) 6 0 iw_RU rfl rfl (by decide) (gt 168 (by decide +kernel) rfl) rfl rfl d_RU_takeFrom_95 ?_
        refine g_aload_n C d_RU_takeFrom_98 rfl 0 rfl ?_
        refine g_get C (v := .ref (ad 7)) 6 1 iw_RU rfl rfl (by decide) (gt 169 (by decide +kernel) rfl) rfl rfl d_RU_takeFrom_99 ?_
        refine g_iload_n C d_RU_takeFrom_102 rfl 1 rfl ?_
        obtain ⟨i23, h⟩ := h
        refine g_iald C 7 0 rfl rfl i23 d_RU_takeFrom_103 ?_
        refine g_iconst C 2 d_RU_takeFrom_104 (by decide) ?_
        refine g_aload_n C d_RU_takeFrom_105 rfl 0 rfl ?_
        refine g_get C (v := .ref (ad 8)) 6 2 iw_RU rfl rfl (by decide) (gt 172 (by decide +kernel) rfl) rfl rfl d_RU_takeFrom_106 ?_
        refine g_iload_n C d_RU_takeFrom_109 rfl 1 rfl ?_
        obtain ⟨i24, h⟩ := h
        refine g_iald C 8 0 rfl rfl i24 d_RU_takeFrom_110 ?_
        refine g_iadd C d_RU_takeFrom_111 ?_
        refine g_callVN (host := "SpillQueue") C (rest := [.int a1, .ref (ad 11)]) 1 (fun l => m_Disk_get X ad (s20.2 3 a1.toNatClampNeg) (2 + (s20.2 4 a1.toNatClampNeg)) s20 _ h l) rfl rfl (gn 409 (by decide +kernel) rfl) cb_DK_get ⟨rfl, rfl⟩ (by rw [hRm]; decide) ⟨Nat.zero_le _, Nat.zero_le _⟩ rfl rfl (Nat.le_of_ble_eq_true rfl) d_RU_takeFrom_112 (gki (fun r26 s25 h => ?_))
        obtain ⟨i27, h⟩ := h
        refine g_iast C 11 0 (ws2 := wC ad X (s25.1, ua s25.2 7 (upd (s25.2 7) a1.toNatClampNeg r26))) rfl rfl i27 rfl d_RU_takeFrom_115 ?_
        refine g_iload_n C d_RU_takeFrom_116 rfl 2 rfl ?_
        exact g_iret r rfl d_RU_takeFrom_117 (gBi_mk h)
      · have h := h.2 c22
        refine g_aload_n C d_RU_takeFrom_62 rfl 0 rfl ?_
        refine g_get C (v := .ref (ad 7)) 6 1 iw_RU rfl rfl (by decide) (gt 169 (by decide +kernel) rfl) rfl rfl d_RU_takeFrom_63 ?_
        refine g_iload_n C d_RU_takeFrom_66 rfl 1 rfl ?_
        refine g_aload_n C d_RU_takeFrom_67 rfl 0 rfl ?_
        refine g_get C (v := .ref (ad 1)) 6 0 iw_RU rfl rfl (by decide) (gt 168 (by decide +kernel) rfl) rfl rfl d_RU_takeFrom_68 ?_
        refine g_aload_n C d_RU_takeFrom_71 rfl 0 rfl ?_
        refine g_get C (v := .ref (ad 7)) 6 1 iw_RU rfl rfl (by decide) (gt 169 (by decide +kernel) rfl) rfl rfl d_RU_takeFrom_72 ?_
        refine g_iload_n C d_RU_takeFrom_75 rfl 1 rfl ?_
        obtain ⟨i28, h⟩ := h
        refine g_iald C 7 0 rfl rfl i28 d_RU_takeFrom_76 ?_
        refine g_iconst C 1 d_RU_takeFrom_77 (by decide) ?_
        refine g_callVN (host := "SpillQueue") C (rest := [.int a1, .ref (ad 7)]) 1 (fun l => m_Disk_get X ad (s20.2 3 a1.toNatClampNeg) 1 s20 _ h l) rfl rfl (gn 409 (by decide +kernel) rfl) cb_DK_get ⟨rfl, rfl⟩ (by rw [hRm]; decide) ⟨Nat.zero_le _, Nat.zero_le _⟩ rfl rfl (Nat.le_of_ble_eq_true rfl) d_RU_takeFrom_78 (gki (fun r30 s29 h => ?_))
        obtain ⟨i31, h⟩ := h
        refine g_iast C 7 0 (ws2 := wC ad X (s29.1, ua s29.2 3 (upd (s29.2 3) a1.toNatClampNeg r30))) rfl rfl i31 rfl d_RU_takeFrom_81 ?_
        refine g_aload_n C d_RU_takeFrom_82 rfl 0 rfl ?_
        refine g_get C (v := .ref (ad 8)) 6 2 iw_RU rfl rfl (by decide) (gt 172 (by decide +kernel) rfl) rfl rfl d_RU_takeFrom_83 ?_
        refine g_iload_n C d_RU_takeFrom_86 rfl 1 rfl ?_
        refine g_iconst C 0 d_RU_takeFrom_87 (by decide) ?_
        obtain ⟨i32, h⟩ := h
        refine g_iast C 8 0 (ws2 := wC ad X (s29.1, ua (ua s29.2 3 (upd (s29.2 3) a1.toNatClampNeg r30)) 4 (upd (s29.2 4) a1.toNatClampNeg 0))) rfl rfl i32 rfl d_RU_takeFrom_88 ?_
        refine g_aload_n C d_RU_takeFrom_89 rfl 0 rfl ?_
        refine g_get C (v := .ref (ad 11)) 6 5 iw_RU rfl rfl (by decide) (gt 181 (by decide +kernel) rfl) rfl rfl d_RU_takeFrom_90 ?_
        refine g_iload_n C d_RU_takeFrom_93 rfl 1 rfl ?_
        refine g_aload_n C d_RU_takeFrom_94 rfl 0 rfl ?_
        refine g_get C (v := .ref (ad 1)) 6 0 iw_RU rfl rfl (by decide) (gt 168 (by decide +kernel) rfl) rfl rfl d_RU_takeFrom_95 ?_
        refine g_aload_n C d_RU_takeFrom_98 rfl 0 rfl ?_
        refine g_get C (v := .ref (ad 7)) 6 1 iw_RU rfl rfl (by decide) (gt 169 (by decide +kernel) rfl) rfl rfl d_RU_takeFrom_99 ?_
        refine g_iload_n C d_RU_takeFrom_102 rfl 1 rfl ?_
        obtain ⟨i33, h⟩ := h
        refine g_iald C 7 0 rfl rfl i33 d_RU_takeFrom_103 ?_
        refine g_iconst C 2 d_RU_takeFrom_104 (by decide) ?_
        refine g_aload_n C d_RU_takeFrom_105 rfl 0 rfl ?_
        refine g_get C (v := .ref (ad 8)) 6 2 iw_RU rfl rfl (by decide) (gt 172 (by decide +kernel) rfl) rfl rfl d_RU_takeFrom_106 ?_
        refine g_iload_n C d_RU_takeFrom_109 rfl 1 rfl ?_
        obtain ⟨i34, h⟩ := h
        refine g_iald C 8 0 rfl rfl i34 d_RU_takeFrom_110 ?_
        refine g_iadd C d_RU_takeFrom_111 ?_
        refine g_callVN (host := "SpillQueue") C (rest := [.int a1, .ref (ad 11)]) 1 (fun l => m_Disk_get X ad ((upd (s29.2 3) a1.toNatClampNeg r30) a1.toNatClampNeg) (2 + ((upd (s29.2 4) a1.toNatClampNeg 0) a1.toNatClampNeg)) (s29.1, ua (ua s29.2 3 (upd (s29.2 3) a1.toNatClampNeg r30)) 4 (upd (s29.2 4) a1.toNatClampNeg 0)) _ h l) rfl rfl (gn 409 (by decide +kernel) rfl) cb_DK_get ⟨rfl, rfl⟩ (by rw [hRm]; decide) ⟨Nat.zero_le _, Nat.zero_le _⟩ rfl rfl (Nat.le_of_ble_eq_true rfl) d_RU_takeFrom_112 (gki (fun r36 s35 h => ?_))
        obtain ⟨i37, h⟩ := h
        refine g_iast C 11 0 (ws2 := wC ad X (s35.1, ua s35.2 7 (upd (s35.2 7) a1.toNatClampNeg r36))) rfl rfl i37 rfl d_RU_takeFrom_115 ?_
        refine g_iload_n C d_RU_takeFrom_116 rfl 2 rfl ?_
        exact g_iret r rfl d_RU_takeFrom_117 (gBi_mk h)
  · have h := h.2 c3
    refine g_iconst C (-1) d_RU_takeFrom_8 (by decide) ?_
    exact g_iret r rfl d_RU_takeFrom_9 (gBi_mk h)
theorem m_Runs_takeFrom (X : gX) (ad : Nat → Nat) (a1 : Int32) (s : gS) (Q : Int32 → gS → Prop) (h : wp_Runs_takeFrom a1 s Q) (l : Launch) : gM l X y_RU_takeFrom b_RU_takeFrom 3 (some .int) rm_Runs_takeFrom [.ref (ad 6), .int a1] (wC ad X s) (gBi (wC ad X) Q) :=
  gM_of (by decide +kernel) rfl (Nat.le_of_ble_eq_true rfl) rfl (fun E C hRm r => w_Runs_takeFrom X ad a1 s Q h E C hRm r)
def rm_Runs_takeLeast : Room := { frames := 2, cells := 0, slots := 0, locals := 44 }
def wp_Runs_takeLeast (s : gS) (Q : Int32 → gS → Prop) : Prop := wp_Runs_leastAt 1 s (fun r2 s1 => wp_Runs_takeFrom r2 s1 (fun r4 s3 => Q r4 s3))
set_option maxHeartbeats 4000000 in
set_option maxRecDepth 100000 in
theorem w_Runs_takeLeast (X : gX) (ad : Nat → Nat) (s : gS) (Q : Int32 → gS → Prop) (h : wp_Runs_takeLeast  s Q) (E : gE) (C : gC X E b_RU_takeLeast 1 R_RU) (hRm : gRm E = rm_Runs_takeLeast) (r : gR X E b_RU_takeLeast (some .int) (gBi (wC ad X) Q)) : gW X E 0 0 (wC ad X s) [(0, .ref (ad 6))] 0 [] := by
  have h : wp_Runs_leastAt 1 s (fun r2 s1 => wp_Runs_takeFrom r2 s1 (fun r4 s3 => Q r4 s3)) := h
  refine g_aload_n C d_RU_takeLeast_0 rfl 0 rfl ?_
  refine g_aload_n C d_RU_takeLeast_1 rfl 0 rfl ?_
  refine g_iconst C 1 d_RU_takeLeast_2 (by decide) ?_
  refine g_callV C (rest := [.ref (ad 6)]) 6 (fun l => m_Runs_leastAt X ad 1 s _ h l) rfl rfl (gt 516 (by decide +kernel) rfl) cb_RU_leastAt ⟨rfl, rfl⟩ (by rw [hRm]; decide) ⟨Nat.zero_le _, Nat.zero_le _⟩ rfl rfl (Nat.le_of_ble_eq_true rfl) d_RU_takeLeast_3 (gki (fun r2 s1 h => ?_))
  refine g_callV C (rest := []) 6 (fun l => m_Runs_takeFrom X ad r2 s1 _ h l) rfl rfl (gt 520 (by decide +kernel) rfl) cb_RU_takeFrom ⟨rfl, rfl⟩ (by rw [hRm]; decide) ⟨Nat.zero_le _, Nat.zero_le _⟩ rfl rfl (Nat.le_of_ble_eq_true rfl) d_RU_takeLeast_6 (gki (fun r4 s3 h => ?_))
  exact g_iret r rfl d_RU_takeLeast_9 (gBi_mk h)
theorem m_Runs_takeLeast (X : gX) (ad : Nat → Nat) (s : gS) (Q : Int32 → gS → Prop) (h : wp_Runs_takeLeast  s Q) (l : Launch) : gM l X y_RU_takeLeast b_RU_takeLeast 1 (some .int) rm_Runs_takeLeast [.ref (ad 6)] (wC ad X s) (gBi (wC ad X) Q) :=
  gM_of (by decide +kernel) rfl (Nat.le_of_ble_eq_true rfl) rfl (fun E C hRm r => w_Runs_takeLeast X ad  s Q h E C hRm r)
def rm_SpillQueue_makeRun_6 : Room := { frames := 3, cells := 0, slots := 0, locals := 68 }
def wl_SpillQueue_makeRun_6_106 (Q : Int32 → gS → Prop) (K : Int32 → gS → Prop) (x2 : Int32) (x3 : Int32) (x4 : Int32) (x5 : Int32) (x6 : Int32) (x7 : Int32) : Nat → Int32 → gS → Prop
  | 0, _, _ => False
  | n + 1, x8, s => ((x7 ≤ x8 → K x8 s) ∧ (¬ x7 ≤ x8 → wp_Runs_takeLeast s (fun r20 s19 => wp_Disk_setRow (2 + x8) r20 s19 (fun s21 => ∀ v23 : Int32, v23 = x8 + 1 → wl_SpillQueue_makeRun_6_106 Q K x2 x3 x4 x5 x6 x7 n v23 s21))))
set_option maxHeartbeats 4000000 in
set_option maxRecDepth 100000 in
theorem w_SpillQueue_makeRun_6_106 (X : gX) (ad : Nat → Nat) (Q : Int32 → gS → Prop) (K : Int32 → gS → Prop) (x2 : Int32) (x3 : Int32) (x4 : Int32) (x5 : Int32) (x6 : Int32) (x7 : Int32) (E : gE) (C : gC X E b_SQ_makeRun 9 R_SQ) (hRm : gRm E = rm_SpillQueue_makeRun_6) (r : gR X E b_SQ_makeRun (some .int) (gBi (wC ad X) Q)) (hK : ∀ (x8 : Int32) (s : gS), K x8 s → gW X E 0 0 (wC ad X s) [(0, .ref (ad 0)), (1, .ref (ad 6)), (2, .int x2), (3, .int x3), (4, .int x4), (5, .int x5), (6, .int x6), (7, .int x7), (8, .int x8)] 134 []) : ∀ (n : Nat) (x8 : Int32) (s : gS), wl_SpillQueue_makeRun_6_106 Q K x2 x3 x4 x5 x6 x7 n x8 s → gW X E 0 0 (wC ad X s) [(0, .ref (ad 0)), (1, .ref (ad 6)), (2, .int x2), (3, .int x3), (4, .int x4), (5, .int x5), (6, .int x6), (7, .int x7), (8, .int x8)] 106 [] := by
  intro n
  induction n with
  | zero => intro x8 s h; exact False.elim h
  | succ n ih =>
    intro x8 s h
    have h : ((x7 ≤ x8 → K x8 s) ∧ (¬ x7 ≤ x8 → wp_Runs_takeLeast s (fun r20 s19 => wp_Disk_setRow (2 + x8) r20 s19 (fun s21 => ∀ v23 : Int32, v23 = x8 + 1 → wl_SpillQueue_makeRun_6_106 Q K x2 x3 x4 x5 x6 x7 n v23 s21)))) := h
    refine g_iload C d_SQ_makeRun_106 8 rfl ?_
    refine g_iload C d_SQ_makeRun_108 7 rfl ?_
    refine g_icmp_ge C 134 d_SQ_makeRun_110 (by decide) (fun c18 => ?_) (fun c18 => ?_)
    · have h := h.1 c18
      exact hK x8 s h
    · have h := h.2 c18
      refine g_aload_n C d_SQ_makeRun_113 rfl 0 rfl ?_
      refine g_get C (v := .ref (ad 1)) 0 0 iw_SQ rfl rfl (by decide) (gt 229 (by decide +kernel) rfl) rfl rfl d_SQ_makeRun_114 ?_
      refine g_iconst C 2 d_SQ_makeRun_117 (by decide) ?_
      refine g_iload C d_SQ_makeRun_118 8 rfl ?_
      refine g_iadd C d_SQ_makeRun_120 ?_
      refine g_aload_n C d_SQ_makeRun_121 rfl 1 rfl ?_
      refine g_callU C (x := ⟨"SpillQueue$Keys", "takeLeast", "()I"⟩) (rest := [.int (2 + x8), .ref (ad 1)]) (owner := "SpillQueue$Keys") 6 (fun l => m_Runs_takeLeast X ad  s _ h l) rfl rfl (gt 503 (by decide +kernel) rfl) (gt 505 (by decide +kernel) rfl) (gn 504 (by decide +kernel) rfl) (gt 513 (by decide +kernel) rfl) (gt 514 (by decide +kernel) rfl) (gt 91 (by decide +kernel) rfl) (gt 515 rfl rfl) (by decide +kernel) ⟨rfl, rfl⟩ (by rw [hRm]; decide) ⟨Nat.zero_le _, Nat.zero_le _⟩ rfl rfl (Nat.le_of_ble_eq_true rfl) d_SQ_makeRun_122 (gki (fun r20 s19 h => ?_))
      refine g_callVN (host := "SpillQueue") C (rest := []) 1 (fun l => m_Disk_setRow X ad (2 + x8) r20 s19 _ h l) rfl rfl (gn 499 (by decide +kernel) rfl) cb_DK_setRow ⟨rfl, rfl⟩ (by rw [hRm]; decide) ⟨Nat.zero_le _, Nat.zero_le _⟩ rfl rfl (Nat.le_of_ble_eq_true rfl) d_SQ_makeRun_125 (gkv (fun s21 h => ?_))
      obtain ⟨v23, e_v23⟩ : ∃ y : Int32, y = x8 + 1 := ⟨_, rfl⟩
      have h := h v23 e_v23
      refine g_iinc C (v := v23) (lv2 := [(0, .ref (ad 0)), (1, .ref (ad 6)), (2, .int x2), (3, .int x3), (4, .int x4), (5, .int x5), (6, .int x6), (7, .int x7), (8, .int v23)]) d_SQ_makeRun_128 8 rfl (by rw [e_v23]; rfl) (by decide) rfl ?_
      refine g_goto C 106 d_SQ_makeRun_131 (by decide) ?_
      exact ih v23 s21 h
def wl_SpillQueue_makeRun_6_45 (Q : Int32 → gS → Prop) (K : Int32 → gS → Prop) (x2 : Int32) (x3 : Int32) (x4 : Int32) (x5 : Int32) : Nat → Int32 → gS → Prop
  | 0, _, _ => False
  | n + 1, x6, s => ((x4 ≤ x6 → K x6 s) ∧ (¬ x4 ≤ x6 → wp_Disk_clearRow s (fun s12 => ((x4 ≤ (x6 + 1) → wp_Disk_setRow 1 0 s12 (fun s15 => ∀ v17 : Int32, v17 = (if (x3 - (x6 * x5)) < x5 then (x3 - (x6 * x5)) else x5) → ∃ n24 : Nat, wl_SpillQueue_makeRun_6_106 Q (fun v26 s25 => vp_in x6 200 ∧ (wp_Disk_writeRow (s25.2 12 x6.toNatClampNeg) s25 (fun r29 s28 => ((¬ r29 = 0 → ∀ v31 : Int32, v31 = x6 + 1 → wl_SpillQueue_makeRun_6_45 Q K x2 x3 x4 x5 n v31 s28) ∧ (r29 = 0 → wp_SpillQueue_powerOff s28 (fun s32 => Q (-9) s32)))))) x2 x3 x4 x5 x6 v17 n24 0 s15)) ∧ (¬ x4 ≤ (x6 + 1) → vp_in (x6 + 1) 200 ∧ (wp_Disk_setRow 1 (s12.2 12 (x6 + 1).toNatClampNeg) s12 (fun s35 => ∀ v37 : Int32, v37 = (if (x3 - (x6 * x5)) < x5 then (x3 - (x6 * x5)) else x5) → ∃ n38 : Nat, wl_SpillQueue_makeRun_6_106 Q (fun v40 s39 => vp_in x6 200 ∧ (wp_Disk_writeRow (s39.2 12 x6.toNatClampNeg) s39 (fun r43 s42 => ((¬ r43 = 0 → ∀ v45 : Int32, v45 = x6 + 1 → wl_SpillQueue_makeRun_6_45 Q K x2 x3 x4 x5 n v45 s42) ∧ (r43 = 0 → wp_SpillQueue_powerOff s42 (fun s46 => Q (-9) s46)))))) x2 x3 x4 x5 x6 v37 n38 0 s35)))))))
set_option maxHeartbeats 4000000 in
set_option maxRecDepth 100000 in
theorem w_SpillQueue_makeRun_6_45 (X : gX) (ad : Nat → Nat) (Q : Int32 → gS → Prop) (K : Int32 → gS → Prop) (x2 : Int32) (x3 : Int32) (x4 : Int32) (x5 : Int32) (E : gE) (C : gC X E b_SQ_makeRun 9 R_SQ) (hRm : gRm E = rm_SpillQueue_makeRun_6) (r : gR X E b_SQ_makeRun (some .int) (gBi (wC ad X) Q)) (hK : ∀ (x6 : Int32) (s : gS), K x6 s → gW X E 0 0 (wC ad X s) [(0, .ref (ad 0)), (1, .ref (ad 6)), (2, .int x2), (3, .int x3), (4, .int x4), (5, .int x5), (6, .int x6)] 164 []) : ∀ (n : Nat) (x6 : Int32) (s : gS), wl_SpillQueue_makeRun_6_45 Q K x2 x3 x4 x5 n x6 s → gW X E 0 0 (wC ad X s) [(0, .ref (ad 0)), (1, .ref (ad 6)), (2, .int x2), (3, .int x3), (4, .int x4), (5, .int x5), (6, .int x6)] 45 [] := by
  intro n
  induction n with
  | zero => intro x6 s h; exact False.elim h
  | succ n ih =>
    intro x6 s h
    have h : ((x4 ≤ x6 → K x6 s) ∧ (¬ x4 ≤ x6 → wp_Disk_clearRow s (fun s12 => ((x4 ≤ (x6 + 1) → wp_Disk_setRow 1 0 s12 (fun s15 => ∀ v17 : Int32, v17 = (if (x3 - (x6 * x5)) < x5 then (x3 - (x6 * x5)) else x5) → ∃ n24 : Nat, wl_SpillQueue_makeRun_6_106 Q (fun v26 s25 => vp_in x6 200 ∧ (wp_Disk_writeRow (s25.2 12 x6.toNatClampNeg) s25 (fun r29 s28 => ((¬ r29 = 0 → ∀ v31 : Int32, v31 = x6 + 1 → wl_SpillQueue_makeRun_6_45 Q K x2 x3 x4 x5 n v31 s28) ∧ (r29 = 0 → wp_SpillQueue_powerOff s28 (fun s32 => Q (-9) s32)))))) x2 x3 x4 x5 x6 v17 n24 0 s15)) ∧ (¬ x4 ≤ (x6 + 1) → vp_in (x6 + 1) 200 ∧ (wp_Disk_setRow 1 (s12.2 12 (x6 + 1).toNatClampNeg) s12 (fun s35 => ∀ v37 : Int32, v37 = (if (x3 - (x6 * x5)) < x5 then (x3 - (x6 * x5)) else x5) → ∃ n38 : Nat, wl_SpillQueue_makeRun_6_106 Q (fun v40 s39 => vp_in x6 200 ∧ (wp_Disk_writeRow (s39.2 12 x6.toNatClampNeg) s39 (fun r43 s42 => ((¬ r43 = 0 → ∀ v45 : Int32, v45 = x6 + 1 → wl_SpillQueue_makeRun_6_45 Q K x2 x3 x4 x5 n v45 s42) ∧ (r43 = 0 → wp_SpillQueue_powerOff s42 (fun s46 => Q (-9) s46)))))) x2 x3 x4 x5 x6 v37 n38 0 s35))))))) := h
    refine g_iload C d_SQ_makeRun_45 6 rfl ?_
    refine g_iload C d_SQ_makeRun_47 4 rfl ?_
    refine g_icmp_ge C 164 d_SQ_makeRun_49 (by decide) (fun c11 => ?_) (fun c11 => ?_)
    · have h := h.1 c11
      exact hK x6 s h
    · have h := h.2 c11
      refine g_aload_n C d_SQ_makeRun_52 rfl 0 rfl ?_
      refine g_get C (v := .ref (ad 1)) 0 0 iw_SQ rfl rfl (by decide) (gt 229 (by decide +kernel) rfl) rfl rfl d_SQ_makeRun_53 ?_
      refine g_callVN (host := "SpillQueue") C (rest := []) 1 (fun l => m_Disk_clearRow X ad  s _ h l) rfl rfl (gn 498 (by decide +kernel) rfl) cb_DK_clearRow ⟨rfl, rfl⟩ (by rw [hRm]; decide) ⟨Nat.zero_le _, Nat.zero_le _⟩ rfl rfl (Nat.le_of_ble_eq_true rfl) d_SQ_makeRun_56 (gkv (fun s12 h => ?_))
      refine g_aload_n C d_SQ_makeRun_59 rfl 0 rfl ?_
      refine g_get C (v := .ref (ad 1)) 0 0 iw_SQ rfl rfl (by decide) (gt 229 (by decide +kernel) rfl) rfl rfl d_SQ_makeRun_60 ?_
      refine g_iconst C 1 d_SQ_makeRun_63 (by decide) ?_
      refine g_iload C d_SQ_makeRun_64 6 rfl ?_
      refine g_iconst C 1 d_SQ_makeRun_66 (by decide) ?_
      refine g_iadd C d_SQ_makeRun_67 ?_
      refine g_iload C d_SQ_makeRun_68 4 rfl ?_
      refine g_icmp_ge C 85 d_SQ_makeRun_70 (by decide) (fun c14 => ?_) (fun c14 => ?_)
      · have h := h.1 c14
        refine g_iconst C 0 d_SQ_makeRun_85 (by decide) ?_
        refine g_callVN (host := "SpillQueue") C (rest := []) 1 (fun l => m_Disk_setRow X ad 1 0 s12 _ h l) rfl rfl (gn 499 (by decide +kernel) rfl) cb_DK_setRow ⟨rfl, rfl⟩ (by rw [hRm]; decide) ⟨Nat.zero_le _, Nat.zero_le _⟩ rfl rfl (Nat.le_of_ble_eq_true rfl) d_SQ_makeRun_86 (gkv (fun s15 h => ?_))
        refine g_iload C d_SQ_makeRun_89 5 rfl ?_
        refine g_iload_n C d_SQ_makeRun_91 rfl 3 rfl ?_
        refine g_iload C d_SQ_makeRun_92 6 rfl ?_
        refine g_iload C d_SQ_makeRun_94 5 rfl ?_
        refine g_imul C d_SQ_makeRun_96 ?_
        refine g_isub C d_SQ_makeRun_97 ?_
        refine g_mmin C (gt 500 (by decide +kernel) rfl) (gt 501 (by decide +kernel) rfl) (gt 102 (by decide +kernel) rfl) (gt 502 rfl rfl) (by rw [hRm]; decide) ⟨Nat.zero_le _, Nat.zero_le _⟩ d_SQ_makeRun_98 ?_
        refine g_topi (fun v17 e_v17 => ?_)
        have h := h v17 e_v17
        refine g_istore C (lv2 := [(0, .ref (ad 0)), (1, .ref (ad 6)), (2, .int x2), (3, .int x3), (4, .int x4), (5, .int x5), (6, .int x6), (7, .int v17)]) d_SQ_makeRun_101 (by decide) rfl ?_
        refine g_iconst C 0 d_SQ_makeRun_103 (by decide) ?_
        refine g_istore C (lv2 := [(0, .ref (ad 0)), (1, .ref (ad 6)), (2, .int x2), (3, .int x3), (4, .int x4), (5, .int x5), (6, .int x6), (7, .int v17), (8, .int 0)]) d_SQ_makeRun_104 (by decide) rfl ?_
        obtain ⟨n24, h⟩ := h
        refine w_SpillQueue_makeRun_6_106 X ad Q (_) x2 x3 x4 x5 x6 v17 E C hRm r ?_ n24 0 s15 h
        intro v26 s25 h
        refine g_aload_n C d_SQ_makeRun_134 rfl 0 rfl ?_
        refine g_get C (v := .ref (ad 1)) 0 0 iw_SQ rfl rfl (by decide) (gt 229 (by decide +kernel) rfl) rfl rfl d_SQ_makeRun_135 ?_
        refine g_aload_n C d_SQ_makeRun_138 rfl 0 rfl ?_
        refine g_get C (v := .ref (ad 20)) 0 6 iw_SQ rfl rfl (by decide) (gt 235 (by decide +kernel) rfl) rfl rfl d_SQ_makeRun_139 ?_
        refine g_iload C d_SQ_makeRun_142 6 rfl ?_
        obtain ⟨i27, h⟩ := h
        refine g_iald C 20 0 rfl rfl i27 d_SQ_makeRun_144 ?_
        refine g_callVN (host := "SpillQueue") C (rest := []) 1 (fun l => m_Disk_writeRow X ad (s25.2 12 x6.toNatClampNeg) s25 _ h l) rfl rfl (gn 529 (by decide +kernel) rfl) cb_DK_writeRow ⟨rfl, rfl⟩ (by rw [hRm]; decide) ⟨Nat.zero_le _, Nat.zero_le _⟩ rfl rfl (Nat.le_of_ble_eq_true rfl) d_SQ_makeRun_145 (gki (fun r29 s28 h => ?_))
        refine g_if_ne C 158 d_SQ_makeRun_148 (by decide) (fun c30 => ?_) (fun c30 => ?_)
        · have h := h.1 c30
          obtain ⟨v31, e_v31⟩ : ∃ y : Int32, y = x6 + 1 := ⟨_, rfl⟩
          have h := h v31 e_v31
          refine g_iinc C (v := v31) (lv2 := [(0, .ref (ad 0)), (1, .ref (ad 6)), (2, .int x2), (3, .int x3), (4, .int x4), (5, .int x5), (6, .int v31), (7, .int v17), (8, .int v26)]) d_SQ_makeRun_158 6 rfl (by rw [e_v31]; rfl) (by decide) rfl ?_
          refine g_goto C 45 d_SQ_makeRun_161 (by decide) ?_
          refine g_lv C [0, 1, 2, 3, 4, 5, 6] rfl ?_
          exact ih v31 s28 h
        · have h := h.2 c30
          refine g_aload_n C d_SQ_makeRun_151 rfl 0 rfl ?_
          refine g_callV C (rest := []) 0 (fun l => m_SpillQueue_powerOff X ad  s28 _ h l) rfl rfl (gt 351 (by decide +kernel) rfl) cb_SQ_powerOff ⟨rfl, rfl⟩ (by rw [hRm]; decide) ⟨Nat.zero_le _, Nat.zero_le _⟩ rfl rfl (Nat.le_of_ble_eq_true rfl) d_SQ_makeRun_152 (gkv (fun s32 h => ?_))
          refine g_bipush C (-9) d_SQ_makeRun_155 (by decide) ?_
          exact g_iret r rfl d_SQ_makeRun_157 (gBi_mk h)
      · have h := h.2 c14
        refine g_aload_n C d_SQ_makeRun_73 rfl 0 rfl ?_
        refine g_get C (v := .ref (ad 20)) 0 6 iw_SQ rfl rfl (by decide) (gt 235 (by decide +kernel) rfl) rfl rfl d_SQ_makeRun_74 ?_
        refine g_iload C d_SQ_makeRun_77 6 rfl ?_
        refine g_iconst C 1 d_SQ_makeRun_79 (by decide) ?_
        refine g_iadd C d_SQ_makeRun_80 ?_
        obtain ⟨i34, h⟩ := h
        refine g_iald C 20 0 rfl rfl i34 d_SQ_makeRun_81 ?_
        refine g_goto C 86 d_SQ_makeRun_82 (by decide) ?_
        refine g_callVN (host := "SpillQueue") C (rest := []) 1 (fun l => m_Disk_setRow X ad 1 (s12.2 12 (x6 + 1).toNatClampNeg) s12 _ h l) rfl rfl (gn 499 (by decide +kernel) rfl) cb_DK_setRow ⟨rfl, rfl⟩ (by rw [hRm]; decide) ⟨Nat.zero_le _, Nat.zero_le _⟩ rfl rfl (Nat.le_of_ble_eq_true rfl) d_SQ_makeRun_86 (gkv (fun s35 h => ?_))
        refine g_iload C d_SQ_makeRun_89 5 rfl ?_
        refine g_iload_n C d_SQ_makeRun_91 rfl 3 rfl ?_
        refine g_iload C d_SQ_makeRun_92 6 rfl ?_
        refine g_iload C d_SQ_makeRun_94 5 rfl ?_
        refine g_imul C d_SQ_makeRun_96 ?_
        refine g_isub C d_SQ_makeRun_97 ?_
        refine g_mmin C (gt 500 (by decide +kernel) rfl) (gt 501 (by decide +kernel) rfl) (gt 102 (by decide +kernel) rfl) (gt 502 rfl rfl) (by rw [hRm]; decide) ⟨Nat.zero_le _, Nat.zero_le _⟩ d_SQ_makeRun_98 ?_
        refine g_topi (fun v37 e_v37 => ?_)
        have h := h v37 e_v37
        refine g_istore C (lv2 := [(0, .ref (ad 0)), (1, .ref (ad 6)), (2, .int x2), (3, .int x3), (4, .int x4), (5, .int x5), (6, .int x6), (7, .int v37)]) d_SQ_makeRun_101 (by decide) rfl ?_
        refine g_iconst C 0 d_SQ_makeRun_103 (by decide) ?_
        refine g_istore C (lv2 := [(0, .ref (ad 0)), (1, .ref (ad 6)), (2, .int x2), (3, .int x3), (4, .int x4), (5, .int x5), (6, .int x6), (7, .int v37), (8, .int 0)]) d_SQ_makeRun_104 (by decide) rfl ?_
        obtain ⟨n38, h⟩ := h
        refine w_SpillQueue_makeRun_6_106 X ad Q (_) x2 x3 x4 x5 x6 v37 E C hRm r ?_ n38 0 s35 h
        intro v40 s39 h
        refine g_aload_n C d_SQ_makeRun_134 rfl 0 rfl ?_
        refine g_get C (v := .ref (ad 1)) 0 0 iw_SQ rfl rfl (by decide) (gt 229 (by decide +kernel) rfl) rfl rfl d_SQ_makeRun_135 ?_
        refine g_aload_n C d_SQ_makeRun_138 rfl 0 rfl ?_
        refine g_get C (v := .ref (ad 20)) 0 6 iw_SQ rfl rfl (by decide) (gt 235 (by decide +kernel) rfl) rfl rfl d_SQ_makeRun_139 ?_
        refine g_iload C d_SQ_makeRun_142 6 rfl ?_
        obtain ⟨i41, h⟩ := h
        refine g_iald C 20 0 rfl rfl i41 d_SQ_makeRun_144 ?_
        refine g_callVN (host := "SpillQueue") C (rest := []) 1 (fun l => m_Disk_writeRow X ad (s39.2 12 x6.toNatClampNeg) s39 _ h l) rfl rfl (gn 529 (by decide +kernel) rfl) cb_DK_writeRow ⟨rfl, rfl⟩ (by rw [hRm]; decide) ⟨Nat.zero_le _, Nat.zero_le _⟩ rfl rfl (Nat.le_of_ble_eq_true rfl) d_SQ_makeRun_145 (gki (fun r43 s42 h => ?_))
        refine g_if_ne C 158 d_SQ_makeRun_148 (by decide) (fun c44 => ?_) (fun c44 => ?_)
        · have h := h.1 c44
          obtain ⟨v45, e_v45⟩ : ∃ y : Int32, y = x6 + 1 := ⟨_, rfl⟩
          have h := h v45 e_v45
          refine g_iinc C (v := v45) (lv2 := [(0, .ref (ad 0)), (1, .ref (ad 6)), (2, .int x2), (3, .int x3), (4, .int x4), (5, .int x5), (6, .int v45), (7, .int v37), (8, .int v40)]) d_SQ_makeRun_158 6 rfl (by rw [e_v45]; rfl) (by decide) rfl ?_
          refine g_goto C 45 d_SQ_makeRun_161 (by decide) ?_
          refine g_lv C [0, 1, 2, 3, 4, 5, 6] rfl ?_
          exact ih v45 s42 h
        · have h := h.2 c44
          refine g_aload_n C d_SQ_makeRun_151 rfl 0 rfl ?_
          refine g_callV C (rest := []) 0 (fun l => m_SpillQueue_powerOff X ad  s42 _ h l) rfl rfl (gt 351 (by decide +kernel) rfl) cb_SQ_powerOff ⟨rfl, rfl⟩ (by rw [hRm]; decide) ⟨Nat.zero_le _, Nat.zero_le _⟩ rfl rfl (Nat.le_of_ble_eq_true rfl) d_SQ_makeRun_152 (gkv (fun s46 h => ?_))
          refine g_bipush C (-9) d_SQ_makeRun_155 (by decide) ?_
          exact g_iret r rfl d_SQ_makeRun_157 (gBi_mk h)
def wp_SpillQueue_makeRun_6 (a2 : Int32) (s : gS) (Q : Int32 → gS → Prop) : Prop := wp_Runs_howMany s (fun r2 s1 => wp_Disk_blocksFor r2 s1 (fun r4 s3 => ((r4 < 1 → Q (-2) s3) ∧ (¬ r4 < 1 → wp_SpillQueue_gatherFree s3 (fun r7 s6 => ((r4 ≤ r7 → wp_Disk_keysPerBlock s6 (fun r10 s9 => ∃ n48 : Nat, wl_SpillQueue_makeRun_6_45 Q (fun v50 s49 => wp_Runs_dropEmpty s49 (fun s51 => vp_in 0 200 ∧ (wp_Runs_add (s51.2 12 (0 : Int32).toNatClampNeg) 0 r2 a2 s51 (fun s54 => Q 0 s54)))) a2 r2 r4 r10 n48 0 s9)) ∧ (¬ r4 ≤ r7 → Q (-2) s6)))))))
set_option maxHeartbeats 4000000 in
set_option maxRecDepth 100000 in
theorem w_SpillQueue_makeRun_6 (X : gX) (ad : Nat → Nat) (a2 : Int32) (s : gS) (Q : Int32 → gS → Prop) (h : wp_SpillQueue_makeRun_6 a2 s Q) (E : gE) (C : gC X E b_SQ_makeRun 9 R_SQ) (hRm : gRm E = rm_SpillQueue_makeRun_6) (r : gR X E b_SQ_makeRun (some .int) (gBi (wC ad X) Q)) : gW X E 0 0 (wC ad X s) [(0, .ref (ad 0)), (1, .ref (ad 6)), (2, .int a2)] 0 [] := by
  have h : wp_Runs_howMany s (fun r2 s1 => wp_Disk_blocksFor r2 s1 (fun r4 s3 => ((r4 < 1 → Q (-2) s3) ∧ (¬ r4 < 1 → wp_SpillQueue_gatherFree s3 (fun r7 s6 => ((r4 ≤ r7 → wp_Disk_keysPerBlock s6 (fun r10 s9 => ∃ n48 : Nat, wl_SpillQueue_makeRun_6_45 Q (fun v50 s49 => wp_Runs_dropEmpty s49 (fun s51 => vp_in 0 200 ∧ (wp_Runs_add (s51.2 12 (0 : Int32).toNatClampNeg) 0 r2 a2 s51 (fun s54 => Q 0 s54)))) a2 r2 r4 r10 n48 0 s9)) ∧ (¬ r4 ≤ r7 → Q (-2) s6))))))) := h
  refine g_aload_n C d_SQ_makeRun_0 rfl 1 rfl ?_
  refine g_callU C (x := ⟨"SpillQueue$Keys", "howMany", "()I"⟩) (rest := []) (owner := "SpillQueue$Keys") 6 (fun l => m_Runs_howMany X ad  s _ h l) rfl rfl (gt 469 (by decide +kernel) rfl) (gt 471 (by decide +kernel) rfl) (gn 470 (by decide +kernel) rfl) (gt 473 (by decide +kernel) rfl) (gt 474 (by decide +kernel) rfl) (gt 91 (by decide +kernel) rfl) (gt 475 rfl rfl) (by decide +kernel) ⟨rfl, rfl⟩ (by rw [hRm]; decide) ⟨Nat.zero_le _, Nat.zero_le _⟩ rfl rfl (Nat.le_of_ble_eq_true rfl) d_SQ_makeRun_1 (gki (fun r2 s1 h => ?_))
  refine g_istore_n C (lv2 := [(0, .ref (ad 0)), (1, .ref (ad 6)), (2, .int a2), (3, .int r2)]) d_SQ_makeRun_4 rfl (by decide) rfl ?_
  refine g_aload_n C d_SQ_makeRun_5 rfl 0 rfl ?_
  refine g_get C (v := .ref (ad 1)) 0 0 iw_SQ rfl rfl (by decide) (gt 229 (by decide +kernel) rfl) rfl rfl d_SQ_makeRun_6 ?_
  refine g_iload_n C d_SQ_makeRun_9 rfl 3 rfl ?_
  refine g_callVN (host := "SpillQueue") C (rest := []) 1 (fun l => m_Disk_blocksFor X ad r2 s1 _ h l) rfl rfl (gn 476 (by decide +kernel) rfl) cb_DK_blocksFor ⟨rfl, rfl⟩ (by rw [hRm]; decide) ⟨Nat.zero_le _, Nat.zero_le _⟩ rfl rfl (Nat.le_of_ble_eq_true rfl) d_SQ_makeRun_10 (gki (fun r4 s3 h => ?_))
  refine g_istore C (lv2 := [(0, .ref (ad 0)), (1, .ref (ad 6)), (2, .int a2), (3, .int r2), (4, .int r4)]) d_SQ_makeRun_13 (by decide) rfl ?_
  refine g_iload C d_SQ_makeRun_15 4 rfl ?_
  refine g_iconst C 1 d_SQ_makeRun_17 (by decide) ?_
  refine g_icmp_lt C 30 d_SQ_makeRun_18 (by decide) (fun c5 => ?_) (fun c5 => ?_)
  · have h := h.1 c5
    refine g_bipush C (-2) d_SQ_makeRun_30 (by decide) ?_
    exact g_iret r rfl d_SQ_makeRun_32 (gBi_mk h)
  · have h := h.2 c5
    refine g_aload_n C d_SQ_makeRun_21 rfl 0 rfl ?_
    refine g_callV C (rest := []) 0 (fun l => m_SpillQueue_gatherFree X ad  s3 _ h l) rfl rfl (gt 484 (by decide +kernel) rfl) cb_SQ_gatherFree ⟨rfl, rfl⟩ (by rw [hRm]; decide) ⟨Nat.zero_le _, Nat.zero_le _⟩ rfl rfl (Nat.le_of_ble_eq_true rfl) d_SQ_makeRun_22 (gki (fun r7 s6 h => ?_))
    refine g_iload C d_SQ_makeRun_25 4 rfl ?_
    refine g_icmp_ge C 33 d_SQ_makeRun_27 (by decide) (fun c8 => ?_) (fun c8 => ?_)
    · have h := h.1 c8
      refine g_aload_n C d_SQ_makeRun_33 rfl 0 rfl ?_
      refine g_get C (v := .ref (ad 1)) 0 0 iw_SQ rfl rfl (by decide) (gt 229 (by decide +kernel) rfl) rfl rfl d_SQ_makeRun_34 ?_
      refine g_callVN (host := "SpillQueue") C (rest := []) 1 (fun l => m_Disk_keysPerBlock X ad  s6 _ h l) rfl rfl (gn 497 (by decide +kernel) rfl) cb_DK_keysPerBlock ⟨rfl, rfl⟩ (by rw [hRm]; decide) ⟨Nat.zero_le _, Nat.zero_le _⟩ rfl rfl (Nat.le_of_ble_eq_true rfl) d_SQ_makeRun_37 (gki (fun r10 s9 h => ?_))
      refine g_istore C (lv2 := [(0, .ref (ad 0)), (1, .ref (ad 6)), (2, .int a2), (3, .int r2), (4, .int r4), (5, .int r10)]) d_SQ_makeRun_40 (by decide) rfl ?_
      refine g_iconst C 0 d_SQ_makeRun_42 (by decide) ?_
      refine g_istore C (lv2 := [(0, .ref (ad 0)), (1, .ref (ad 6)), (2, .int a2), (3, .int r2), (4, .int r4), (5, .int r10), (6, .int 0)]) d_SQ_makeRun_43 (by decide) rfl ?_
      obtain ⟨n48, h⟩ := h
      refine w_SpillQueue_makeRun_6_45 X ad Q (_) a2 r2 r4 r10 E C hRm r ?_ n48 0 s9 h
      intro v50 s49 h
      refine g_aload_n C d_SQ_makeRun_164 rfl 0 rfl ?_
      refine g_get C (v := .ref (ad 6)) 0 2 iw_SQ rfl rfl (by decide) (gt 231 (by decide +kernel) rfl) rfl rfl d_SQ_makeRun_165 ?_
      refine g_callVN (host := "SpillQueue") C (rest := []) 6 (fun l => m_Runs_dropEmpty X ad  s49 _ h l) rfl rfl (gn 530 (by decide +kernel) rfl) cb_RU_dropEmpty ⟨rfl, rfl⟩ (by rw [hRm]; decide) ⟨Nat.zero_le _, Nat.zero_le _⟩ rfl rfl (Nat.le_of_ble_eq_true rfl) d_SQ_makeRun_168 (gkv (fun s51 h => ?_))
      refine g_aload_n C d_SQ_makeRun_171 rfl 0 rfl ?_
      refine g_get C (v := .ref (ad 6)) 0 2 iw_SQ rfl rfl (by decide) (gt 231 (by decide +kernel) rfl) rfl rfl d_SQ_makeRun_172 ?_
      refine g_aload_n C d_SQ_makeRun_175 rfl 0 rfl ?_
      refine g_get C (v := .ref (ad 20)) 0 6 iw_SQ rfl rfl (by decide) (gt 235 (by decide +kernel) rfl) rfl rfl d_SQ_makeRun_176 ?_
      refine g_iconst C 0 d_SQ_makeRun_179 (by decide) ?_
      obtain ⟨i53, h⟩ := h
      refine g_iald C 20 0 rfl rfl i53 d_SQ_makeRun_180 ?_
      refine g_iconst C 0 d_SQ_makeRun_181 (by decide) ?_
      refine g_iload_n C d_SQ_makeRun_182 rfl 3 rfl ?_
      refine g_iload_n C d_SQ_makeRun_183 rfl 2 rfl ?_
      refine g_callVN (host := "SpillQueue") C (rest := []) 6 (fun l => m_Runs_add X ad (s51.2 12 (0 : Int32).toNatClampNeg) 0 r2 a2 s51 _ h l) rfl rfl (gn 534 (by decide +kernel) rfl) cb_RU_add ⟨rfl, rfl⟩ (by rw [hRm]; decide) ⟨Nat.zero_le _, Nat.zero_le _⟩ rfl rfl (Nat.le_of_ble_eq_true rfl) d_SQ_makeRun_184 (gkv (fun s54 h => ?_))
      refine g_iconst C 0 d_SQ_makeRun_187 (by decide) ?_
      exact g_iret r rfl d_SQ_makeRun_188 (gBi_mk h)
    · have h := h.2 c8
      refine g_bipush C (-2) d_SQ_makeRun_30 (by decide) ?_
      exact g_iret r rfl d_SQ_makeRun_32 (gBi_mk h)
theorem m_SpillQueue_makeRun_6 (X : gX) (ad : Nat → Nat) (a2 : Int32) (s : gS) (Q : Int32 → gS → Prop) (h : wp_SpillQueue_makeRun_6 a2 s Q) (l : Launch) : gM l X y_SQ_makeRun b_SQ_makeRun 9 (some .int) rm_SpillQueue_makeRun_6 [.ref (ad 0), .ref (ad 6), .int a2] (wC ad X s) (gBi (wC ad X) Q) :=
  gM_of (by decide +kernel) rfl (Nat.le_of_ble_eq_true rfl) rfl (fun E C hRm r => w_SpillQueue_makeRun_6 X ad a2 s Q h E C hRm r)
def rm_SpillQueue_mergeCrowdedLevels : Room := { frames := 4, cells := 0, slots := 0, locals := 96 }
def wl_SpillQueue_mergeCrowdedLevels_2 (Q : Int32 → gS → Prop) (K : Int32 → gS → Prop) : Nat → Int32 → gS → Prop
  | 0, _, _ => False
  | n + 1, x1, s => ((9 ≤ x1 → K x1 s) ∧ (¬ 9 ≤ x1 → wp_Runs_crowdedAt (s.1 0) s (fun r3 s2 => ((0 ≤ r3 → vp_in r3 9 ∧ (∀ v6 : Int32, v6 = s2.2 6 r3.toNatClampNeg → wp_Runs_chooseLevel v6 s2 (fun s7 => wp_SpillQueue_makeRun_6 (v6 + 1) s7 (fun r10 s9 => ((r10 = 0 → ∀ v12 : Int32, v12 = x1 + 1 → wl_SpillQueue_mergeCrowdedLevels_2 Q K n v12 s9) ∧ (¬ r10 = 0 → ((¬ r10 = (-2) → Q r10 s9) ∧ (r10 = (-2) → Q 0 s9)))))))) ∧ (¬ 0 ≤ r3 → Q 0 s2)))))
set_option maxHeartbeats 4000000 in
set_option maxRecDepth 100000 in
theorem w_SpillQueue_mergeCrowdedLevels_2 (X : gX) (ad : Nat → Nat) (Q : Int32 → gS → Prop) (K : Int32 → gS → Prop) (E : gE) (C : gC X E b_SQ_mergeCrowdedLevels 5 R_SQ) (hRm : gRm E = rm_SpillQueue_mergeCrowdedLevels) (r : gR X E b_SQ_mergeCrowdedLevels (some .int) (gBi (wC ad X) Q)) (hK : ∀ (x1 : Int32) (s : gS), K x1 s → gW X E 0 0 (wC ad X s) [(0, .ref (ad 0)), (1, .int x1)] 82 []) : ∀ (n : Nat) (x1 : Int32) (s : gS), wl_SpillQueue_mergeCrowdedLevels_2 Q K n x1 s → gW X E 0 0 (wC ad X s) [(0, .ref (ad 0)), (1, .int x1)] 2 [] := by
  intro n
  induction n with
  | zero => intro x1 s h; exact False.elim h
  | succ n ih =>
    intro x1 s h
    have h : ((9 ≤ x1 → K x1 s) ∧ (¬ 9 ≤ x1 → wp_Runs_crowdedAt (s.1 0) s (fun r3 s2 => ((0 ≤ r3 → vp_in r3 9 ∧ (∀ v6 : Int32, v6 = s2.2 6 r3.toNatClampNeg → wp_Runs_chooseLevel v6 s2 (fun s7 => wp_SpillQueue_makeRun_6 (v6 + 1) s7 (fun r10 s9 => ((r10 = 0 → ∀ v12 : Int32, v12 = x1 + 1 → wl_SpillQueue_mergeCrowdedLevels_2 Q K n v12 s9) ∧ (¬ r10 = 0 → ((¬ r10 = (-2) → Q r10 s9) ∧ (r10 = (-2) → Q 0 s9)))))))) ∧ (¬ 0 ≤ r3 → Q 0 s2))))) := h
    refine g_iload_n C d_SQ_mergeCrowdedLevels_2 rfl 1 rfl ?_
    refine g_bipush C 9 d_SQ_mergeCrowdedLevels_3 (by decide) ?_
    refine g_icmp_ge C 82 d_SQ_mergeCrowdedLevels_5 (by decide) (fun c1 => ?_) (fun c1 => ?_)
    · have h := h.1 c1
      exact hK x1 s h
    · have h := h.2 c1
      refine g_aload_n C d_SQ_mergeCrowdedLevels_8 rfl 0 rfl ?_
      refine g_get C (v := .ref (ad 6)) 0 2 iw_SQ rfl rfl (by decide) (gt 231 (by decide +kernel) rfl) rfl rfl d_SQ_mergeCrowdedLevels_9 ?_
      refine g_aload_n C d_SQ_mergeCrowdedLevels_12 rfl 0 rfl ?_
      refine g_get C (v := .int (s.1 0)) 0 7 iw_SQ rfl rfl (by decide) (gt 236 (by decide +kernel) rfl) rfl rfl d_SQ_mergeCrowdedLevels_13 ?_
      refine g_callVN (host := "SpillQueue") C (rest := []) 6 (fun l => m_Runs_crowdedAt X ad (s.1 0) s _ h l) rfl rfl (gn 542 (by decide +kernel) rfl) cb_RU_crowdedAt ⟨rfl, rfl⟩ (by rw [hRm]; decide) ⟨Nat.zero_le _, Nat.zero_le _⟩ rfl rfl (Nat.le_of_ble_eq_true rfl) d_SQ_mergeCrowdedLevels_16 (gki (fun r3 s2 h => ?_))
      refine g_istore_n C (lv2 := [(0, .ref (ad 0)), (1, .int x1), (2, .int r3)]) d_SQ_mergeCrowdedLevels_19 rfl (by decide) rfl ?_
      refine g_iload_n C d_SQ_mergeCrowdedLevels_20 rfl 2 rfl ?_
      refine g_if_ge C 26 d_SQ_mergeCrowdedLevels_21 (by decide) (fun c4 => ?_) (fun c4 => ?_)
      · have h := h.1 c4
        refine g_aload_n C d_SQ_mergeCrowdedLevels_26 rfl 0 rfl ?_
        refine g_get C (v := .ref (ad 6)) 0 2 iw_SQ rfl rfl (by decide) (gt 231 (by decide +kernel) rfl) rfl rfl d_SQ_mergeCrowdedLevels_27 ?_
        refine g_getN (host := "SpillQueue") C (v := .ref (ad 10)) 6 4 iw_RU rfl rfl (by decide) (gn 180 (by decide +kernel) rfl) rfl rfl d_SQ_mergeCrowdedLevels_30 ?_
        refine g_iload_n C d_SQ_mergeCrowdedLevels_33 rfl 2 rfl ?_
        obtain ⟨i5, h⟩ := h
        refine g_iald C 10 0 rfl rfl i5 d_SQ_mergeCrowdedLevels_34 ?_
        refine g_topi (fun v6 e_v6 => ?_)
        have h := h v6 e_v6
        refine g_istore_n C (lv2 := [(0, .ref (ad 0)), (1, .int x1), (2, .int r3), (3, .int v6)]) d_SQ_mergeCrowdedLevels_35 rfl (by decide) rfl ?_
        refine g_aload_n C d_SQ_mergeCrowdedLevels_36 rfl 0 rfl ?_
        refine g_get C (v := .ref (ad 6)) 0 2 iw_SQ rfl rfl (by decide) (gt 231 (by decide +kernel) rfl) rfl rfl d_SQ_mergeCrowdedLevels_37 ?_
        refine g_iload_n C d_SQ_mergeCrowdedLevels_40 rfl 3 rfl ?_
        refine g_callVN (host := "SpillQueue") C (rest := []) 6 (fun l => m_Runs_chooseLevel X ad v6 s2 _ h l) rfl rfl (gn 550 (by decide +kernel) rfl) cb_RU_chooseLevel ⟨rfl, rfl⟩ (by rw [hRm]; decide) ⟨Nat.zero_le _, Nat.zero_le _⟩ rfl rfl (Nat.le_of_ble_eq_true rfl) d_SQ_mergeCrowdedLevels_41 (gkv (fun s7 h => ?_))
        refine g_aload_n C d_SQ_mergeCrowdedLevels_44 rfl 0 rfl ?_
        refine g_aload_n C d_SQ_mergeCrowdedLevels_45 rfl 0 rfl ?_
        refine g_get C (v := .ref (ad 6)) 0 2 iw_SQ rfl rfl (by decide) (gt 231 (by decide +kernel) rfl) rfl rfl d_SQ_mergeCrowdedLevels_46 ?_
        refine g_iload_n C d_SQ_mergeCrowdedLevels_49 rfl 3 rfl ?_
        refine g_iconst C 1 d_SQ_mergeCrowdedLevels_50 (by decide) ?_
        refine g_iadd C d_SQ_mergeCrowdedLevels_51 ?_
        refine g_callV C (rest := []) 0 (fun l => m_SpillQueue_makeRun_6 X ad (v6 + 1) s7 _ h l) rfl rfl (gt 465 (by decide +kernel) rfl) cb_SQ_makeRun ⟨rfl, rfl⟩ (by rw [hRm]; decide) ⟨Nat.zero_le _, Nat.zero_le _⟩ rfl rfl (Nat.le_of_ble_eq_true rfl) d_SQ_mergeCrowdedLevels_52 (gki (fun r10 s9 h => ?_))
        refine g_istore C (lv2 := [(0, .ref (ad 0)), (1, .int x1), (2, .int r3), (3, .int v6), (4, .int r10)]) d_SQ_mergeCrowdedLevels_55 (by decide) rfl ?_
        refine g_iload C d_SQ_mergeCrowdedLevels_57 4 rfl ?_
        refine g_if_eq C 76 d_SQ_mergeCrowdedLevels_59 (by decide) (fun c11 => ?_) (fun c11 => ?_)
        · have h := h.1 c11
          obtain ⟨v12, e_v12⟩ : ∃ y : Int32, y = x1 + 1 := ⟨_, rfl⟩
          have h := h v12 e_v12
          refine g_iinc C (v := v12) (lv2 := [(0, .ref (ad 0)), (1, .int v12), (2, .int r3), (3, .int v6), (4, .int r10)]) d_SQ_mergeCrowdedLevels_76 1 rfl (by rw [e_v12]; rfl) (by decide) rfl ?_
          refine g_goto C 2 d_SQ_mergeCrowdedLevels_79 (by decide) ?_
          refine g_lv C [0, 1] rfl ?_
          exact ih v12 s9 h
        · have h := h.2 c11
          refine g_iload C d_SQ_mergeCrowdedLevels_62 4 rfl ?_
          refine g_bipush C (-2) d_SQ_mergeCrowdedLevels_64 (by decide) ?_
          refine g_icmp_ne C 73 d_SQ_mergeCrowdedLevels_66 (by decide) (fun c13 => ?_) (fun c13 => ?_)
          · have h := h.1 c13
            refine g_iload C d_SQ_mergeCrowdedLevels_73 4 rfl ?_
            exact g_iret r rfl d_SQ_mergeCrowdedLevels_75 (gBi_mk h)
          · have h := h.2 c13
            refine g_iconst C 0 d_SQ_mergeCrowdedLevels_69 (by decide) ?_
            refine g_goto C 75 d_SQ_mergeCrowdedLevels_70 (by decide) ?_
            exact g_iret r rfl d_SQ_mergeCrowdedLevels_75 (gBi_mk h)
      · have h := h.2 c4
        refine g_iconst C 0 d_SQ_mergeCrowdedLevels_24 (by decide) ?_
        exact g_iret r rfl d_SQ_mergeCrowdedLevels_25 (gBi_mk h)
def wp_SpillQueue_mergeCrowdedLevels (s : gS) (Q : Int32 → gS → Prop) : Prop := ∃ n14 : Nat, wl_SpillQueue_mergeCrowdedLevels_2 Q (fun v16 s15 => Q 0 s15)  n14 0 s
set_option maxHeartbeats 4000000 in
set_option maxRecDepth 100000 in
theorem w_SpillQueue_mergeCrowdedLevels (X : gX) (ad : Nat → Nat) (s : gS) (Q : Int32 → gS → Prop) (h : wp_SpillQueue_mergeCrowdedLevels  s Q) (E : gE) (C : gC X E b_SQ_mergeCrowdedLevels 5 R_SQ) (hRm : gRm E = rm_SpillQueue_mergeCrowdedLevels) (r : gR X E b_SQ_mergeCrowdedLevels (some .int) (gBi (wC ad X) Q)) : gW X E 0 0 (wC ad X s) [(0, .ref (ad 0))] 0 [] := by
  have h : ∃ n14 : Nat, wl_SpillQueue_mergeCrowdedLevels_2 Q (fun v16 s15 => Q 0 s15)  n14 0 s := h
  refine g_iconst C 0 d_SQ_mergeCrowdedLevels_0 (by decide) ?_
  refine g_istore_n C (lv2 := [(0, .ref (ad 0)), (1, .int 0)]) d_SQ_mergeCrowdedLevels_1 rfl (by decide) rfl ?_
  obtain ⟨n14, h⟩ := h
  refine w_SpillQueue_mergeCrowdedLevels_2 X ad Q (_)  E C hRm r ?_ n14 0 s h
  intro v16 s15 h
  refine g_iconst C 0 d_SQ_mergeCrowdedLevels_82 (by decide) ?_
  exact g_iret r rfl d_SQ_mergeCrowdedLevels_83 (gBi_mk h)
theorem m_SpillQueue_mergeCrowdedLevels (X : gX) (ad : Nat → Nat) (s : gS) (Q : Int32 → gS → Prop) (h : wp_SpillQueue_mergeCrowdedLevels  s Q) (l : Launch) : gM l X y_SQ_mergeCrowdedLevels b_SQ_mergeCrowdedLevels 5 (some .int) rm_SpillQueue_mergeCrowdedLevels [.ref (ad 0)] (wC ad X s) (gBi (wC ad X) Q) :=
  gM_of (by decide +kernel) rfl (Nat.le_of_ble_eq_true rfl) rfl (fun E C hRm r => w_SpillQueue_mergeCrowdedLevels X ad  s Q h E C hRm r)
end
section
def rm_Runs_chooseAll : Room := { frames := 0, cells := 0, slots := 0, locals := 0 }
def wl_Runs_chooseAll_2 (Q : gS → Prop) (K : Int32 → gS → Prop) : Nat → Int32 → gS → Prop
  | 0, _, _ => False
  | n + 1, x1, s => (((s.1 9) ≤ x1 → K x1 s) ∧ (¬ (s.1 9) ≤ x1 → vp_in x1 9 ∧ (∀ v3 : Int32, v3 = x1 + 1 → wl_Runs_chooseAll_2 Q K n v3 (s.1, ua s.2 8 (upd (s.2 8) x1.toNatClampNeg (vp_nar .boolean 1))))))
set_option maxHeartbeats 4000000 in
set_option maxRecDepth 100000 in
theorem w_Runs_chooseAll_2 (X : gX) (ad : Nat → Nat) (Q : gS → Prop) (K : Int32 → gS → Prop) (E : gE) (C : gC X E b_RU_chooseAll 2 R_RU) (hRm : gRm E = rm_Runs_chooseAll) (r : gR X E b_RU_chooseAll none (gBv (wC ad X) Q)) (hK : ∀ (x1 : Int32) (s : gS), K x1 s → gW X E 0 0 (wC ad X s) [(0, .ref (ad 6)), (1, .int x1)] 23 []) : ∀ (n : Nat) (x1 : Int32) (s : gS), wl_Runs_chooseAll_2 Q K n x1 s → gW X E 0 0 (wC ad X s) [(0, .ref (ad 6)), (1, .int x1)] 2 [] := by
  intro n
  induction n with
  | zero => intro x1 s h; exact False.elim h
  | succ n ih =>
    intro x1 s h
    have h : (((s.1 9) ≤ x1 → K x1 s) ∧ (¬ (s.1 9) ≤ x1 → vp_in x1 9 ∧ (∀ v3 : Int32, v3 = x1 + 1 → wl_Runs_chooseAll_2 Q K n v3 (s.1, ua s.2 8 (upd (s.2 8) x1.toNatClampNeg (vp_nar .boolean 1)))))) := h
    refine g_iload_n C d_RU_chooseAll_2 rfl 1 rfl ?_
    refine g_aload_n C d_RU_chooseAll_3 rfl 0 rfl ?_
    refine g_get C (v := .int (s.1 9)) 6 7 iw_RU rfl rfl (by decide) (gt 183 (by decide +kernel) rfl) rfl rfl d_RU_chooseAll_4 ?_
    refine g_icmp_ge C 23 d_RU_chooseAll_7 (by decide) (fun c1 => ?_) (fun c1 => ?_)
    · have h := h.1 c1
      exact hK x1 s h
    · have h := h.2 c1
      refine g_aload_n C d_RU_chooseAll_10 rfl 0 rfl ?_
      refine g_get C (v := .ref (ad 12)) 6 6 iw_RU rfl rfl (by decide) (gt 182 (by decide +kernel) rfl) rfl rfl d_RU_chooseAll_11 ?_
      refine g_iload_n C d_RU_chooseAll_14 rfl 1 rfl ?_
      refine g_iconst C 1 d_RU_chooseAll_15 (by decide) ?_
      obtain ⟨i2, h⟩ := h
      refine g_zast C 12 1 (ws2 := wC ad X (s.1, ua s.2 8 (upd (s.2 8) x1.toNatClampNeg (vp_nar .boolean 1)))) rfl rfl i2 rfl d_RU_chooseAll_16 ?_
      obtain ⟨v3, e_v3⟩ : ∃ y : Int32, y = x1 + 1 := ⟨_, rfl⟩
      have h := h v3 e_v3
      refine g_iinc C (v := v3) (lv2 := [(0, .ref (ad 6)), (1, .int v3)]) d_RU_chooseAll_17 1 rfl (by rw [e_v3]; rfl) (by decide) rfl ?_
      refine g_goto C 2 d_RU_chooseAll_20 (by decide) ?_
      exact ih v3 (s.1, ua s.2 8 (upd (s.2 8) x1.toNatClampNeg (vp_nar .boolean 1))) h
def wp_Runs_chooseAll (s : gS) (Q : gS → Prop) : Prop := ∃ n4 : Nat, wl_Runs_chooseAll_2 Q (fun v6 s5 => Q s5)  n4 0 s
set_option maxHeartbeats 4000000 in
set_option maxRecDepth 100000 in
theorem w_Runs_chooseAll (X : gX) (ad : Nat → Nat) (s : gS) (Q : gS → Prop) (h : wp_Runs_chooseAll  s Q) (E : gE) (C : gC X E b_RU_chooseAll 2 R_RU) (hRm : gRm E = rm_Runs_chooseAll) (r : gR X E b_RU_chooseAll none (gBv (wC ad X) Q)) : gW X E 0 0 (wC ad X s) [(0, .ref (ad 6))] 0 [] := by
  have h : ∃ n4 : Nat, wl_Runs_chooseAll_2 Q (fun v6 s5 => Q s5)  n4 0 s := h
  refine g_iconst C 0 d_RU_chooseAll_0 (by decide) ?_
  refine g_istore_n C (lv2 := [(0, .ref (ad 6)), (1, .int 0)]) d_RU_chooseAll_1 rfl (by decide) rfl ?_
  obtain ⟨n4, h⟩ := h
  refine w_Runs_chooseAll_2 X ad Q (_)  E C hRm r ?_ n4 0 s h
  intro v6 s5 h
  exact g_vret r d_RU_chooseAll_23 (gBv_mk h)
theorem m_Runs_chooseAll (X : gX) (ad : Nat → Nat) (s : gS) (Q : gS → Prop) (h : wp_Runs_chooseAll  s Q) (l : Launch) : gM l X y_RU_chooseAll b_RU_chooseAll 2 none rm_Runs_chooseAll [.ref (ad 6)] (wC ad X s) (gBv (wC ad X) Q) :=
  gM_of (by decide +kernel) rfl (Nat.le_of_ble_eq_true rfl) rfl (fun E C hRm r => w_Runs_chooseAll X ad  s Q h E C hRm r)
def rm_Runs_greatestLevel : Room := { frames := 1, cells := 0, slots := 0, locals := 13 }
def wl_Runs_greatestLevel_9 (Q : Int32 → gS → Prop) (K : Int32 → Int32 → gS → Prop) : Nat → Int32 → Int32 → gS → Prop
  | 0, _, _, _ => False
  | n + 1, x1, x2, s => (((s.1 9) ≤ x2 → K x1 x2 s) ∧ (¬ (s.1 9) ≤ x2 → vp_in x2 9 ∧ (∀ v5 : Int32, v5 = (if x1 < (s.2 6 x2.toNatClampNeg) then (s.2 6 x2.toNatClampNeg) else x1) → ∀ v6 : Int32, v6 = x2 + 1 → wl_Runs_greatestLevel_9 Q K n v5 v6 s)))
set_option maxHeartbeats 4000000 in
set_option maxRecDepth 100000 in
theorem w_Runs_greatestLevel_9 (X : gX) (ad : Nat → Nat) (Q : Int32 → gS → Prop) (K : Int32 → Int32 → gS → Prop) (E : gE) (C : gC X E b_RU_greatestLevel 3 R_RU) (hRm : gRm E = rm_Runs_greatestLevel) (r : gR X E b_RU_greatestLevel (some .int) (gBi (wC ad X) Q)) (hK : ∀ (x1 : Int32) (x2 : Int32) (s : gS), K x1 x2 s → gW X E 0 0 (wC ad X s) [(0, .ref (ad 6)), (1, .int x1), (2, .int x2)] 34 []) : ∀ (n : Nat) (x1 : Int32) (x2 : Int32) (s : gS), wl_Runs_greatestLevel_9 Q K n x1 x2 s → gW X E 0 0 (wC ad X s) [(0, .ref (ad 6)), (1, .int x1), (2, .int x2)] 9 [] := by
  intro n
  induction n with
  | zero => intro x1 x2 s h; exact False.elim h
  | succ n ih =>
    intro x1 x2 s h
    have h : (((s.1 9) ≤ x2 → K x1 x2 s) ∧ (¬ (s.1 9) ≤ x2 → vp_in x2 9 ∧ (∀ v5 : Int32, v5 = (if x1 < (s.2 6 x2.toNatClampNeg) then (s.2 6 x2.toNatClampNeg) else x1) → ∀ v6 : Int32, v6 = x2 + 1 → wl_Runs_greatestLevel_9 Q K n v5 v6 s))) := h
    refine g_iload_n C d_RU_greatestLevel_9 rfl 2 rfl ?_
    refine g_aload_n C d_RU_greatestLevel_10 rfl 0 rfl ?_
    refine g_get C (v := .int (s.1 9)) 6 7 iw_RU rfl rfl (by decide) (gt 183 (by decide +kernel) rfl) rfl rfl d_RU_greatestLevel_11 ?_
    refine g_icmp_ge C 34 d_RU_greatestLevel_14 (by decide) (fun c3 => ?_) (fun c3 => ?_)
    · have h := h.1 c3
      exact hK x1 x2 s h
    · have h := h.2 c3
      refine g_iload_n C d_RU_greatestLevel_17 rfl 1 rfl ?_
      refine g_aload_n C d_RU_greatestLevel_18 rfl 0 rfl ?_
      refine g_get C (v := .ref (ad 10)) 6 4 iw_RU rfl rfl (by decide) (gt 178 (by decide +kernel) rfl) rfl rfl d_RU_greatestLevel_19 ?_
      refine g_iload_n C d_RU_greatestLevel_22 rfl 2 rfl ?_
      obtain ⟨i4, h⟩ := h
      refine g_iald C 10 0 rfl rfl i4 d_RU_greatestLevel_23 ?_
      refine g_mmax C (gt 462 (by decide +kernel) rfl) (gt 463 (by decide +kernel) rfl) (gt 102 (by decide +kernel) rfl) (gt 464 rfl rfl) (by rw [hRm]; decide) ⟨Nat.zero_le _, Nat.zero_le _⟩ d_RU_greatestLevel_24 ?_
      refine g_topi (fun v5 e_v5 => ?_)
      have h := h v5 e_v5
      refine g_istore_n C (lv2 := [(0, .ref (ad 6)), (1, .int v5), (2, .int x2)]) d_RU_greatestLevel_27 rfl (by decide) rfl ?_
      obtain ⟨v6, e_v6⟩ : ∃ y : Int32, y = x2 + 1 := ⟨_, rfl⟩
      have h := h v6 e_v6
      refine g_iinc C (v := v6) (lv2 := [(0, .ref (ad 6)), (1, .int v5), (2, .int v6)]) d_RU_greatestLevel_28 2 rfl (by rw [e_v6]; rfl) (by decide) rfl ?_
      refine g_goto C 9 d_RU_greatestLevel_31 (by decide) ?_
      exact ih v5 v6 s h
def wp_Runs_greatestLevel (s : gS) (Q : Int32 → gS → Prop) : Prop := vp_in 0 9 ∧ (∀ v2 : Int32, v2 = s.2 6 (0 : Int32).toNatClampNeg → ∃ n7 : Nat, wl_Runs_greatestLevel_9 Q (fun v9 v10 s8 => Q v9 s8)  n7 v2 1 s)
set_option maxHeartbeats 4000000 in
set_option maxRecDepth 100000 in
theorem w_Runs_greatestLevel (X : gX) (ad : Nat → Nat) (s : gS) (Q : Int32 → gS → Prop) (h : wp_Runs_greatestLevel  s Q) (E : gE) (C : gC X E b_RU_greatestLevel 3 R_RU) (hRm : gRm E = rm_Runs_greatestLevel) (r : gR X E b_RU_greatestLevel (some .int) (gBi (wC ad X) Q)) : gW X E 0 0 (wC ad X s) [(0, .ref (ad 6))] 0 [] := by
  have h : vp_in 0 9 ∧ (∀ v2 : Int32, v2 = s.2 6 (0 : Int32).toNatClampNeg → ∃ n7 : Nat, wl_Runs_greatestLevel_9 Q (fun v9 v10 s8 => Q v9 s8)  n7 v2 1 s) := h
  refine g_aload_n C d_RU_greatestLevel_0 rfl 0 rfl ?_
  refine g_get C (v := .ref (ad 10)) 6 4 iw_RU rfl rfl (by decide) (gt 178 (by decide +kernel) rfl) rfl rfl d_RU_greatestLevel_1 ?_
  refine g_iconst C 0 d_RU_greatestLevel_4 (by decide) ?_
  obtain ⟨i1, h⟩ := h
  refine g_iald C 10 0 rfl rfl i1 d_RU_greatestLevel_5 ?_
  refine g_topi (fun v2 e_v2 => ?_)
  have h := h v2 e_v2
  refine g_istore_n C (lv2 := [(0, .ref (ad 6)), (1, .int v2)]) d_RU_greatestLevel_6 rfl (by decide) rfl ?_
  refine g_iconst C 1 d_RU_greatestLevel_7 (by decide) ?_
  refine g_istore_n C (lv2 := [(0, .ref (ad 6)), (1, .int v2), (2, .int 1)]) d_RU_greatestLevel_8 rfl (by decide) rfl ?_
  obtain ⟨n7, h⟩ := h
  refine w_Runs_greatestLevel_9 X ad Q (_)  E C hRm r ?_ n7 v2 1 s h
  intro v9 v10 s8 h
  refine g_iload_n C d_RU_greatestLevel_34 rfl 1 rfl ?_
  exact g_iret r rfl d_RU_greatestLevel_35 (gBi_mk h)
theorem m_Runs_greatestLevel (X : gX) (ad : Nat → Nat) (s : gS) (Q : Int32 → gS → Prop) (h : wp_Runs_greatestLevel  s Q) (l : Launch) : gM l X y_RU_greatestLevel b_RU_greatestLevel 3 (some .int) rm_Runs_greatestLevel [.ref (ad 6)] (wC ad X s) (gBi (wC ad X) Q) :=
  gM_of (by decide +kernel) rfl (Nat.le_of_ble_eq_true rfl) rfl (fun E C hRm r => w_Runs_greatestLevel X ad  s Q h E C hRm r)
def rm_SpillQueue_spill : Room := { frames := 5, cells := 0, slots := 0, locals := 120 }
def wp_SpillQueue_spill (s : gS) (Q : Int32 → gS → Prop) : Prop := wp_Disk_mostRuns s (fun r2 s1 => (((s.1 9) < r2 → wp_SpillQueue_makeRun_4 0 s1 (fun r5 s4 => ((¬ r5 = 0 → Q r5 s4) ∧ (r5 = 0 → wp_SpillQueue_mergeCrowdedLevels s4 (fun r8 s7 => Q r8 s7))))) ∧ (¬ (s.1 9) < r2 → wp_Runs_chooseAll s1 (fun s9 => wp_Runs_greatestLevel s9 (fun r12 s11 => wp_SpillQueue_makeRun_6 (r12 + 1) s11 (fun r14 s13 => ((r14 = 0 → wp_SpillQueue_makeRun_4 0 s13 (fun r17 s16 => ((¬ r17 = 0 → Q r17 s16) ∧ (r17 = 0 → wp_SpillQueue_mergeCrowdedLevels s16 (fun r20 s19 => Q r20 s19))))) ∧ (¬ r14 = 0 → Q r14 s13))))))))
set_option maxHeartbeats 4000000 in
set_option maxRecDepth 100000 in
theorem w_SpillQueue_spill (X : gX) (ad : Nat → Nat) (s : gS) (Q : Int32 → gS → Prop) (h : wp_SpillQueue_spill  s Q) (E : gE) (C : gC X E b_SQ_spill 2 R_SQ) (hRm : gRm E = rm_SpillQueue_spill) (r : gR X E b_SQ_spill (some .int) (gBi (wC ad X) Q)) : gW X E 0 0 (wC ad X s) [(0, .ref (ad 0))] 0 [] := by
  have h : wp_Disk_mostRuns s (fun r2 s1 => (((s.1 9) < r2 → wp_SpillQueue_makeRun_4 0 s1 (fun r5 s4 => ((¬ r5 = 0 → Q r5 s4) ∧ (r5 = 0 → wp_SpillQueue_mergeCrowdedLevels s4 (fun r8 s7 => Q r8 s7))))) ∧ (¬ (s.1 9) < r2 → wp_Runs_chooseAll s1 (fun s9 => wp_Runs_greatestLevel s9 (fun r12 s11 => wp_SpillQueue_makeRun_6 (r12 + 1) s11 (fun r14 s13 => ((r14 = 0 → wp_SpillQueue_makeRun_4 0 s13 (fun r17 s16 => ((¬ r17 = 0 → Q r17 s16) ∧ (r17 = 0 → wp_SpillQueue_mergeCrowdedLevels s16 (fun r20 s19 => Q r20 s19))))) ∧ (¬ r14 = 0 → Q r14 s13)))))))) := h
  refine g_aload_n C d_SQ_spill_0 rfl 0 rfl ?_
  refine g_get C (v := .ref (ad 6)) 0 2 iw_SQ rfl rfl (by decide) (gt 231 (by decide +kernel) rfl) rfl rfl d_SQ_spill_1 ?_
  refine g_getN (host := "SpillQueue") C (v := .int (s.1 9)) 6 7 iw_RU rfl rfl (by decide) (gn 185 (by decide +kernel) rfl) rfl rfl d_SQ_spill_4 ?_
  refine g_aload_n C d_SQ_spill_7 rfl 0 rfl ?_
  refine g_get C (v := .ref (ad 1)) 0 0 iw_SQ rfl rfl (by decide) (gt 229 (by decide +kernel) rfl) rfl rfl d_SQ_spill_8 ?_
  refine g_callVN (host := "SpillQueue") C (rest := [.int (s.1 9)]) 1 (fun l => m_Disk_mostRuns X ad  s _ h l) rfl rfl (gn 450 (by decide +kernel) rfl) cb_DK_mostRuns ⟨rfl, rfl⟩ (by rw [hRm]; decide) ⟨Nat.zero_le _, Nat.zero_le _⟩ rfl rfl (Nat.le_of_ble_eq_true rfl) d_SQ_spill_11 (gki (fun r2 s1 h => ?_))
  refine g_icmp_lt C 48 d_SQ_spill_14 (by decide) (fun c3 => ?_) (fun c3 => ?_)
  · have h := h.1 c3
    refine g_aload_n C d_SQ_spill_48 rfl 0 rfl ?_
    refine g_aload_n C d_SQ_spill_49 rfl 0 rfl ?_
    refine g_get C (v := .ref (ad 4)) 0 1 iw_SQ rfl rfl (by decide) (gt 230 (by decide +kernel) rfl) rfl rfl d_SQ_spill_50 ?_
    refine g_iconst C 0 d_SQ_spill_53 (by decide) ?_
    refine g_callV C (rest := []) 0 (fun l => m_SpillQueue_makeRun_4 X ad 0 s1 _ h l) rfl rfl (gt 465 (by decide +kernel) rfl) cb_SQ_makeRun ⟨rfl, rfl⟩ (by rw [hRm]; decide) ⟨Nat.zero_le _, Nat.zero_le _⟩ rfl rfl (Nat.le_of_ble_eq_true rfl) d_SQ_spill_54 (gki (fun r5 s4 h => ?_))
    refine g_istore_n C (lv2 := [(0, .ref (ad 0)), (1, .int r5)]) d_SQ_spill_57 rfl (by decide) rfl ?_
    refine g_iload_n C d_SQ_spill_58 rfl 1 rfl ?_
    refine g_if_ne C 69 d_SQ_spill_59 (by decide) (fun c6 => ?_) (fun c6 => ?_)
    · have h := h.1 c6
      refine g_iload_n C d_SQ_spill_69 rfl 1 rfl ?_
      exact g_iret r rfl d_SQ_spill_70 (gBi_mk h)
    · have h := h.2 c6
      refine g_aload_n C d_SQ_spill_62 rfl 0 rfl ?_
      refine g_callV C (rest := []) 0 (fun l => m_SpillQueue_mergeCrowdedLevels X ad  s4 _ h l) rfl rfl (gt 538 (by decide +kernel) rfl) cb_SQ_mergeCrowdedLevels ⟨rfl, rfl⟩ (by rw [hRm]; decide) ⟨Nat.zero_le _, Nat.zero_le _⟩ rfl rfl (Nat.le_of_ble_eq_true rfl) d_SQ_spill_63 (gki (fun r8 s7 h => ?_))
      refine g_goto C 70 d_SQ_spill_66 (by decide) ?_
      exact g_iret r rfl d_SQ_spill_70 (gBi_mk h)
  · have h := h.2 c3
    refine g_aload_n C d_SQ_spill_17 rfl 0 rfl ?_
    refine g_get C (v := .ref (ad 6)) 0 2 iw_SQ rfl rfl (by decide) (gt 231 (by decide +kernel) rfl) rfl rfl d_SQ_spill_18 ?_
    refine g_callVN (host := "SpillQueue") C (rest := []) 6 (fun l => m_Runs_chooseAll X ad  s1 _ h l) rfl rfl (gn 454 (by decide +kernel) rfl) cb_RU_chooseAll ⟨rfl, rfl⟩ (by rw [hRm]; decide) ⟨Nat.zero_le _, Nat.zero_le _⟩ rfl rfl (Nat.le_of_ble_eq_true rfl) d_SQ_spill_21 (gkv (fun s9 h => ?_))
    refine g_aload_n C d_SQ_spill_24 rfl 0 rfl ?_
    refine g_aload_n C d_SQ_spill_25 rfl 0 rfl ?_
    refine g_get C (v := .ref (ad 6)) 0 2 iw_SQ rfl rfl (by decide) (gt 231 (by decide +kernel) rfl) rfl rfl d_SQ_spill_26 ?_
    refine g_aload_n C d_SQ_spill_29 rfl 0 rfl ?_
    refine g_get C (v := .ref (ad 6)) 0 2 iw_SQ rfl rfl (by decide) (gt 231 (by decide +kernel) rfl) rfl rfl d_SQ_spill_30 ?_
    refine g_callVN (host := "SpillQueue") C (rest := [.ref (ad 6), .ref (ad 0)]) 6 (fun l => m_Runs_greatestLevel X ad  s9 _ h l) rfl rfl (gn 458 (by decide +kernel) rfl) cb_RU_greatestLevel ⟨rfl, rfl⟩ (by rw [hRm]; decide) ⟨Nat.zero_le _, Nat.zero_le _⟩ rfl rfl (Nat.le_of_ble_eq_true rfl) d_SQ_spill_33 (gki (fun r12 s11 h => ?_))
    refine g_iconst C 1 d_SQ_spill_36 (by decide) ?_
    refine g_iadd C d_SQ_spill_37 ?_
    refine g_callV C (rest := []) 0 (fun l => m_SpillQueue_makeRun_6 X ad (r12 + 1) s11 _ h l) rfl rfl (gt 465 (by decide +kernel) rfl) cb_SQ_makeRun ⟨rfl, rfl⟩ (by rw [hRm]; decide) ⟨Nat.zero_le _, Nat.zero_le _⟩ rfl rfl (Nat.le_of_ble_eq_true rfl) d_SQ_spill_38 (gki (fun r14 s13 h => ?_))
    refine g_istore_n C (lv2 := [(0, .ref (ad 0)), (1, .int r14)]) d_SQ_spill_41 rfl (by decide) rfl ?_
    refine g_iload_n C d_SQ_spill_42 rfl 1 rfl ?_
    refine g_if_eq C 48 d_SQ_spill_43 (by decide) (fun c15 => ?_) (fun c15 => ?_)
    · have h := h.1 c15
      refine g_aload_n C d_SQ_spill_48 rfl 0 rfl ?_
      refine g_aload_n C d_SQ_spill_49 rfl 0 rfl ?_
      refine g_get C (v := .ref (ad 4)) 0 1 iw_SQ rfl rfl (by decide) (gt 230 (by decide +kernel) rfl) rfl rfl d_SQ_spill_50 ?_
      refine g_iconst C 0 d_SQ_spill_53 (by decide) ?_
      refine g_callV C (rest := []) 0 (fun l => m_SpillQueue_makeRun_4 X ad 0 s13 _ h l) rfl rfl (gt 465 (by decide +kernel) rfl) cb_SQ_makeRun ⟨rfl, rfl⟩ (by rw [hRm]; decide) ⟨Nat.zero_le _, Nat.zero_le _⟩ rfl rfl (Nat.le_of_ble_eq_true rfl) d_SQ_spill_54 (gki (fun r17 s16 h => ?_))
      refine g_istore_n C (lv2 := [(0, .ref (ad 0)), (1, .int r17)]) d_SQ_spill_57 rfl (by decide) rfl ?_
      refine g_iload_n C d_SQ_spill_58 rfl 1 rfl ?_
      refine g_if_ne C 69 d_SQ_spill_59 (by decide) (fun c18 => ?_) (fun c18 => ?_)
      · have h := h.1 c18
        refine g_iload_n C d_SQ_spill_69 rfl 1 rfl ?_
        exact g_iret r rfl d_SQ_spill_70 (gBi_mk h)
      · have h := h.2 c18
        refine g_aload_n C d_SQ_spill_62 rfl 0 rfl ?_
        refine g_callV C (rest := []) 0 (fun l => m_SpillQueue_mergeCrowdedLevels X ad  s16 _ h l) rfl rfl (gt 538 (by decide +kernel) rfl) cb_SQ_mergeCrowdedLevels ⟨rfl, rfl⟩ (by rw [hRm]; decide) ⟨Nat.zero_le _, Nat.zero_le _⟩ rfl rfl (Nat.le_of_ble_eq_true rfl) d_SQ_spill_63 (gki (fun r20 s19 h => ?_))
        refine g_goto C 70 d_SQ_spill_66 (by decide) ?_
        exact g_iret r rfl d_SQ_spill_70 (gBi_mk h)
    · have h := h.2 c15
      refine g_iload_n C d_SQ_spill_46 rfl 1 rfl ?_
      exact g_iret r rfl d_SQ_spill_47 (gBi_mk h)
theorem m_SpillQueue_spill (X : gX) (ad : Nat → Nat) (s : gS) (Q : Int32 → gS → Prop) (h : wp_SpillQueue_spill  s Q) (l : Launch) : gM l X y_SQ_spill b_SQ_spill 2 (some .int) rm_SpillQueue_spill [.ref (ad 0)] (wC ad X s) (gBi (wC ad X) Q) :=
  gM_of (by decide +kernel) rfl (Nat.le_of_ble_eq_true rfl) rfl (fun E C hRm r => w_SpillQueue_spill X ad  s Q h E C hRm r)
def rm_Runs_headOf : Room := { frames := 1, cells := 0, slots := 0, locals := 21 }
def wp_Runs_headOf (a1 : Int32) (s : gS) (Q : Int32 → gS → Prop) : Prop := wp_Runs_has a1 s (fun r2 s1 => ((r2 = 0 → Q (-1) s1) ∧ (¬ r2 = 0 → vp_in a1 9 ∧ (Q (s1.2 7 a1.toNatClampNeg) s1))))
set_option maxHeartbeats 4000000 in
set_option maxRecDepth 100000 in
theorem w_Runs_headOf (X : gX) (ad : Nat → Nat) (a1 : Int32) (s : gS) (Q : Int32 → gS → Prop) (h : wp_Runs_headOf a1 s Q) (E : gE) (C : gC X E b_RU_headOf 2 R_RU) (hRm : gRm E = rm_Runs_headOf) (r : gR X E b_RU_headOf (some .int) (gBi (wC ad X) Q)) : gW X E 0 0 (wC ad X s) [(0, .ref (ad 6)), (1, .int a1)] 0 [] := by
  have h : wp_Runs_has a1 s (fun r2 s1 => ((r2 = 0 → Q (-1) s1) ∧ (¬ r2 = 0 → vp_in a1 9 ∧ (Q (s1.2 7 a1.toNatClampNeg) s1)))) := h
  refine g_aload_n C d_RU_headOf_0 rfl 0 rfl ?_
  refine g_iload_n C d_RU_headOf_1 rfl 1 rfl ?_
  refine g_callV C (rest := []) 6 (fun l => m_Runs_has X ad a1 s _ h l) rfl rfl (gt 524 (by decide +kernel) rfl) cb_RU_has ⟨rfl, rfl⟩ (by rw [hRm]; decide) ⟨Nat.zero_le _, Nat.zero_le _⟩ rfl rfl (Nat.le_of_ble_eq_true rfl) d_RU_headOf_2 (gki (fun r2 s1 h => ?_))
  refine g_if_eq C 17 d_RU_headOf_5 (by decide) (fun c3 => ?_) (fun c3 => ?_)
  · have h := h.1 c3
    refine g_iconst C (-1) d_RU_headOf_17 (by decide) ?_
    exact g_iret r rfl d_RU_headOf_18 (gBi_mk h)
  · have h := h.2 c3
    refine g_aload_n C d_RU_headOf_8 rfl 0 rfl ?_
    refine g_get C (v := .ref (ad 11)) 6 5 iw_RU rfl rfl (by decide) (gt 181 (by decide +kernel) rfl) rfl rfl d_RU_headOf_9 ?_
    refine g_iload_n C d_RU_headOf_12 rfl 1 rfl ?_
    obtain ⟨i4, h⟩ := h
    refine g_iald C 11 0 rfl rfl i4 d_RU_headOf_13 ?_
    refine g_goto C 18 d_RU_headOf_14 (by decide) ?_
    exact g_iret r rfl d_RU_headOf_18 (gBi_mk h)
theorem m_Runs_headOf (X : gX) (ad : Nat → Nat) (a1 : Int32) (s : gS) (Q : Int32 → gS → Prop) (h : wp_Runs_headOf a1 s Q) (l : Launch) : gM l X y_RU_headOf b_RU_headOf 2 (some .int) rm_Runs_headOf [.ref (ad 6), .int a1] (wC ad X s) (gBi (wC ad X) Q) :=
  gM_of (by decide +kernel) rfl (Nat.le_of_ble_eq_true rfl) rfl (fun E C hRm r => w_Runs_headOf X ad a1 s Q h E C hRm r)
def rm_SpillQueue_isLeastInMemory : Room := { frames := 2, cells := 0, slots := 0, locals := 42 }
def wp_SpillQueue_isLeastInMemory (a1 : Int32) (s : gS) (Q : Int32 → gS → Prop) : Prop := wp_Memory_howMany s (fun r2 s1 => ((r2 ≤ 0 → Q 0 s1) ∧ (¬ r2 ≤ 0 → ((a1 < 0 → Q 1 s1) ∧ (¬ a1 < 0 → wp_Memory_least s1 (fun r6 s5 => wp_Runs_headOf a1 s5 (fun r8 s7 => ((r8 < r6 → Q 0 s7) ∧ (¬ r8 < r6 → Q 1 s7)))))))))
set_option maxHeartbeats 4000000 in
set_option maxRecDepth 100000 in
theorem w_SpillQueue_isLeastInMemory (X : gX) (ad : Nat → Nat) (a1 : Int32) (s : gS) (Q : Int32 → gS → Prop) (h : wp_SpillQueue_isLeastInMemory a1 s Q) (E : gE) (C : gC X E b_SQ_isLeastInMemory 2 R_SQ) (hRm : gRm E = rm_SpillQueue_isLeastInMemory) (r : gR X E b_SQ_isLeastInMemory (some .boolean) (gBi (wC ad X) Q)) : gW X E 0 0 (wC ad X s) [(0, .ref (ad 0)), (1, .int a1)] 0 [] := by
  have h : wp_Memory_howMany s (fun r2 s1 => ((r2 ≤ 0 → Q 0 s1) ∧ (¬ r2 ≤ 0 → ((a1 < 0 → Q 1 s1) ∧ (¬ a1 < 0 → wp_Memory_least s1 (fun r6 s5 => wp_Runs_headOf a1 s5 (fun r8 s7 => ((r8 < r6 → Q 0 s7) ∧ (¬ r8 < r6 → Q 1 s7))))))))) := h
  refine g_aload_n C d_SQ_isLeastInMemory_0 rfl 0 rfl ?_
  refine g_get C (v := .ref (ad 4)) 0 1 iw_SQ rfl rfl (by decide) (gt 230 (by decide +kernel) rfl) rfl rfl d_SQ_isLeastInMemory_1 ?_
  refine g_callV C (rest := []) 4 (fun l => m_Memory_howMany X ad  s _ h l) rfl rfl (gt 264 (by decide +kernel) rfl) cb_ME_howMany ⟨rfl, rfl⟩ (by rw [hRm]; decide) ⟨Nat.zero_le _, Nat.zero_le _⟩ rfl rfl (Nat.le_of_ble_eq_true rfl) d_SQ_isLeastInMemory_4 (gki (fun r2 s1 h => ?_))
  refine g_if_le C 36 d_SQ_isLeastInMemory_7 (by decide) (fun c3 => ?_) (fun c3 => ?_)
  · have h := h.1 c3
    refine g_iconst C 0 d_SQ_isLeastInMemory_36 (by decide) ?_
    exact g_iret r rfl d_SQ_isLeastInMemory_37 (gBi_mk h)
  · have h := h.2 c3
    refine g_iload_n C d_SQ_isLeastInMemory_10 rfl 1 rfl ?_
    refine g_if_lt C 32 d_SQ_isLeastInMemory_11 (by decide) (fun c4 => ?_) (fun c4 => ?_)
    · have h := h.1 c4
      refine g_iconst C 1 d_SQ_isLeastInMemory_32 (by decide) ?_
      refine g_goto C 37 d_SQ_isLeastInMemory_33 (by decide) ?_
      exact g_iret r rfl d_SQ_isLeastInMemory_37 (gBi_mk h)
    · have h := h.2 c4
      refine g_aload_n C d_SQ_isLeastInMemory_14 rfl 0 rfl ?_
      refine g_get C (v := .ref (ad 4)) 0 1 iw_SQ rfl rfl (by decide) (gt 230 (by decide +kernel) rfl) rfl rfl d_SQ_isLeastInMemory_15 ?_
      refine g_callVN (host := "SpillQueue") C (rest := []) 4 (fun l => m_Memory_least X ad  s1 _ h l) rfl rfl (gn 570 (by decide +kernel) rfl) cb_ME_least ⟨rfl, rfl⟩ (by rw [hRm]; decide) ⟨Nat.zero_le _, Nat.zero_le _⟩ rfl rfl (Nat.le_of_ble_eq_true rfl) d_SQ_isLeastInMemory_18 (gki (fun r6 s5 h => ?_))
      refine g_aload_n C d_SQ_isLeastInMemory_21 rfl 0 rfl ?_
      refine g_get C (v := .ref (ad 6)) 0 2 iw_SQ rfl rfl (by decide) (gt 231 (by decide +kernel) rfl) rfl rfl d_SQ_isLeastInMemory_22 ?_
      refine g_iload_n C d_SQ_isLeastInMemory_25 rfl 1 rfl ?_
      refine g_callVN (host := "SpillQueue") C (rest := [.int r6]) 6 (fun l => m_Runs_headOf X ad a1 s5 _ h l) rfl rfl (gn 571 (by decide +kernel) rfl) cb_RU_headOf ⟨rfl, rfl⟩ (by rw [hRm]; decide) ⟨Nat.zero_le _, Nat.zero_le _⟩ rfl rfl (Nat.le_of_ble_eq_true rfl) d_SQ_isLeastInMemory_26 (gki (fun r8 s7 h => ?_))
      refine g_icmp_gt C 36 d_SQ_isLeastInMemory_29 (by decide) (fun c9 => ?_) (fun c9 => ?_)
      · have h := h.1 c9
        refine g_iconst C 0 d_SQ_isLeastInMemory_36 (by decide) ?_
        exact g_iret r rfl d_SQ_isLeastInMemory_37 (gBi_mk h)
      · have h := h.2 c9
        refine g_iconst C 1 d_SQ_isLeastInMemory_32 (by decide) ?_
        refine g_goto C 37 d_SQ_isLeastInMemory_33 (by decide) ?_
        exact g_iret r rfl d_SQ_isLeastInMemory_37 (gBi_mk h)
theorem m_SpillQueue_isLeastInMemory (X : gX) (ad : Nat → Nat) (a1 : Int32) (s : gS) (Q : Int32 → gS → Prop) (h : wp_SpillQueue_isLeastInMemory a1 s Q) (l : Launch) : gM l X y_SQ_isLeastInMemory b_SQ_isLeastInMemory 2 (some .boolean) rm_SpillQueue_isLeastInMemory [.ref (ad 0), .int a1] (wC ad X s) (gBi (wC ad X) Q) :=
  gM_of (by decide +kernel) rfl (Nat.le_of_ble_eq_true rfl) rfl (fun E C hRm r => w_SpillQueue_isLeastInMemory X ad a1 s Q h E C hRm r)
def rm_Superblocks_epochOf : Room := { frames := 1, cells := 0, slots := 0, locals := 22 }
def wp_Superblocks_epochOf (a1 : Int32) (s : gS) (Q : Int32 → gS → Prop) : Prop := wp_Disk_get a1 1 s (fun r2 s1 => Q r2 s1)
set_option maxHeartbeats 4000000 in
set_option maxRecDepth 100000 in
theorem w_Superblocks_epochOf (X : gX) (ad : Nat → Nat) (a1 : Int32) (s : gS) (Q : Int32 → gS → Prop) (h : wp_Superblocks_epochOf a1 s Q) (E : gE) (C : gC X E b_SB_epochOf 2 R_SB) (hRm : gRm E = rm_Superblocks_epochOf) (r : gR X E b_SB_epochOf (some .int) (gBi (wC ad X) Q)) : gW X E 0 0 (wC ad X s) [(0, .ref (ad 13)), (1, .int a1)] 0 [] := by
  have h : wp_Disk_get a1 1 s (fun r2 s1 => Q r2 s1) := h
  refine g_aload_n C d_SB_epochOf_0 rfl 0 rfl ?_
  refine g_get C (v := .ref (ad 1)) 13 0 iw_SB rfl rfl (by decide) (gt 220 (by decide +kernel) rfl) rfl rfl d_SB_epochOf_1 ?_
  refine g_iload_n C d_SB_epochOf_4 rfl 1 rfl ?_
  refine g_iconst C 1 d_SB_epochOf_5 (by decide) ?_
  refine g_callVN (host := "SpillQueue") C (rest := []) 1 (fun l => m_Disk_get X ad a1 1 s _ h l) rfl rfl (gn 630 (by decide +kernel) rfl) cb_DK_get ⟨rfl, rfl⟩ (by rw [hRm]; decide) ⟨Nat.zero_le _, Nat.zero_le _⟩ rfl rfl (Nat.le_of_ble_eq_true rfl) d_SB_epochOf_6 (gki (fun r2 s1 h => ?_))
  exact g_iret r rfl d_SB_epochOf_9 (gBi_mk h)
theorem m_Superblocks_epochOf (X : gX) (ad : Nat → Nat) (a1 : Int32) (s : gS) (Q : Int32 → gS → Prop) (h : wp_Superblocks_epochOf a1 s Q) (l : Launch) : gM l X y_SB_epochOf b_SB_epochOf 2 (some .int) rm_Superblocks_epochOf [.ref (ad 13), .int a1] (wC ad X s) (gBi (wC ad X) Q) :=
  gM_of (by decide +kernel) rfl (Nat.le_of_ble_eq_true rfl) rfl (fun E C hRm r => w_Superblocks_epochOf X ad a1 s Q h E C hRm r)
def rm_BlockSet_clear_14 : Room := { frames := 0, cells := 0, slots := 0, locals := 0 }
def wl_BlockSet_clear_14_2 (Q : gS → Prop) (K : Int32 → gS → Prop) : Nat → Int32 → gS → Prop
  | 0, _, _ => False
  | n + 1, x1, s => ((200 ≤ x1 → K x1 s) ∧ (¬ 200 ≤ x1 → vp_in x1 200 ∧ (∀ v3 : Int32, v3 = x1 + 1 → wl_BlockSet_clear_14_2 Q K n v3 (s.1, ua s.2 9 (upd (s.2 9) x1.toNatClampNeg (vp_nar .boolean 0))))))
set_option maxHeartbeats 4000000 in
set_option maxRecDepth 100000 in
theorem w_BlockSet_clear_14_2 (X : gX) (ad : Nat → Nat) (Q : gS → Prop) (K : Int32 → gS → Prop) (E : gE) (C : gC X E b_BS_clear 2 R_BS) (hRm : gRm E = rm_BlockSet_clear_14) (r : gR X E b_BS_clear none (gBv (wC ad X) Q)) (hK : ∀ (x1 : Int32) (s : gS), K x1 s → gW X E 0 0 (wC ad X s) [(0, .ref (ad 14)), (1, .int x1)] 24 []) : ∀ (n : Nat) (x1 : Int32) (s : gS), wl_BlockSet_clear_14_2 Q K n x1 s → gW X E 0 0 (wC ad X s) [(0, .ref (ad 14)), (1, .int x1)] 2 [] := by
  intro n
  induction n with
  | zero => intro x1 s h; exact False.elim h
  | succ n ih =>
    intro x1 s h
    have h : ((200 ≤ x1 → K x1 s) ∧ (¬ 200 ≤ x1 → vp_in x1 200 ∧ (∀ v3 : Int32, v3 = x1 + 1 → wl_BlockSet_clear_14_2 Q K n v3 (s.1, ua s.2 9 (upd (s.2 9) x1.toNatClampNeg (vp_nar .boolean 0)))))) := h
    refine g_iload_n C d_BS_clear_2 rfl 1 rfl ?_
    refine g_aload_n C d_BS_clear_3 rfl 0 rfl ?_
    refine g_get C (v := .ref (ad 15)) 14 0 iw_BS rfl rfl (by decide) (gt 216 (by decide +kernel) rfl) rfl rfl d_BS_clear_4 ?_
    refine g_alen C 15 1 200 rfl rfl rfl d_BS_clear_7 ?_
    refine g_icmp_ge C 24 d_BS_clear_8 (by decide) (fun c1 => ?_) (fun c1 => ?_)
    · have h := h.1 c1
      exact hK x1 s h
    · have h := h.2 c1
      refine g_aload_n C d_BS_clear_11 rfl 0 rfl ?_
      refine g_get C (v := .ref (ad 15)) 14 0 iw_BS rfl rfl (by decide) (gt 216 (by decide +kernel) rfl) rfl rfl d_BS_clear_12 ?_
      refine g_iload_n C d_BS_clear_15 rfl 1 rfl ?_
      refine g_iconst C 0 d_BS_clear_16 (by decide) ?_
      obtain ⟨i2, h⟩ := h
      refine g_zast C 15 1 (ws2 := wC ad X (s.1, ua s.2 9 (upd (s.2 9) x1.toNatClampNeg (vp_nar .boolean 0)))) rfl rfl i2 rfl d_BS_clear_17 ?_
      obtain ⟨v3, e_v3⟩ : ∃ y : Int32, y = x1 + 1 := ⟨_, rfl⟩
      have h := h v3 e_v3
      refine g_iinc C (v := v3) (lv2 := [(0, .ref (ad 14)), (1, .int v3)]) d_BS_clear_18 1 rfl (by rw [e_v3]; rfl) (by decide) rfl ?_
      refine g_goto C 2 d_BS_clear_21 (by decide) ?_
      exact ih v3 (s.1, ua s.2 9 (upd (s.2 9) x1.toNatClampNeg (vp_nar .boolean 0))) h
def wp_BlockSet_clear_14 (s : gS) (Q : gS → Prop) : Prop := ∃ n4 : Nat, wl_BlockSet_clear_14_2 Q (fun v6 s5 => Q s5)  n4 0 s
set_option maxHeartbeats 4000000 in
set_option maxRecDepth 100000 in
theorem w_BlockSet_clear_14 (X : gX) (ad : Nat → Nat) (s : gS) (Q : gS → Prop) (h : wp_BlockSet_clear_14  s Q) (E : gE) (C : gC X E b_BS_clear 2 R_BS) (hRm : gRm E = rm_BlockSet_clear_14) (r : gR X E b_BS_clear none (gBv (wC ad X) Q)) : gW X E 0 0 (wC ad X s) [(0, .ref (ad 14))] 0 [] := by
  have h : ∃ n4 : Nat, wl_BlockSet_clear_14_2 Q (fun v6 s5 => Q s5)  n4 0 s := h
  refine g_iconst C 0 d_BS_clear_0 (by decide) ?_
  refine g_istore_n C (lv2 := [(0, .ref (ad 14)), (1, .int 0)]) d_BS_clear_1 rfl (by decide) rfl ?_
  obtain ⟨n4, h⟩ := h
  refine w_BlockSet_clear_14_2 X ad Q (_)  E C hRm r ?_ n4 0 s h
  intro v6 s5 h
  exact g_vret r d_BS_clear_24 (gBv_mk h)
theorem m_BlockSet_clear_14 (X : gX) (ad : Nat → Nat) (s : gS) (Q : gS → Prop) (h : wp_BlockSet_clear_14  s Q) (l : Launch) : gM l X y_BS_clear b_BS_clear 2 none rm_BlockSet_clear_14 [.ref (ad 14)] (wC ad X s) (gBv (wC ad X) Q) :=
  gM_of (by decide +kernel) rfl (Nat.le_of_ble_eq_true rfl) rfl (fun E C hRm r => w_BlockSet_clear_14 X ad  s Q h E C hRm r)
def rm_BlockSet_has_14 : Room := { frames := 0, cells := 0, slots := 0, locals := 0 }
def wp_BlockSet_has_14 (a1 : Int32) (s : gS) (Q : Int32 → gS → Prop) : Prop := ((a1 < 0 → Q 0 s) ∧ (¬ a1 < 0 → ((200 ≤ a1 → Q 0 s) ∧ (¬ 200 ≤ a1 → vp_in a1 200 ∧ ((((s.2 9 a1.toNatClampNeg) = 0 → Q 0 s) ∧ (¬ (s.2 9 a1.toNatClampNeg) = 0 → Q 1 s)))))))
set_option maxHeartbeats 4000000 in
set_option maxRecDepth 100000 in
theorem w_BlockSet_has_14 (X : gX) (ad : Nat → Nat) (a1 : Int32) (s : gS) (Q : Int32 → gS → Prop) (h : wp_BlockSet_has_14 a1 s Q) (E : gE) (C : gC X E b_BS_has 2 R_BS) (hRm : gRm E = rm_BlockSet_has_14) (r : gR X E b_BS_has (some .boolean) (gBi (wC ad X) Q)) : gW X E 0 0 (wC ad X s) [(0, .ref (ad 14)), (1, .int a1)] 0 [] := by
  have h : ((a1 < 0 → Q 0 s) ∧ (¬ a1 < 0 → ((200 ≤ a1 → Q 0 s) ∧ (¬ 200 ≤ a1 → vp_in a1 200 ∧ ((((s.2 9 a1.toNatClampNeg) = 0 → Q 0 s) ∧ (¬ (s.2 9 a1.toNatClampNeg) = 0 → Q 1 s))))))) := h
  refine g_iload_n C d_BS_has_0 rfl 1 rfl ?_
  refine g_if_lt C 26 d_BS_has_1 (by decide) (fun c1 => ?_) (fun c1 => ?_)
  · have h := h.1 c1
    refine g_iconst C 0 d_BS_has_26 (by decide) ?_
    exact g_iret r rfl d_BS_has_27 (gBi_mk h)
  · have h := h.2 c1
    refine g_iload_n C d_BS_has_4 rfl 1 rfl ?_
    refine g_aload_n C d_BS_has_5 rfl 0 rfl ?_
    refine g_get C (v := .ref (ad 15)) 14 0 iw_BS rfl rfl (by decide) (gt 216 (by decide +kernel) rfl) rfl rfl d_BS_has_6 ?_
    refine g_alen C 15 1 200 rfl rfl rfl d_BS_has_9 ?_
    refine g_icmp_ge C 26 d_BS_has_10 (by decide) (fun c2 => ?_) (fun c2 => ?_)
    · have h := h.1 c2
      refine g_iconst C 0 d_BS_has_26 (by decide) ?_
      exact g_iret r rfl d_BS_has_27 (gBi_mk h)
    · have h := h.2 c2
      refine g_aload_n C d_BS_has_13 rfl 0 rfl ?_
      refine g_get C (v := .ref (ad 15)) 14 0 iw_BS rfl rfl (by decide) (gt 216 (by decide +kernel) rfl) rfl rfl d_BS_has_14 ?_
      refine g_iload_n C d_BS_has_17 rfl 1 rfl ?_
      obtain ⟨i3, h⟩ := h
      refine g_zald C 15 1 rfl rfl i3 d_BS_has_18 ?_
      refine g_if_eq C 26 d_BS_has_19 (by decide) (fun c4 => ?_) (fun c4 => ?_)
      · have h := h.1 c4
        refine g_iconst C 0 d_BS_has_26 (by decide) ?_
        exact g_iret r rfl d_BS_has_27 (gBi_mk h)
      · have h := h.2 c4
        refine g_iconst C 1 d_BS_has_22 (by decide) ?_
        refine g_goto C 27 d_BS_has_23 (by decide) ?_
        exact g_iret r rfl d_BS_has_27 (gBi_mk h)
theorem m_BlockSet_has_14 (X : gX) (ad : Nat → Nat) (a1 : Int32) (s : gS) (Q : Int32 → gS → Prop) (h : wp_BlockSet_has_14 a1 s Q) (l : Launch) : gM l X y_BS_has b_BS_has 2 (some .boolean) rm_BlockSet_has_14 [.ref (ad 14), .int a1] (wC ad X s) (gBi (wC ad X) Q) :=
  gM_of (by decide +kernel) rfl (Nat.le_of_ble_eq_true rfl) rfl (fun E C hRm r => w_BlockSet_has_14 X ad a1 s Q h E C hRm r)
def rm_BlockSet_add_14 : Room := { frames := 0, cells := 0, slots := 0, locals := 0 }
def wp_BlockSet_add_14 (a1 : Int32) (s : gS) (Q : gS → Prop) : Prop := ((a1 < 0 → Q s) ∧ (¬ a1 < 0 → ((200 ≤ a1 → Q s) ∧ (¬ 200 ≤ a1 → vp_in a1 200 ∧ (Q (s.1, ua s.2 9 (upd (s.2 9) a1.toNatClampNeg (vp_nar .boolean 1))))))))
set_option maxHeartbeats 4000000 in
set_option maxRecDepth 100000 in
theorem w_BlockSet_add_14 (X : gX) (ad : Nat → Nat) (a1 : Int32) (s : gS) (Q : gS → Prop) (h : wp_BlockSet_add_14 a1 s Q) (E : gE) (C : gC X E b_BS_add 2 R_BS) (hRm : gRm E = rm_BlockSet_add_14) (r : gR X E b_BS_add none (gBv (wC ad X) Q)) : gW X E 0 0 (wC ad X s) [(0, .ref (ad 14)), (1, .int a1)] 0 [] := by
  have h : ((a1 < 0 → Q s) ∧ (¬ a1 < 0 → ((200 ≤ a1 → Q s) ∧ (¬ 200 ≤ a1 → vp_in a1 200 ∧ (Q (s.1, ua s.2 9 (upd (s.2 9) a1.toNatClampNeg (vp_nar .boolean 1)))))))) := h
  refine g_iload_n C d_BS_add_0 rfl 1 rfl ?_
  refine g_if_lt C 20 d_BS_add_1 (by decide) (fun c1 => ?_) (fun c1 => ?_)
  · have h := h.1 c1
    exact g_vret r d_BS_add_20 (gBv_mk h)
  · have h := h.2 c1
    refine g_iload_n C d_BS_add_4 rfl 1 rfl ?_
    refine g_aload_n C d_BS_add_5 rfl 0 rfl ?_
    refine g_get C (v := .ref (ad 15)) 14 0 iw_BS rfl rfl (by decide) (gt 216 (by decide +kernel) rfl) rfl rfl d_BS_add_6 ?_
    refine g_alen C 15 1 200 rfl rfl rfl d_BS_add_9 ?_
    refine g_icmp_ge C 20 d_BS_add_10 (by decide) (fun c2 => ?_) (fun c2 => ?_)
    · have h := h.1 c2
      exact g_vret r d_BS_add_20 (gBv_mk h)
    · have h := h.2 c2
      refine g_aload_n C d_BS_add_13 rfl 0 rfl ?_
      refine g_get C (v := .ref (ad 15)) 14 0 iw_BS rfl rfl (by decide) (gt 216 (by decide +kernel) rfl) rfl rfl d_BS_add_14 ?_
      refine g_iload_n C d_BS_add_17 rfl 1 rfl ?_
      refine g_iconst C 1 d_BS_add_18 (by decide) ?_
      obtain ⟨i3, h⟩ := h
      refine g_zast C 15 1 (ws2 := wC ad X (s.1, ua s.2 9 (upd (s.2 9) a1.toNatClampNeg (vp_nar .boolean 1)))) rfl rfl i3 rfl d_BS_add_19 ?_
      exact g_vret r d_BS_add_20 (gBv_mk h)
theorem m_BlockSet_add_14 (X : gX) (ad : Nat → Nat) (a1 : Int32) (s : gS) (Q : gS → Prop) (h : wp_BlockSet_add_14 a1 s Q) (l : Launch) : gM l X y_BS_add b_BS_add 2 none rm_BlockSet_add_14 [.ref (ad 14), .int a1] (wC ad X s) (gBv (wC ad X) Q) :=
  gM_of (by decide +kernel) rfl (Nat.le_of_ble_eq_true rfl) rfl (fun E C hRm r => w_BlockSet_add_14 X ad a1 s Q h E C hRm r)
def rm_Superblocks_isNewRightBlock : Room := { frames := 1, cells := 0, slots := 0, locals := 24 }
def wp_Superblocks_isNewRightBlock (a1 : Int32) (s : gS) (Q : Int32 → gS → Prop) : Prop := ((a1 < 2 → Q 0 s) ∧ (¬ a1 < 2 → (((s.1 3) ≤ a1 → Q 0 s) ∧ (¬ (s.1 3) ≤ a1 → wp_BlockSet_has_14 a1 s (fun r4 s3 => ((r4 = 0 → wp_BlockSet_add_14 a1 s3 (fun s6 => wp_Disk_get a1 0 s6 (fun r9 s8 => wp_Disk_sumOf a1 s8 (fun r11 s10 => ((¬ r9 = r11 → Q 0 s10) ∧ (r9 = r11 → Q 1 s10)))))) ∧ (¬ r4 = 0 → Q 0 s3)))))))
set_option maxHeartbeats 4000000 in
set_option maxRecDepth 100000 in
theorem w_Superblocks_isNewRightBlock (X : gX) (ad : Nat → Nat) (a1 : Int32) (s : gS) (Q : Int32 → gS → Prop) (h : wp_Superblocks_isNewRightBlock a1 s Q) (E : gE) (C : gC X E b_SB_isNewRightBlock 2 R_SB) (hRm : gRm E = rm_Superblocks_isNewRightBlock) (r : gR X E b_SB_isNewRightBlock (some .boolean) (gBi (wC ad X) Q)) : gW X E 0 0 (wC ad X s) [(0, .ref (ad 13)), (1, .int a1)] 0 [] := by
  have h : ((a1 < 2 → Q 0 s) ∧ (¬ a1 < 2 → (((s.1 3) ≤ a1 → Q 0 s) ∧ (¬ (s.1 3) ≤ a1 → wp_BlockSet_has_14 a1 s (fun r4 s3 => ((r4 = 0 → wp_BlockSet_add_14 a1 s3 (fun s6 => wp_Disk_get a1 0 s6 (fun r9 s8 => wp_Disk_sumOf a1 s8 (fun r11 s10 => ((¬ r9 = r11 → Q 0 s10) ∧ (r9 = r11 → Q 1 s10)))))) ∧ (¬ r4 = 0 → Q 0 s3))))))) := h
  refine g_iload_n C d_SB_isNewRightBlock_0 rfl 1 rfl ?_
  refine g_iconst C 2 d_SB_isNewRightBlock_1 (by decide) ?_
  refine g_icmp_lt C 27 d_SB_isNewRightBlock_2 (by decide) (fun c1 => ?_) (fun c1 => ?_)
  · have h := h.1 c1
    refine g_iconst C 0 d_SB_isNewRightBlock_27 (by decide) ?_
    exact g_iret r rfl d_SB_isNewRightBlock_28 (gBi_mk h)
  · have h := h.2 c1
    refine g_iload_n C d_SB_isNewRightBlock_5 rfl 1 rfl ?_
    refine g_aload_n C d_SB_isNewRightBlock_6 rfl 0 rfl ?_
    refine g_get C (v := .ref (ad 1)) 13 0 iw_SB rfl rfl (by decide) (gt 220 (by decide +kernel) rfl) rfl rfl d_SB_isNewRightBlock_7 ?_
    refine g_getN (host := "SpillQueue") C (v := .int (s.1 3)) 1 2 iw_DK rfl rfl (by decide) (gn 121 (by decide +kernel) rfl) rfl rfl d_SB_isNewRightBlock_10 ?_
    refine g_icmp_ge C 27 d_SB_isNewRightBlock_13 (by decide) (fun c2 => ?_) (fun c2 => ?_)
    · have h := h.1 c2
      refine g_iconst C 0 d_SB_isNewRightBlock_27 (by decide) ?_
      exact g_iret r rfl d_SB_isNewRightBlock_28 (gBi_mk h)
    · have h := h.2 c2
      refine g_aload_n C d_SB_isNewRightBlock_16 rfl 0 rfl ?_
      refine g_get C (v := .ref (ad 14)) 13 1 iw_SB rfl rfl (by decide) (gt 221 (by decide +kernel) rfl) rfl rfl d_SB_isNewRightBlock_17 ?_
      refine g_iload_n C d_SB_isNewRightBlock_20 rfl 1 rfl ?_
      refine g_callVN (host := "SpillQueue") C (rest := []) 14 (fun l => m_BlockSet_has_14 X ad a1 s _ h l) rfl rfl (gn 648 (by decide +kernel) rfl) cb_BS_has ⟨rfl, rfl⟩ (by rw [hRm]; decide) ⟨Nat.zero_le _, Nat.zero_le _⟩ rfl rfl (Nat.le_of_ble_eq_true rfl) d_SB_isNewRightBlock_21 (gki (fun r4 s3 h => ?_))
      refine g_if_eq C 29 d_SB_isNewRightBlock_24 (by decide) (fun c5 => ?_) (fun c5 => ?_)
      · have h := h.1 c5
        refine g_aload_n C d_SB_isNewRightBlock_29 rfl 0 rfl ?_
        refine g_get C (v := .ref (ad 14)) 13 1 iw_SB rfl rfl (by decide) (gt 221 (by decide +kernel) rfl) rfl rfl d_SB_isNewRightBlock_30 ?_
        refine g_iload_n C d_SB_isNewRightBlock_33 rfl 1 rfl ?_
        refine g_callVN (host := "SpillQueue") C (rest := []) 14 (fun l => m_BlockSet_add_14 X ad a1 s3 _ h l) rfl rfl (gn 649 (by decide +kernel) rfl) cb_BS_add ⟨rfl, rfl⟩ (by rw [hRm]; decide) ⟨Nat.zero_le _, Nat.zero_le _⟩ rfl rfl (Nat.le_of_ble_eq_true rfl) d_SB_isNewRightBlock_34 (gkv (fun s6 h => ?_))
        refine g_aload_n C d_SB_isNewRightBlock_37 rfl 0 rfl ?_
        refine g_get C (v := .ref (ad 1)) 13 0 iw_SB rfl rfl (by decide) (gt 220 (by decide +kernel) rfl) rfl rfl d_SB_isNewRightBlock_38 ?_
        refine g_iload_n C d_SB_isNewRightBlock_41 rfl 1 rfl ?_
        refine g_iconst C 0 d_SB_isNewRightBlock_42 (by decide) ?_
        refine g_callVN (host := "SpillQueue") C (rest := []) 1 (fun l => m_Disk_get X ad a1 0 s6 _ h l) rfl rfl (gn 630 (by decide +kernel) rfl) cb_DK_get ⟨rfl, rfl⟩ (by rw [hRm]; decide) ⟨Nat.zero_le _, Nat.zero_le _⟩ rfl rfl (Nat.le_of_ble_eq_true rfl) d_SB_isNewRightBlock_43 (gki (fun r9 s8 h => ?_))
        refine g_aload_n C d_SB_isNewRightBlock_46 rfl 0 rfl ?_
        refine g_get C (v := .ref (ad 1)) 13 0 iw_SB rfl rfl (by decide) (gt 220 (by decide +kernel) rfl) rfl rfl d_SB_isNewRightBlock_47 ?_
        refine g_iload_n C d_SB_isNewRightBlock_50 rfl 1 rfl ?_
        refine g_callVN (host := "SpillQueue") C (rest := [.int r9]) 1 (fun l => m_Disk_sumOf X ad a1 s8 _ h l) rfl rfl (gn 631 (by decide +kernel) rfl) cb_DK_sumOf ⟨rfl, rfl⟩ (by rw [hRm]; decide) ⟨Nat.zero_le _, Nat.zero_le _⟩ rfl rfl (Nat.le_of_ble_eq_true rfl) d_SB_isNewRightBlock_51 (gki (fun r11 s10 h => ?_))
        refine g_icmp_ne C 61 d_SB_isNewRightBlock_54 (by decide) (fun c12 => ?_) (fun c12 => ?_)
        · have h := h.1 c12
          refine g_iconst C 0 d_SB_isNewRightBlock_61 (by decide) ?_
          exact g_iret r rfl d_SB_isNewRightBlock_62 (gBi_mk h)
        · have h := h.2 c12
          refine g_iconst C 1 d_SB_isNewRightBlock_57 (by decide) ?_
          refine g_goto C 62 d_SB_isNewRightBlock_58 (by decide) ?_
          exact g_iret r rfl d_SB_isNewRightBlock_62 (gBi_mk h)
      · have h := h.2 c5
        refine g_iconst C 0 d_SB_isNewRightBlock_27 (by decide) ?_
        exact g_iret r rfl d_SB_isNewRightBlock_28 (gBi_mk h)
theorem m_Superblocks_isNewRightBlock (X : gX) (ad : Nat → Nat) (a1 : Int32) (s : gS) (Q : Int32 → gS → Prop) (h : wp_Superblocks_isNewRightBlock a1 s Q) (l : Launch) : gM l X y_SB_isNewRightBlock b_SB_isNewRightBlock 2 (some .boolean) rm_Superblocks_isNewRightBlock [.ref (ad 13), .int a1] (wC ad X s) (gBi (wC ad X) Q) :=
  gM_of (by decide +kernel) rfl (Nat.le_of_ble_eq_true rfl) rfl (fun E C hRm r => w_Superblocks_isNewRightBlock X ad a1 s Q h E C hRm r)
def rm_Superblocks_lastOfRising : Room := { frames := 1, cells := 0, slots := 0, locals := 22 }
def wl_Superblocks_lastOfRising_7 (Q : Int32 → gS → Prop) (K : Int32 → Int32 → gS → Prop) (x1 : Int32) (x2 : Int32) (x3 : Int32) (x4 : Int32) : Nat → Int32 → Int32 → gS → Prop
  | 0, _, _, _ => False
  | n + 1, x5, x6, s => ((x3 ≤ x6 → K x5 x6 s) ∧ (¬ x3 ≤ x6 → wp_Disk_get x1 (2 + x6) s (fun r3 s2 => ((x5 ≤ r3 → ∀ v5 : Int32, v5 = x6 + 1 → wl_Superblocks_lastOfRising_7 Q K x1 x2 x3 x4 n r3 v5 s2) ∧ (¬ x5 ≤ r3 → Q (-1) s2)))))
set_option maxHeartbeats 4000000 in
set_option maxRecDepth 100000 in
theorem w_Superblocks_lastOfRising_7 (X : gX) (ad : Nat → Nat) (Q : Int32 → gS → Prop) (K : Int32 → Int32 → gS → Prop) (x1 : Int32) (x2 : Int32) (x3 : Int32) (x4 : Int32) (E : gE) (C : gC X E b_SB_lastOfRising 8 R_SB) (hRm : gRm E = rm_Superblocks_lastOfRising) (r : gR X E b_SB_lastOfRising (some .int) (gBi (wC ad X) Q)) (hK : ∀ (x5 : Int32) (x6 : Int32) (s : gS), K x5 x6 s → gW X E 0 0 (wC ad X s) [(0, .ref (ad 13)), (1, .int x1), (2, .int x2), (3, .int x3), (4, .int x4), (5, .int x5), (6, .int x6)] 46 []) : ∀ (n : Nat) (x5 : Int32) (x6 : Int32) (s : gS), wl_Superblocks_lastOfRising_7 Q K x1 x2 x3 x4 n x5 x6 s → gW X E 0 0 (wC ad X s) [(0, .ref (ad 13)), (1, .int x1), (2, .int x2), (3, .int x3), (4, .int x4), (5, .int x5), (6, .int x6)] 7 [] := by
  intro n
  induction n with
  | zero => intro x5 x6 s h; exact False.elim h
  | succ n ih =>
    intro x5 x6 s h
    have h : ((x3 ≤ x6 → K x5 x6 s) ∧ (¬ x3 ≤ x6 → wp_Disk_get x1 (2 + x6) s (fun r3 s2 => ((x5 ≤ r3 → ∀ v5 : Int32, v5 = x6 + 1 → wl_Superblocks_lastOfRising_7 Q K x1 x2 x3 x4 n r3 v5 s2) ∧ (¬ x5 ≤ r3 → Q (-1) s2))))) := h
    refine g_iload C d_SB_lastOfRising_7 6 rfl ?_
    refine g_iload_n C d_SB_lastOfRising_9 rfl 3 rfl ?_
    refine g_icmp_ge C 46 d_SB_lastOfRising_10 (by decide) (fun c1 => ?_) (fun c1 => ?_)
    · have h := h.1 c1
      exact hK x5 x6 s h
    · have h := h.2 c1
      refine g_aload_n C d_SB_lastOfRising_13 rfl 0 rfl ?_
      refine g_get C (v := .ref (ad 1)) 13 0 iw_SB rfl rfl (by decide) (gt 220 (by decide +kernel) rfl) rfl rfl d_SB_lastOfRising_14 ?_
      refine g_iload_n C d_SB_lastOfRising_17 rfl 1 rfl ?_
      refine g_iconst C 2 d_SB_lastOfRising_18 (by decide) ?_
      refine g_iload C d_SB_lastOfRising_19 6 rfl ?_
      refine g_iadd C d_SB_lastOfRising_21 ?_
      refine g_callVN (host := "SpillQueue") C (rest := []) 1 (fun l => m_Disk_get X ad x1 (2 + x6) s _ h l) rfl rfl (gn 630 (by decide +kernel) rfl) cb_DK_get ⟨rfl, rfl⟩ (by rw [hRm]; decide) ⟨Nat.zero_le _, Nat.zero_le _⟩ rfl rfl (Nat.le_of_ble_eq_true rfl) d_SB_lastOfRising_22 (gki (fun r3 s2 h => ?_))
      refine g_istore C (lv2 := [(0, .ref (ad 13)), (1, .int x1), (2, .int x2), (3, .int x3), (4, .int x4), (5, .int x5), (6, .int x6), (7, .int r3)]) d_SB_lastOfRising_25 (by decide) rfl ?_
      refine g_iload C d_SB_lastOfRising_27 7 rfl ?_
      refine g_iload C d_SB_lastOfRising_29 5 rfl ?_
      refine g_icmp_ge C 36 d_SB_lastOfRising_31 (by decide) (fun c4 => ?_) (fun c4 => ?_)
      · have h := h.1 c4
        refine g_iload C d_SB_lastOfRising_36 7 rfl ?_
        refine g_istore C (lv2 := [(0, .ref (ad 13)), (1, .int x1), (2, .int x2), (3, .int x3), (4, .int x4), (5, .int r3), (6, .int x6), (7, .int r3)]) d_SB_lastOfRising_38 (by decide) rfl ?_
        obtain ⟨v5, e_v5⟩ : ∃ y : Int32, y = x6 + 1 := ⟨_, rfl⟩
        have h := h v5 e_v5
        refine g_iinc C (v := v5) (lv2 := [(0, .ref (ad 13)), (1, .int x1), (2, .int x2), (3, .int x3), (4, .int x4), (5, .int r3), (6, .int v5), (7, .int r3)]) d_SB_lastOfRising_40 6 rfl (by rw [e_v5]; rfl) (by decide) rfl ?_
        refine g_goto C 7 d_SB_lastOfRising_43 (by decide) ?_
        refine g_lv C [0, 1, 2, 3, 4, 5, 6] rfl ?_
        exact ih r3 v5 s2 h
      · have h := h.2 c4
        refine g_iconst C (-1) d_SB_lastOfRising_34 (by decide) ?_
        exact g_iret r rfl d_SB_lastOfRising_35 (gBi_mk h)
def wp_Superblocks_lastOfRising (a1 : Int32) (a2 : Int32) (a3 : Int32) (a4 : Int32) (s : gS) (Q : Int32 → gS → Prop) : Prop := ∃ n6 : Nat, wl_Superblocks_lastOfRising_7 Q (fun v8 v9 s7 => Q v8 s7) a1 a2 a3 a4 n6 a4 a2 s
set_option maxHeartbeats 4000000 in
set_option maxRecDepth 100000 in
theorem w_Superblocks_lastOfRising (X : gX) (ad : Nat → Nat) (a1 : Int32) (a2 : Int32) (a3 : Int32) (a4 : Int32) (s : gS) (Q : Int32 → gS → Prop) (h : wp_Superblocks_lastOfRising a1 a2 a3 a4 s Q) (E : gE) (C : gC X E b_SB_lastOfRising 8 R_SB) (hRm : gRm E = rm_Superblocks_lastOfRising) (r : gR X E b_SB_lastOfRising (some .int) (gBi (wC ad X) Q)) : gW X E 0 0 (wC ad X s) [(0, .ref (ad 13)), (1, .int a1), (2, .int a2), (3, .int a3), (4, .int a4)] 0 [] := by
  have h : ∃ n6 : Nat, wl_Superblocks_lastOfRising_7 Q (fun v8 v9 s7 => Q v8 s7) a1 a2 a3 a4 n6 a4 a2 s := h
  refine g_iload C d_SB_lastOfRising_0 4 rfl ?_
  refine g_istore C (lv2 := [(0, .ref (ad 13)), (1, .int a1), (2, .int a2), (3, .int a3), (4, .int a4), (5, .int a4)]) d_SB_lastOfRising_2 (by decide) rfl ?_
  refine g_iload_n C d_SB_lastOfRising_4 rfl 2 rfl ?_
  refine g_istore C (lv2 := [(0, .ref (ad 13)), (1, .int a1), (2, .int a2), (3, .int a3), (4, .int a4), (5, .int a4), (6, .int a2)]) d_SB_lastOfRising_5 (by decide) rfl ?_
  obtain ⟨n6, h⟩ := h
  refine w_Superblocks_lastOfRising_7 X ad Q (_) a1 a2 a3 a4 E C hRm r ?_ n6 a4 a2 s h
  intro v8 v9 s7 h
  refine g_iload C d_SB_lastOfRising_46 5 rfl ?_
  exact g_iret r rfl d_SB_lastOfRising_48 (gBi_mk h)
theorem m_Superblocks_lastOfRising (X : gX) (ad : Nat → Nat) (a1 : Int32) (a2 : Int32) (a3 : Int32) (a4 : Int32) (s : gS) (Q : Int32 → gS → Prop) (h : wp_Superblocks_lastOfRising a1 a2 a3 a4 s Q) (l : Launch) : gM l X y_SB_lastOfRising b_SB_lastOfRising 8 (some .int) rm_Superblocks_lastOfRising [.ref (ad 13), .int a1, .int a2, .int a3, .int a4] (wC ad X s) (gBi (wC ad X) Q) :=
  gM_of (by decide +kernel) rfl (Nat.le_of_ble_eq_true rfl) rfl (fun E C hRm r => w_Superblocks_lastOfRising X ad a1 a2 a3 a4 s Q h E C hRm r)
def rm_Superblocks_isChainRight : Room := { frames := 2, cells := 0, slots := 0, locals := 49 }
def wl_Superblocks_isChainRight_28 (Q : Int32 → gS → Prop) (K : Int32 → Int32 → Int32 → gS → Prop) (x1 : Int32) (x2 : Int32) (x3 : Int32) (x4 : Int32) (x5 : Int32) : Nat → Int32 → Int32 → Int32 → gS → Prop
  | 0, _, _, _, _ => False
  | n + 1, x6, x7, x8, s => ((x5 ≤ x8 → K x6 x7 x8 s) ∧ (¬ x5 ≤ x8 → wp_Superblocks_isNewRightBlock x6 s (fun r7 s6 => ((¬ r7 = 0 → ∀ v9 : Int32, v9 = (if (x3 - (x8 * x4)) < x4 then (x3 - (x8 * x4)) else x4) → ((¬ x8 = 0 → wp_Superblocks_lastOfRising x6 0 v9 x7 s6 (fun r12 s11 => ((0 ≤ r12 → wp_Disk_get x6 1 s11 (fun r15 s14 => ∀ v16 : Int32, v16 = x8 + 1 → wl_Superblocks_isChainRight_28 Q K x1 x2 x3 x4 x5 n r15 r12 v16 s14)) ∧ (¬ 0 ≤ r12 → Q 0 s11)))) ∧ (x8 = 0 → wp_Superblocks_lastOfRising x6 x2 v9 x7 s6 (fun r18 s17 => ((0 ≤ r18 → wp_Disk_get x6 1 s17 (fun r21 s20 => ∀ v22 : Int32, v22 = x8 + 1 → wl_Superblocks_isChainRight_28 Q K x1 x2 x3 x4 x5 n r21 r18 v22 s20)) ∧ (¬ 0 ≤ r18 → Q 0 s17)))))) ∧ (r7 = 0 → Q 0 s6)))))
set_option maxHeartbeats 4000000 in
set_option maxRecDepth 100000 in
theorem w_Superblocks_isChainRight_28 (X : gX) (ad : Nat → Nat) (Q : Int32 → gS → Prop) (K : Int32 → Int32 → Int32 → gS → Prop) (x1 : Int32) (x2 : Int32) (x3 : Int32) (x4 : Int32) (x5 : Int32) (E : gE) (C : gC X E b_SB_isChainRight 10 R_SB) (hRm : gRm E = rm_Superblocks_isChainRight) (r : gR X E b_SB_isChainRight (some .boolean) (gBi (wC ad X) Q)) (hK : ∀ (x6 : Int32) (x7 : Int32) (x8 : Int32) (s : gS), K x6 x7 x8 s → gW X E 0 0 (wC ad X s) [(0, .ref (ad 13)), (1, .int x1), (2, .int x2), (3, .int x3), (4, .int x4), (5, .int x5), (6, .int x6), (7, .int x7), (8, .int x8)] 107 []) : ∀ (n : Nat) (x6 : Int32) (x7 : Int32) (x8 : Int32) (s : gS), wl_Superblocks_isChainRight_28 Q K x1 x2 x3 x4 x5 n x6 x7 x8 s → gW X E 0 0 (wC ad X s) [(0, .ref (ad 13)), (1, .int x1), (2, .int x2), (3, .int x3), (4, .int x4), (5, .int x5), (6, .int x6), (7, .int x7), (8, .int x8)] 28 [] := by
  intro n
  induction n with
  | zero => intro x6 x7 x8 s h; exact False.elim h
  | succ n ih =>
    intro x6 x7 x8 s h
    have h : ((x5 ≤ x8 → K x6 x7 x8 s) ∧ (¬ x5 ≤ x8 → wp_Superblocks_isNewRightBlock x6 s (fun r7 s6 => ((¬ r7 = 0 → ∀ v9 : Int32, v9 = (if (x3 - (x8 * x4)) < x4 then (x3 - (x8 * x4)) else x4) → ((¬ x8 = 0 → wp_Superblocks_lastOfRising x6 0 v9 x7 s6 (fun r12 s11 => ((0 ≤ r12 → wp_Disk_get x6 1 s11 (fun r15 s14 => ∀ v16 : Int32, v16 = x8 + 1 → wl_Superblocks_isChainRight_28 Q K x1 x2 x3 x4 x5 n r15 r12 v16 s14)) ∧ (¬ 0 ≤ r12 → Q 0 s11)))) ∧ (x8 = 0 → wp_Superblocks_lastOfRising x6 x2 v9 x7 s6 (fun r18 s17 => ((0 ≤ r18 → wp_Disk_get x6 1 s17 (fun r21 s20 => ∀ v22 : Int32, v22 = x8 + 1 → wl_Superblocks_isChainRight_28 Q K x1 x2 x3 x4 x5 n r21 r18 v22 s20)) ∧ (¬ 0 ≤ r18 → Q 0 s17)))))) ∧ (r7 = 0 → Q 0 s6))))) := h
    refine g_iload C d_SB_isChainRight_28 8 rfl ?_
    refine g_iload C d_SB_isChainRight_30 5 rfl ?_
    refine g_icmp_ge C 107 d_SB_isChainRight_32 (by decide) (fun c5 => ?_) (fun c5 => ?_)
    · have h := h.1 c5
      exact hK x6 x7 x8 s h
    · have h := h.2 c5
      refine g_aload_n C d_SB_isChainRight_35 rfl 0 rfl ?_
      refine g_iload C d_SB_isChainRight_36 6 rfl ?_
      refine g_callV C (rest := []) 13 (fun l => m_Superblocks_isNewRightBlock X ad x6 s _ h l) rfl rfl (gt 644 (by decide +kernel) rfl) cb_SB_isNewRightBlock ⟨rfl, rfl⟩ (by rw [hRm]; decide) ⟨Nat.zero_le _, Nat.zero_le _⟩ rfl rfl (Nat.le_of_ble_eq_true rfl) d_SB_isChainRight_38 (gki (fun r7 s6 h => ?_))
      refine g_if_ne C 46 d_SB_isChainRight_41 (by decide) (fun c8 => ?_) (fun c8 => ?_)
      · have h := h.1 c8
        refine g_iload C d_SB_isChainRight_46 4 rfl ?_
        refine g_iload_n C d_SB_isChainRight_48 rfl 3 rfl ?_
        refine g_iload C d_SB_isChainRight_49 8 rfl ?_
        refine g_iload C d_SB_isChainRight_51 4 rfl ?_
        refine g_imul C d_SB_isChainRight_53 ?_
        refine g_isub C d_SB_isChainRight_54 ?_
        refine g_mmin C (gt 650 (by decide +kernel) rfl) (gt 501 (by decide +kernel) rfl) (gt 102 (by decide +kernel) rfl) (gt 502 rfl rfl) (by rw [hRm]; decide) ⟨Nat.zero_le _, Nat.zero_le _⟩ d_SB_isChainRight_55 ?_
        refine g_topi (fun v9 e_v9 => ?_)
        have h := h v9 e_v9
        refine g_istore C (lv2 := [(0, .ref (ad 13)), (1, .int x1), (2, .int x2), (3, .int x3), (4, .int x4), (5, .int x5), (6, .int x6), (7, .int x7), (8, .int x8), (9, .int v9)]) d_SB_isChainRight_58 (by decide) rfl ?_
        refine g_aload_n C d_SB_isChainRight_60 rfl 0 rfl ?_
        refine g_iload C d_SB_isChainRight_61 6 rfl ?_
        refine g_iload C d_SB_isChainRight_63 8 rfl ?_
        refine g_if_ne C 72 d_SB_isChainRight_65 (by decide) (fun c10 => ?_) (fun c10 => ?_)
        · have h := h.1 c10
          refine g_iconst C 0 d_SB_isChainRight_72 (by decide) ?_
          refine g_iload C d_SB_isChainRight_73 9 rfl ?_
          refine g_iload C d_SB_isChainRight_75 7 rfl ?_
          refine g_callV C (rest := []) 13 (fun l => m_Superblocks_lastOfRising X ad x6 0 v9 x7 s6 _ h l) rfl rfl (gt 651 (by decide +kernel) rfl) cb_SB_lastOfRising ⟨rfl, rfl⟩ (by rw [hRm]; decide) ⟨Nat.zero_le _, Nat.zero_le _⟩ rfl rfl (Nat.le_of_ble_eq_true rfl) d_SB_isChainRight_77 (gki (fun r12 s11 h => ?_))
          refine g_istore C (lv2 := [(0, .ref (ad 13)), (1, .int x1), (2, .int x2), (3, .int x3), (4, .int x4), (5, .int x5), (6, .int x6), (7, .int r12), (8, .int x8), (9, .int v9)]) d_SB_isChainRight_80 (by decide) rfl ?_
          refine g_iload C d_SB_isChainRight_82 7 rfl ?_
          refine g_if_ge C 89 d_SB_isChainRight_84 (by decide) (fun c13 => ?_) (fun c13 => ?_)
          · have h := h.1 c13
            refine g_aload_n C d_SB_isChainRight_89 rfl 0 rfl ?_
            refine g_get C (v := .ref (ad 1)) 13 0 iw_SB rfl rfl (by decide) (gt 220 (by decide +kernel) rfl) rfl rfl d_SB_isChainRight_90 ?_
            refine g_iload C d_SB_isChainRight_93 6 rfl ?_
            refine g_iconst C 1 d_SB_isChainRight_95 (by decide) ?_
            refine g_callVN (host := "SpillQueue") C (rest := []) 1 (fun l => m_Disk_get X ad x6 1 s11 _ h l) rfl rfl (gn 630 (by decide +kernel) rfl) cb_DK_get ⟨rfl, rfl⟩ (by rw [hRm]; decide) ⟨Nat.zero_le _, Nat.zero_le _⟩ rfl rfl (Nat.le_of_ble_eq_true rfl) d_SB_isChainRight_96 (gki (fun r15 s14 h => ?_))
            refine g_istore C (lv2 := [(0, .ref (ad 13)), (1, .int x1), (2, .int x2), (3, .int x3), (4, .int x4), (5, .int x5), (6, .int r15), (7, .int r12), (8, .int x8), (9, .int v9)]) d_SB_isChainRight_99 (by decide) rfl ?_
            obtain ⟨v16, e_v16⟩ : ∃ y : Int32, y = x8 + 1 := ⟨_, rfl⟩
            have h := h v16 e_v16
            refine g_iinc C (v := v16) (lv2 := [(0, .ref (ad 13)), (1, .int x1), (2, .int x2), (3, .int x3), (4, .int x4), (5, .int x5), (6, .int r15), (7, .int r12), (8, .int v16), (9, .int v9)]) d_SB_isChainRight_101 8 rfl (by rw [e_v16]; rfl) (by decide) rfl ?_
            refine g_goto C 28 d_SB_isChainRight_104 (by decide) ?_
            refine g_lv C [0, 1, 2, 3, 4, 5, 6, 7, 8] rfl ?_
            exact ih r15 r12 v16 s14 h
          · have h := h.2 c13
            refine g_iconst C 0 d_SB_isChainRight_87 (by decide) ?_
            exact g_iret r rfl d_SB_isChainRight_88 (gBi_mk h)
        · have h := h.2 c10
          refine g_iload_n C d_SB_isChainRight_68 rfl 2 rfl ?_
          refine g_goto C 73 d_SB_isChainRight_69 (by decide) ?_
          refine g_iload C d_SB_isChainRight_73 9 rfl ?_
          refine g_iload C d_SB_isChainRight_75 7 rfl ?_
          refine g_callV C (rest := []) 13 (fun l => m_Superblocks_lastOfRising X ad x6 x2 v9 x7 s6 _ h l) rfl rfl (gt 651 (by decide +kernel) rfl) cb_SB_lastOfRising ⟨rfl, rfl⟩ (by rw [hRm]; decide) ⟨Nat.zero_le _, Nat.zero_le _⟩ rfl rfl (Nat.le_of_ble_eq_true rfl) d_SB_isChainRight_77 (gki (fun r18 s17 h => ?_))
          refine g_istore C (lv2 := [(0, .ref (ad 13)), (1, .int x1), (2, .int x2), (3, .int x3), (4, .int x4), (5, .int x5), (6, .int x6), (7, .int r18), (8, .int x8), (9, .int v9)]) d_SB_isChainRight_80 (by decide) rfl ?_
          refine g_iload C d_SB_isChainRight_82 7 rfl ?_
          refine g_if_ge C 89 d_SB_isChainRight_84 (by decide) (fun c19 => ?_) (fun c19 => ?_)
          · have h := h.1 c19
            refine g_aload_n C d_SB_isChainRight_89 rfl 0 rfl ?_
            refine g_get C (v := .ref (ad 1)) 13 0 iw_SB rfl rfl (by decide) (gt 220 (by decide +kernel) rfl) rfl rfl d_SB_isChainRight_90 ?_
            refine g_iload C d_SB_isChainRight_93 6 rfl ?_
            refine g_iconst C 1 d_SB_isChainRight_95 (by decide) ?_
            refine g_callVN (host := "SpillQueue") C (rest := []) 1 (fun l => m_Disk_get X ad x6 1 s17 _ h l) rfl rfl (gn 630 (by decide +kernel) rfl) cb_DK_get ⟨rfl, rfl⟩ (by rw [hRm]; decide) ⟨Nat.zero_le _, Nat.zero_le _⟩ rfl rfl (Nat.le_of_ble_eq_true rfl) d_SB_isChainRight_96 (gki (fun r21 s20 h => ?_))
            refine g_istore C (lv2 := [(0, .ref (ad 13)), (1, .int x1), (2, .int x2), (3, .int x3), (4, .int x4), (5, .int x5), (6, .int r21), (7, .int r18), (8, .int x8), (9, .int v9)]) d_SB_isChainRight_99 (by decide) rfl ?_
            obtain ⟨v22, e_v22⟩ : ∃ y : Int32, y = x8 + 1 := ⟨_, rfl⟩
            have h := h v22 e_v22
            refine g_iinc C (v := v22) (lv2 := [(0, .ref (ad 13)), (1, .int x1), (2, .int x2), (3, .int x3), (4, .int x4), (5, .int x5), (6, .int r21), (7, .int r18), (8, .int v22), (9, .int v9)]) d_SB_isChainRight_101 8 rfl (by rw [e_v22]; rfl) (by decide) rfl ?_
            refine g_goto C 28 d_SB_isChainRight_104 (by decide) ?_
            refine g_lv C [0, 1, 2, 3, 4, 5, 6, 7, 8] rfl ?_
            exact ih r21 r18 v22 s20 h
          · have h := h.2 c19
            refine g_iconst C 0 d_SB_isChainRight_87 (by decide) ?_
            exact g_iret r rfl d_SB_isChainRight_88 (gBi_mk h)
      · have h := h.2 c8
        refine g_iconst C 0 d_SB_isChainRight_44 (by decide) ?_
        exact g_iret r rfl d_SB_isChainRight_45 (gBi_mk h)
def wp_Superblocks_isChainRight (a1 : Int32) (a2 : Int32) (a3 : Int32) (s : gS) (Q : Int32 → gS → Prop) : Prop := wp_Disk_keysPerBlock s (fun r2 s1 => wp_Disk_blocksFor a3 s1 (fun r4 s3 => ∃ n23 : Nat, wl_Superblocks_isChainRight_28 Q (fun v25 v26 v27 s24 => ((¬ v25 = 0 → Q 0 s24) ∧ (v25 = 0 → Q 1 s24))) a1 a2 a3 r2 r4 n23 a1 0 0 s3))
set_option maxHeartbeats 4000000 in
set_option maxRecDepth 100000 in
theorem w_Superblocks_isChainRight (X : gX) (ad : Nat → Nat) (a1 : Int32) (a2 : Int32) (a3 : Int32) (s : gS) (Q : Int32 → gS → Prop) (h : wp_Superblocks_isChainRight a1 a2 a3 s Q) (E : gE) (C : gC X E b_SB_isChainRight 10 R_SB) (hRm : gRm E = rm_Superblocks_isChainRight) (r : gR X E b_SB_isChainRight (some .boolean) (gBi (wC ad X) Q)) : gW X E 0 0 (wC ad X s) [(0, .ref (ad 13)), (1, .int a1), (2, .int a2), (3, .int a3)] 0 [] := by
  have h : wp_Disk_keysPerBlock s (fun r2 s1 => wp_Disk_blocksFor a3 s1 (fun r4 s3 => ∃ n23 : Nat, wl_Superblocks_isChainRight_28 Q (fun v25 v26 v27 s24 => ((¬ v25 = 0 → Q 0 s24) ∧ (v25 = 0 → Q 1 s24))) a1 a2 a3 r2 r4 n23 a1 0 0 s3)) := h
  refine g_aload_n C d_SB_isChainRight_0 rfl 0 rfl ?_
  refine g_get C (v := .ref (ad 1)) 13 0 iw_SB rfl rfl (by decide) (gt 220 (by decide +kernel) rfl) rfl rfl d_SB_isChainRight_1 ?_
  refine g_callVN (host := "SpillQueue") C (rest := []) 1 (fun l => m_Disk_keysPerBlock X ad  s _ h l) rfl rfl (gn 638 (by decide +kernel) rfl) cb_DK_keysPerBlock ⟨rfl, rfl⟩ (by rw [hRm]; decide) ⟨Nat.zero_le _, Nat.zero_le _⟩ rfl rfl (Nat.le_of_ble_eq_true rfl) d_SB_isChainRight_4 (gki (fun r2 s1 h => ?_))
  refine g_istore C (lv2 := [(0, .ref (ad 13)), (1, .int a1), (2, .int a2), (3, .int a3), (4, .int r2)]) d_SB_isChainRight_7 (by decide) rfl ?_
  refine g_aload_n C d_SB_isChainRight_9 rfl 0 rfl ?_
  refine g_get C (v := .ref (ad 1)) 13 0 iw_SB rfl rfl (by decide) (gt 220 (by decide +kernel) rfl) rfl rfl d_SB_isChainRight_10 ?_
  refine g_iload_n C d_SB_isChainRight_13 rfl 3 rfl ?_
  refine g_callVN (host := "SpillQueue") C (rest := []) 1 (fun l => m_Disk_blocksFor X ad a3 s1 _ h l) rfl rfl (gn 643 (by decide +kernel) rfl) cb_DK_blocksFor ⟨rfl, rfl⟩ (by rw [hRm]; decide) ⟨Nat.zero_le _, Nat.zero_le _⟩ rfl rfl (Nat.le_of_ble_eq_true rfl) d_SB_isChainRight_14 (gki (fun r4 s3 h => ?_))
  refine g_istore C (lv2 := [(0, .ref (ad 13)), (1, .int a1), (2, .int a2), (3, .int a3), (4, .int r2), (5, .int r4)]) d_SB_isChainRight_17 (by decide) rfl ?_
  refine g_iload_n C d_SB_isChainRight_19 rfl 1 rfl ?_
  refine g_istore C (lv2 := [(0, .ref (ad 13)), (1, .int a1), (2, .int a2), (3, .int a3), (4, .int r2), (5, .int r4), (6, .int a1)]) d_SB_isChainRight_20 (by decide) rfl ?_
  refine g_iconst C 0 d_SB_isChainRight_22 (by decide) ?_
  refine g_istore C (lv2 := [(0, .ref (ad 13)), (1, .int a1), (2, .int a2), (3, .int a3), (4, .int r2), (5, .int r4), (6, .int a1), (7, .int 0)]) d_SB_isChainRight_23 (by decide) rfl ?_
  refine g_iconst C 0 d_SB_isChainRight_25 (by decide) ?_
  refine g_istore C (lv2 := [(0, .ref (ad 13)), (1, .int a1), (2, .int a2), (3, .int a3), (4, .int r2), (5, .int r4), (6, .int a1), (7, .int 0), (8, .int 0)]) d_SB_isChainRight_26 (by decide) rfl ?_
  obtain ⟨n23, h⟩ := h
  refine w_Superblocks_isChainRight_28 X ad Q (_) a1 a2 a3 r2 r4 E C hRm r ?_ n23 a1 0 0 s3 h
  intro v25 v26 v27 s24 h
  refine g_iload C d_SB_isChainRight_107 6 rfl ?_
  refine g_if_ne C 116 d_SB_isChainRight_109 (by decide) (fun c28 => ?_) (fun c28 => ?_)
  · have h := h.1 c28
    refine g_iconst C 0 d_SB_isChainRight_116 (by decide) ?_
    exact g_iret r rfl d_SB_isChainRight_117 (gBi_mk h)
  · have h := h.2 c28
    refine g_iconst C 1 d_SB_isChainRight_112 (by decide) ?_
    refine g_goto C 117 d_SB_isChainRight_113 (by decide) ?_
    exact g_iret r rfl d_SB_isChainRight_117 (gBi_mk h)
theorem m_Superblocks_isChainRight (X : gX) (ad : Nat → Nat) (a1 : Int32) (a2 : Int32) (a3 : Int32) (s : gS) (Q : Int32 → gS → Prop) (h : wp_Superblocks_isChainRight a1 a2 a3 s Q) (l : Launch) : gM l X y_SB_isChainRight b_SB_isChainRight 10 (some .boolean) rm_Superblocks_isChainRight [.ref (ad 13), .int a1, .int a2, .int a3] (wC ad X s) (gBi (wC ad X) Q) :=
  gM_of (by decide +kernel) rfl (Nat.le_of_ble_eq_true rfl) rfl (fun E C hRm r => w_Superblocks_isChainRight X ad a1 a2 a3 s Q h E C hRm r)
end
section
def rm_Superblocks_isRunRight : Room := { frames := 3, cells := 0, slots := 0, locals := 78 }
def wp_Superblocks_isRunRight (a1 : Int32) (a2 : Int32) (s : gS) (Q : Int32 → gS → Prop) : Prop := wp_Disk_get a1 (a2 + 1) s (fun r2 s1 => wp_Disk_get a1 (a2 + 2) s1 (fun r4 s3 => wp_Disk_keysPerBlock s3 (fun r6 s5 => wp_Disk_get a1 (a2 + 3) s5 (fun r8 s7 => ((r8 < 0 → Q 0 s7) ∧ (¬ r8 < 0 → ((r2 < 0 → Q 0 s7) ∧ (¬ r2 < 0 → ((r2 < r6 → ((r4 < 1 → Q 0 s7) ∧ (¬ r4 < 1 → ((r4 ≤ ((s7.1 3) * r6) → wp_Disk_get a1 (a2 + 0) s7 (fun r15 s14 => wp_Superblocks_isChainRight r15 r2 (r2 + r4) s14 (fun r17 s16 => narrow .boolean (.int r17) = .int r17 ∧ (Q r17 s16)))) ∧ (¬ r4 ≤ ((s7.1 3) * r6) → Q 0 s7))))) ∧ (¬ r2 < r6 → Q 0 s7))))))))))
set_option maxHeartbeats 4000000 in
set_option maxRecDepth 100000 in
theorem w_Superblocks_isRunRight (X : gX) (ad : Nat → Nat) (a1 : Int32) (a2 : Int32) (s : gS) (Q : Int32 → gS → Prop) (h : wp_Superblocks_isRunRight a1 a2 s Q) (E : gE) (C : gC X E b_SB_isRunRight 6 R_SB) (hRm : gRm E = rm_Superblocks_isRunRight) (r : gR X E b_SB_isRunRight (some .boolean) (gBi (wC ad X) Q)) : gW X E 0 0 (wC ad X s) [(0, .ref (ad 13)), (1, .int a1), (2, .int a2)] 0 [] := by
  have h : wp_Disk_get a1 (a2 + 1) s (fun r2 s1 => wp_Disk_get a1 (a2 + 2) s1 (fun r4 s3 => wp_Disk_keysPerBlock s3 (fun r6 s5 => wp_Disk_get a1 (a2 + 3) s5 (fun r8 s7 => ((r8 < 0 → Q 0 s7) ∧ (¬ r8 < 0 → ((r2 < 0 → Q 0 s7) ∧ (¬ r2 < 0 → ((r2 < r6 → ((r4 < 1 → Q 0 s7) ∧ (¬ r4 < 1 → ((r4 ≤ ((s7.1 3) * r6) → wp_Disk_get a1 (a2 + 0) s7 (fun r15 s14 => wp_Superblocks_isChainRight r15 r2 (r2 + r4) s14 (fun r17 s16 => narrow .boolean (.int r17) = .int r17 ∧ (Q r17 s16)))) ∧ (¬ r4 ≤ ((s7.1 3) * r6) → Q 0 s7))))) ∧ (¬ r2 < r6 → Q 0 s7)))))))))) := h
  refine g_aload_n C d_SB_isRunRight_0 rfl 0 rfl ?_
  refine g_get C (v := .ref (ad 1)) 13 0 iw_SB rfl rfl (by decide) (gt 220 (by decide +kernel) rfl) rfl rfl d_SB_isRunRight_1 ?_
  refine g_iload_n C d_SB_isRunRight_4 rfl 1 rfl ?_
  refine g_iload_n C d_SB_isRunRight_5 rfl 2 rfl ?_
  refine g_iconst C 1 d_SB_isRunRight_6 (by decide) ?_
  refine g_iadd C d_SB_isRunRight_7 ?_
  refine g_callVN (host := "SpillQueue") C (rest := []) 1 (fun l => m_Disk_get X ad a1 (a2 + 1) s _ h l) rfl rfl (gn 630 (by decide +kernel) rfl) cb_DK_get ⟨rfl, rfl⟩ (by rw [hRm]; decide) ⟨Nat.zero_le _, Nat.zero_le _⟩ rfl rfl (Nat.le_of_ble_eq_true rfl) d_SB_isRunRight_8 (gki (fun r2 s1 h => ?_))
  refine g_istore_n C (lv2 := [(0, .ref (ad 13)), (1, .int a1), (2, .int a2), (3, .int r2)]) d_SB_isRunRight_11 rfl (by decide) rfl ?_
  refine g_aload_n C d_SB_isRunRight_12 rfl 0 rfl ?_
  refine g_get C (v := .ref (ad 1)) 13 0 iw_SB rfl rfl (by decide) (gt 220 (by decide +kernel) rfl) rfl rfl d_SB_isRunRight_13 ?_
  refine g_iload_n C d_SB_isRunRight_16 rfl 1 rfl ?_
  refine g_iload_n C d_SB_isRunRight_17 rfl 2 rfl ?_
  refine g_iconst C 2 d_SB_isRunRight_18 (by decide) ?_
  refine g_iadd C d_SB_isRunRight_19 ?_
  refine g_callVN (host := "SpillQueue") C (rest := []) 1 (fun l => m_Disk_get X ad a1 (a2 + 2) s1 _ h l) rfl rfl (gn 630 (by decide +kernel) rfl) cb_DK_get ⟨rfl, rfl⟩ (by rw [hRm]; decide) ⟨Nat.zero_le _, Nat.zero_le _⟩ rfl rfl (Nat.le_of_ble_eq_true rfl) d_SB_isRunRight_20 (gki (fun r4 s3 h => ?_))
  refine g_istore C (lv2 := [(0, .ref (ad 13)), (1, .int a1), (2, .int a2), (3, .int r2), (4, .int r4)]) d_SB_isRunRight_23 (by decide) rfl ?_
  refine g_aload_n C d_SB_isRunRight_25 rfl 0 rfl ?_
  refine g_get C (v := .ref (ad 1)) 13 0 iw_SB rfl rfl (by decide) (gt 220 (by decide +kernel) rfl) rfl rfl d_SB_isRunRight_26 ?_
  refine g_callVN (host := "SpillQueue") C (rest := []) 1 (fun l => m_Disk_keysPerBlock X ad  s3 _ h l) rfl rfl (gn 638 (by decide +kernel) rfl) cb_DK_keysPerBlock ⟨rfl, rfl⟩ (by rw [hRm]; decide) ⟨Nat.zero_le _, Nat.zero_le _⟩ rfl rfl (Nat.le_of_ble_eq_true rfl) d_SB_isRunRight_29 (gki (fun r6 s5 h => ?_))
  refine g_istore C (lv2 := [(0, .ref (ad 13)), (1, .int a1), (2, .int a2), (3, .int r2), (4, .int r4), (5, .int r6)]) d_SB_isRunRight_32 (by decide) rfl ?_
  refine g_aload_n C d_SB_isRunRight_34 rfl 0 rfl ?_
  refine g_get C (v := .ref (ad 1)) 13 0 iw_SB rfl rfl (by decide) (gt 220 (by decide +kernel) rfl) rfl rfl d_SB_isRunRight_35 ?_
  refine g_iload_n C d_SB_isRunRight_38 rfl 1 rfl ?_
  refine g_iload_n C d_SB_isRunRight_39 rfl 2 rfl ?_
  refine g_iconst C 3 d_SB_isRunRight_40 (by decide) ?_
  refine g_iadd C d_SB_isRunRight_41 ?_
  refine g_callVN (host := "SpillQueue") C (rest := []) 1 (fun l => m_Disk_get X ad a1 (a2 + 3) s5 _ h l) rfl rfl (gn 630 (by decide +kernel) rfl) cb_DK_get ⟨rfl, rfl⟩ (by rw [hRm]; decide) ⟨Nat.zero_le _, Nat.zero_le _⟩ rfl rfl (Nat.le_of_ble_eq_true rfl) d_SB_isRunRight_42 (gki (fun r8 s7 h => ?_))
  refine g_if_lt C 58 d_SB_isRunRight_45 (by decide) (fun c9 => ?_) (fun c9 => ?_)
  · have h := h.1 c9
    refine g_iconst C 0 d_SB_isRunRight_58 (by decide) ?_
    exact g_iret r rfl d_SB_isRunRight_59 (gBi_mk h)
  · have h := h.2 c9
    refine g_iload_n C d_SB_isRunRight_48 rfl 3 rfl ?_
    refine g_if_lt C 58 d_SB_isRunRight_49 (by decide) (fun c10 => ?_) (fun c10 => ?_)
    · have h := h.1 c10
      refine g_iconst C 0 d_SB_isRunRight_58 (by decide) ?_
      exact g_iret r rfl d_SB_isRunRight_59 (gBi_mk h)
    · have h := h.2 c10
      refine g_iload_n C d_SB_isRunRight_52 rfl 3 rfl ?_
      refine g_iload C d_SB_isRunRight_53 5 rfl ?_
      refine g_icmp_lt C 60 d_SB_isRunRight_55 (by decide) (fun c11 => ?_) (fun c11 => ?_)
      · have h := h.1 c11
        refine g_iload C d_SB_isRunRight_60 4 rfl ?_
        refine g_iconst C 1 d_SB_isRunRight_62 (by decide) ?_
        refine g_icmp_lt C 81 d_SB_isRunRight_63 (by decide) (fun c12 => ?_) (fun c12 => ?_)
        · have h := h.1 c12
          refine g_iconst C 0 d_SB_isRunRight_81 (by decide) ?_
          exact g_iret r rfl d_SB_isRunRight_82 (gBi_mk h)
        · have h := h.2 c12
          refine g_iload C d_SB_isRunRight_66 4 rfl ?_
          refine g_aload_n C d_SB_isRunRight_68 rfl 0 rfl ?_
          refine g_get C (v := .ref (ad 1)) 13 0 iw_SB rfl rfl (by decide) (gt 220 (by decide +kernel) rfl) rfl rfl d_SB_isRunRight_69 ?_
          refine g_getN (host := "SpillQueue") C (v := .int (s7.1 3)) 1 2 iw_DK rfl rfl (by decide) (gn 121 (by decide +kernel) rfl) rfl rfl d_SB_isRunRight_72 ?_
          refine g_iload C d_SB_isRunRight_75 5 rfl ?_
          refine g_imul C d_SB_isRunRight_77 ?_
          refine g_icmp_le C 83 d_SB_isRunRight_78 (by decide) (fun c13 => ?_) (fun c13 => ?_)
          · have h := h.1 c13
            refine g_aload_n C d_SB_isRunRight_83 rfl 0 rfl ?_
            refine g_aload_n C d_SB_isRunRight_84 rfl 0 rfl ?_
            refine g_get C (v := .ref (ad 1)) 13 0 iw_SB rfl rfl (by decide) (gt 220 (by decide +kernel) rfl) rfl rfl d_SB_isRunRight_85 ?_
            refine g_iload_n C d_SB_isRunRight_88 rfl 1 rfl ?_
            refine g_iload_n C d_SB_isRunRight_89 rfl 2 rfl ?_
            refine g_iconst C 0 d_SB_isRunRight_90 (by decide) ?_
            refine g_iadd C d_SB_isRunRight_91 ?_
            refine g_callVN (host := "SpillQueue") C (rest := [.ref (ad 13)]) 1 (fun l => m_Disk_get X ad a1 (a2 + 0) s7 _ h l) rfl rfl (gn 630 (by decide +kernel) rfl) cb_DK_get ⟨rfl, rfl⟩ (by rw [hRm]; decide) ⟨Nat.zero_le _, Nat.zero_le _⟩ rfl rfl (Nat.le_of_ble_eq_true rfl) d_SB_isRunRight_92 (gki (fun r15 s14 h => ?_))
            refine g_iload_n C d_SB_isRunRight_95 rfl 3 rfl ?_
            refine g_iload_n C d_SB_isRunRight_96 rfl 3 rfl ?_
            refine g_iload C d_SB_isRunRight_97 4 rfl ?_
            refine g_iadd C d_SB_isRunRight_99 ?_
            refine g_callV C (rest := []) 13 (fun l => m_Superblocks_isChainRight X ad r15 r2 (r2 + r4) s14 _ h l) rfl rfl (gt 639 (by decide +kernel) rfl) cb_SB_isChainRight ⟨rfl, rfl⟩ (by rw [hRm]; decide) ⟨Nat.zero_le _, Nat.zero_le _⟩ rfl rfl (Nat.le_of_ble_eq_true rfl) d_SB_isRunRight_100 (gki (fun r17 s16 h => ?_))
            obtain ⟨b18, h⟩ := h
            exact g_iret r b18 d_SB_isRunRight_103 (gBi_mk h)
          · have h := h.2 c13
            refine g_iconst C 0 d_SB_isRunRight_81 (by decide) ?_
            exact g_iret r rfl d_SB_isRunRight_82 (gBi_mk h)
      · have h := h.2 c11
        refine g_iconst C 0 d_SB_isRunRight_58 (by decide) ?_
        exact g_iret r rfl d_SB_isRunRight_59 (gBi_mk h)
theorem m_Superblocks_isRunRight (X : gX) (ad : Nat → Nat) (a1 : Int32) (a2 : Int32) (s : gS) (Q : Int32 → gS → Prop) (h : wp_Superblocks_isRunRight a1 a2 s Q) (l : Launch) : gM l X y_SB_isRunRight b_SB_isRunRight 6 (some .boolean) rm_Superblocks_isRunRight [.ref (ad 13), .int a1, .int a2] (wC ad X s) (gBi (wC ad X) Q) :=
  gM_of (by decide +kernel) rfl (Nat.le_of_ble_eq_true rfl) rfl (fun E C hRm r => w_Superblocks_isRunRight X ad a1 a2 s Q h E C hRm r)
def rm_Superblocks_isGood : Room := { frames := 4, cells := 0, slots := 0, locals := 103 }
def wl_Superblocks_isGood_77 (Q : Int32 → gS → Prop) (K : Int32 → gS → Prop) (x1 : Int32) (x2 : Int32) (x3 : Int32) : Nat → Int32 → gS → Prop
  | 0, _, _ => False
  | n + 1, x4, s => ((x3 ≤ x4 → K x4 s) ∧ (¬ x3 ≤ x4 → wp_Superblocks_isRunRight x1 (3 + (x4 * 4)) s (fun r20 s19 => ((¬ r20 = 0 → ∀ v22 : Int32, v22 = x4 + 1 → wl_Superblocks_isGood_77 Q K x1 x2 x3 n v22 s19) ∧ (r20 = 0 → Q 0 s19)))))
set_option maxHeartbeats 4000000 in
set_option maxRecDepth 100000 in
theorem w_Superblocks_isGood_77 (X : gX) (ad : Nat → Nat) (Q : Int32 → gS → Prop) (K : Int32 → gS → Prop) (x1 : Int32) (x2 : Int32) (x3 : Int32) (E : gE) (C : gC X E b_SB_isGood 5 R_SB) (hRm : gRm E = rm_Superblocks_isGood) (r : gR X E b_SB_isGood (some .boolean) (gBi (wC ad X) Q)) (hK : ∀ (x4 : Int32) (s : gS), K x4 s → gW X E 0 0 (wC ad X s) [(0, .ref (ad 13)), (1, .int x1), (2, .int x2), (3, .int x3), (4, .int x4)] 105 []) : ∀ (n : Nat) (x4 : Int32) (s : gS), wl_Superblocks_isGood_77 Q K x1 x2 x3 n x4 s → gW X E 0 0 (wC ad X s) [(0, .ref (ad 13)), (1, .int x1), (2, .int x2), (3, .int x3), (4, .int x4)] 77 [] := by
  intro n
  induction n with
  | zero => intro x4 s h; exact False.elim h
  | succ n ih =>
    intro x4 s h
    have h : ((x3 ≤ x4 → K x4 s) ∧ (¬ x3 ≤ x4 → wp_Superblocks_isRunRight x1 (3 + (x4 * 4)) s (fun r20 s19 => ((¬ r20 = 0 → ∀ v22 : Int32, v22 = x4 + 1 → wl_Superblocks_isGood_77 Q K x1 x2 x3 n v22 s19) ∧ (r20 = 0 → Q 0 s19))))) := h
    refine g_iload C d_SB_isGood_77 4 rfl ?_
    refine g_iload_n C d_SB_isGood_79 rfl 3 rfl ?_
    refine g_icmp_ge C 105 d_SB_isGood_80 (by decide) (fun c18 => ?_) (fun c18 => ?_)
    · have h := h.1 c18
      exact hK x4 s h
    · have h := h.2 c18
      refine g_aload_n C d_SB_isGood_83 rfl 0 rfl ?_
      refine g_iload_n C d_SB_isGood_84 rfl 1 rfl ?_
      refine g_iconst C 3 d_SB_isGood_85 (by decide) ?_
      refine g_iload C d_SB_isGood_86 4 rfl ?_
      refine g_iconst C 4 d_SB_isGood_88 (by decide) ?_
      refine g_imul C d_SB_isGood_89 ?_
      refine g_iadd C d_SB_isGood_90 ?_
      refine g_callV C (rest := []) 13 (fun l => m_Superblocks_isRunRight X ad x1 (3 + (x4 * 4)) s _ h l) rfl rfl (gt 634 (by decide +kernel) rfl) cb_SB_isRunRight ⟨rfl, rfl⟩ (by rw [hRm]; decide) ⟨Nat.zero_le _, Nat.zero_le _⟩ rfl rfl (Nat.le_of_ble_eq_true rfl) d_SB_isGood_91 (gki (fun r20 s19 h => ?_))
      refine g_if_ne C 99 d_SB_isGood_94 (by decide) (fun c21 => ?_) (fun c21 => ?_)
      · have h := h.1 c21
        obtain ⟨v22, e_v22⟩ : ∃ y : Int32, y = x4 + 1 := ⟨_, rfl⟩
        have h := h v22 e_v22
        refine g_iinc C (v := v22) (lv2 := [(0, .ref (ad 13)), (1, .int x1), (2, .int x2), (3, .int x3), (4, .int v22)]) d_SB_isGood_99 4 rfl (by rw [e_v22]; rfl) (by decide) rfl ?_
        refine g_goto C 77 d_SB_isGood_102 (by decide) ?_
        exact ih v22 s19 h
      · have h := h.2 c21
        refine g_iconst C 0 d_SB_isGood_97 (by decide) ?_
        exact g_iret r rfl d_SB_isGood_98 (gBi_mk h)
def wp_Superblocks_isGood (a1 : Int32) (s : gS) (Q : Int32 → gS → Prop) : Prop := wp_Superblocks_epochOf a1 s (fun r2 s1 => ((r2 < 1 → Q 0 s1) ∧ (¬ r2 < 1 → ((¬ (r2 &&& 1) = a1 → Q 0 s1) ∧ ((r2 &&& 1) = a1 → wp_Disk_get a1 0 s1 (fun r6 s5 => wp_Disk_sumOf a1 s5 (fun r8 s7 => ((r6 = r8 → wp_Disk_get a1 2 s7 (fun r11 s10 => ((r11 < 0 → Q 0 s10) ∧ (¬ r11 < 0 → wp_Disk_mostRuns s10 (fun r14 s13 => ((r11 ≤ r14 → wp_BlockSet_clear_14 s13 (fun s16 => ∃ n23 : Nat, wl_Superblocks_isGood_77 Q (fun v25 s24 => Q 1 s24) a1 r2 r11 n23 0 s16)) ∧ (¬ r11 ≤ r14 → Q 0 s13))))))) ∧ (¬ r6 = r8 → Q 0 s7)))))))))
set_option maxHeartbeats 4000000 in
set_option maxRecDepth 100000 in
theorem w_Superblocks_isGood (X : gX) (ad : Nat → Nat) (a1 : Int32) (s : gS) (Q : Int32 → gS → Prop) (h : wp_Superblocks_isGood a1 s Q) (E : gE) (C : gC X E b_SB_isGood 5 R_SB) (hRm : gRm E = rm_Superblocks_isGood) (r : gR X E b_SB_isGood (some .boolean) (gBi (wC ad X) Q)) : gW X E 0 0 (wC ad X s) [(0, .ref (ad 13)), (1, .int a1)] 0 [] := by
  have h : wp_Superblocks_epochOf a1 s (fun r2 s1 => ((r2 < 1 → Q 0 s1) ∧ (¬ r2 < 1 → ((¬ (r2 &&& 1) = a1 → Q 0 s1) ∧ ((r2 &&& 1) = a1 → wp_Disk_get a1 0 s1 (fun r6 s5 => wp_Disk_sumOf a1 s5 (fun r8 s7 => ((r6 = r8 → wp_Disk_get a1 2 s7 (fun r11 s10 => ((r11 < 0 → Q 0 s10) ∧ (¬ r11 < 0 → wp_Disk_mostRuns s10 (fun r14 s13 => ((r11 ≤ r14 → wp_BlockSet_clear_14 s13 (fun s16 => ∃ n23 : Nat, wl_Superblocks_isGood_77 Q (fun v25 s24 => Q 1 s24) a1 r2 r11 n23 0 s16)) ∧ (¬ r11 ≤ r14 → Q 0 s13))))))) ∧ (¬ r6 = r8 → Q 0 s7))))))))) := h
  refine g_aload_n C d_SB_isGood_0 rfl 0 rfl ?_
  refine g_iload_n C d_SB_isGood_1 rfl 1 rfl ?_
  refine g_callV C (rest := []) 13 (fun l => m_Superblocks_epochOf X ad a1 s _ h l) rfl rfl (gt 626 (by decide +kernel) rfl) cb_SB_epochOf ⟨rfl, rfl⟩ (by rw [hRm]; decide) ⟨Nat.zero_le _, Nat.zero_le _⟩ rfl rfl (Nat.le_of_ble_eq_true rfl) d_SB_isGood_2 (gki (fun r2 s1 h => ?_))
  refine g_istore_n C (lv2 := [(0, .ref (ad 13)), (1, .int a1), (2, .int r2)]) d_SB_isGood_5 rfl (by decide) rfl ?_
  refine g_iload_n C d_SB_isGood_6 rfl 2 rfl ?_
  refine g_iconst C 1 d_SB_isGood_7 (by decide) ?_
  refine g_icmp_lt C 38 d_SB_isGood_8 (by decide) (fun c3 => ?_) (fun c3 => ?_)
  · have h := h.1 c3
    refine g_iconst C 0 d_SB_isGood_38 (by decide) ?_
    exact g_iret r rfl d_SB_isGood_39 (gBi_mk h)
  · have h := h.2 c3
    refine g_iload_n C d_SB_isGood_11 rfl 2 rfl ?_
    refine g_iconst C 1 d_SB_isGood_12 (by decide) ?_
    refine g_iand C d_SB_isGood_13 ?_
    refine g_iload_n C d_SB_isGood_14 rfl 1 rfl ?_
    refine g_icmp_ne C 38 d_SB_isGood_15 (by decide) (fun c4 => ?_) (fun c4 => ?_)
    · have h := h.1 c4
      refine g_iconst C 0 d_SB_isGood_38 (by decide) ?_
      exact g_iret r rfl d_SB_isGood_39 (gBi_mk h)
    · have h := h.2 c4
      refine g_aload_n C d_SB_isGood_18 rfl 0 rfl ?_
      refine g_get C (v := .ref (ad 1)) 13 0 iw_SB rfl rfl (by decide) (gt 220 (by decide +kernel) rfl) rfl rfl d_SB_isGood_19 ?_
      refine g_iload_n C d_SB_isGood_22 rfl 1 rfl ?_
      refine g_iconst C 0 d_SB_isGood_23 (by decide) ?_
      refine g_callVN (host := "SpillQueue") C (rest := []) 1 (fun l => m_Disk_get X ad a1 0 s1 _ h l) rfl rfl (gn 630 (by decide +kernel) rfl) cb_DK_get ⟨rfl, rfl⟩ (by rw [hRm]; decide) ⟨Nat.zero_le _, Nat.zero_le _⟩ rfl rfl (Nat.le_of_ble_eq_true rfl) d_SB_isGood_24 (gki (fun r6 s5 h => ?_))
      refine g_aload_n C d_SB_isGood_27 rfl 0 rfl ?_
      refine g_get C (v := .ref (ad 1)) 13 0 iw_SB rfl rfl (by decide) (gt 220 (by decide +kernel) rfl) rfl rfl d_SB_isGood_28 ?_
      refine g_iload_n C d_SB_isGood_31 rfl 1 rfl ?_
      refine g_callVN (host := "SpillQueue") C (rest := [.int r6]) 1 (fun l => m_Disk_sumOf X ad a1 s5 _ h l) rfl rfl (gn 631 (by decide +kernel) rfl) cb_DK_sumOf ⟨rfl, rfl⟩ (by rw [hRm]; decide) ⟨Nat.zero_le _, Nat.zero_le _⟩ rfl rfl (Nat.le_of_ble_eq_true rfl) d_SB_isGood_32 (gki (fun r8 s7 h => ?_))
      refine g_icmp_eq C 40 d_SB_isGood_35 (by decide) (fun c9 => ?_) (fun c9 => ?_)
      · have h := h.1 c9
        refine g_aload_n C d_SB_isGood_40 rfl 0 rfl ?_
        refine g_get C (v := .ref (ad 1)) 13 0 iw_SB rfl rfl (by decide) (gt 220 (by decide +kernel) rfl) rfl rfl d_SB_isGood_41 ?_
        refine g_iload_n C d_SB_isGood_44 rfl 1 rfl ?_
        refine g_iconst C 2 d_SB_isGood_45 (by decide) ?_
        refine g_callVN (host := "SpillQueue") C (rest := []) 1 (fun l => m_Disk_get X ad a1 2 s7 _ h l) rfl rfl (gn 630 (by decide +kernel) rfl) cb_DK_get ⟨rfl, rfl⟩ (by rw [hRm]; decide) ⟨Nat.zero_le _, Nat.zero_le _⟩ rfl rfl (Nat.le_of_ble_eq_true rfl) d_SB_isGood_46 (gki (fun r11 s10 h => ?_))
        refine g_istore_n C (lv2 := [(0, .ref (ad 13)), (1, .int a1), (2, .int r2), (3, .int r11)]) d_SB_isGood_49 rfl (by decide) rfl ?_
        refine g_iload_n C d_SB_isGood_50 rfl 3 rfl ?_
        refine g_if_lt C 65 d_SB_isGood_51 (by decide) (fun c12 => ?_) (fun c12 => ?_)
        · have h := h.1 c12
          refine g_iconst C 0 d_SB_isGood_65 (by decide) ?_
          exact g_iret r rfl d_SB_isGood_66 (gBi_mk h)
        · have h := h.2 c12
          refine g_iload_n C d_SB_isGood_54 rfl 3 rfl ?_
          refine g_aload_n C d_SB_isGood_55 rfl 0 rfl ?_
          refine g_get C (v := .ref (ad 1)) 13 0 iw_SB rfl rfl (by decide) (gt 220 (by decide +kernel) rfl) rfl rfl d_SB_isGood_56 ?_
          refine g_callVN (host := "SpillQueue") C (rest := [.int r11]) 1 (fun l => m_Disk_mostRuns X ad  s10 _ h l) rfl rfl (gn 632 (by decide +kernel) rfl) cb_DK_mostRuns ⟨rfl, rfl⟩ (by rw [hRm]; decide) ⟨Nat.zero_le _, Nat.zero_le _⟩ rfl rfl (Nat.le_of_ble_eq_true rfl) d_SB_isGood_59 (gki (fun r14 s13 h => ?_))
          refine g_icmp_le C 67 d_SB_isGood_62 (by decide) (fun c15 => ?_) (fun c15 => ?_)
          · have h := h.1 c15
            refine g_aload_n C d_SB_isGood_67 rfl 0 rfl ?_
            refine g_get C (v := .ref (ad 14)) 13 1 iw_SB rfl rfl (by decide) (gt 221 (by decide +kernel) rfl) rfl rfl d_SB_isGood_68 ?_
            refine g_callVN (host := "SpillQueue") C (rest := []) 14 (fun l => m_BlockSet_clear_14 X ad  s13 _ h l) rfl rfl (gn 633 (by decide +kernel) rfl) cb_BS_clear ⟨rfl, rfl⟩ (by rw [hRm]; decide) ⟨Nat.zero_le _, Nat.zero_le _⟩ rfl rfl (Nat.le_of_ble_eq_true rfl) d_SB_isGood_71 (gkv (fun s16 h => ?_))
            refine g_iconst C 0 d_SB_isGood_74 (by decide) ?_
            refine g_istore C (lv2 := [(0, .ref (ad 13)), (1, .int a1), (2, .int r2), (3, .int r11), (4, .int 0)]) d_SB_isGood_75 (by decide) rfl ?_
            obtain ⟨n23, h⟩ := h
            refine w_Superblocks_isGood_77 X ad Q (_) a1 r2 r11 E C hRm r ?_ n23 0 s16 h
            intro v25 s24 h
            refine g_iconst C 1 d_SB_isGood_105 (by decide) ?_
            exact g_iret r rfl d_SB_isGood_106 (gBi_mk h)
          · have h := h.2 c15
            refine g_iconst C 0 d_SB_isGood_65 (by decide) ?_
            exact g_iret r rfl d_SB_isGood_66 (gBi_mk h)
      · have h := h.2 c9
        refine g_iconst C 0 d_SB_isGood_38 (by decide) ?_
        exact g_iret r rfl d_SB_isGood_39 (gBi_mk h)
theorem m_Superblocks_isGood (X : gX) (ad : Nat → Nat) (a1 : Int32) (s : gS) (Q : Int32 → gS → Prop) (h : wp_Superblocks_isGood a1 s Q) (l : Launch) : gM l X y_SB_isGood b_SB_isGood 5 (some .boolean) rm_Superblocks_isGood [.ref (ad 13), .int a1] (wC ad X s) (gBi (wC ad X) Q) :=
  gM_of (by decide +kernel) rfl (Nat.le_of_ble_eq_true rfl) rfl (fun E C hRm r => w_Superblocks_isGood X ad a1 s Q h E C hRm r)
def rm_Superblocks_newestGood : Room := { frames := 5, cells := 0, slots := 0, locals := 127 }
def wp_Superblocks_newestGood (s : gS) (Q : Int32 → gS → Prop) : Prop := wp_Superblocks_isGood 0 s (fun r2 s1 => wp_Superblocks_isGood 1 s1 (fun r4 s3 => ((r2 = 0 → ((r2 = 0 → ((r4 = 0 → Q (-1) s3) ∧ (¬ r4 = 0 → Q 1 s3))) ∧ (¬ r2 = 0 → Q 0 s3))) ∧ (¬ r2 = 0 → ((r4 = 0 → ((r2 = 0 → ((r4 = 0 → Q (-1) s3) ∧ (¬ r4 = 0 → Q 1 s3))) ∧ (¬ r2 = 0 → Q 0 s3))) ∧ (¬ r4 = 0 → wp_Superblocks_epochOf 0 s3 (fun r12 s11 => wp_Superblocks_epochOf 1 s11 (fun r14 s13 => ((r12 ≤ r14 → Q 1 s13) ∧ (¬ r12 ≤ r14 → Q 0 s13))))))))))
set_option maxHeartbeats 4000000 in
set_option maxRecDepth 100000 in
theorem w_Superblocks_newestGood (X : gX) (ad : Nat → Nat) (s : gS) (Q : Int32 → gS → Prop) (h : wp_Superblocks_newestGood  s Q) (E : gE) (C : gC X E b_SB_newestGood 3 R_SB) (hRm : gRm E = rm_Superblocks_newestGood) (r : gR X E b_SB_newestGood (some .int) (gBi (wC ad X) Q)) : gW X E 0 0 (wC ad X s) [(0, .ref (ad 13))] 0 [] := by
  have h : wp_Superblocks_isGood 0 s (fun r2 s1 => wp_Superblocks_isGood 1 s1 (fun r4 s3 => ((r2 = 0 → ((r2 = 0 → ((r4 = 0 → Q (-1) s3) ∧ (¬ r4 = 0 → Q 1 s3))) ∧ (¬ r2 = 0 → Q 0 s3))) ∧ (¬ r2 = 0 → ((r4 = 0 → ((r2 = 0 → ((r4 = 0 → Q (-1) s3) ∧ (¬ r4 = 0 → Q 1 s3))) ∧ (¬ r2 = 0 → Q 0 s3))) ∧ (¬ r4 = 0 → wp_Superblocks_epochOf 0 s3 (fun r12 s11 => wp_Superblocks_epochOf 1 s11 (fun r14 s13 => ((r12 ≤ r14 → Q 1 s13) ∧ (¬ r12 ≤ r14 → Q 0 s13)))))))))) := h
  refine g_aload_n C d_SB_newestGood_0 rfl 0 rfl ?_
  refine g_iconst C 0 d_SB_newestGood_1 (by decide) ?_
  refine g_callV C (rest := []) 13 (fun l => m_Superblocks_isGood X ad 0 s _ h l) rfl rfl (gt 622 (by decide +kernel) rfl) cb_SB_isGood ⟨rfl, rfl⟩ (by rw [hRm]; decide) ⟨Nat.zero_le _, Nat.zero_le _⟩ rfl rfl (Nat.le_of_ble_eq_true rfl) d_SB_newestGood_2 (gki (fun r2 s1 h => ?_))
  refine g_istore_n C (lv2 := [(0, .ref (ad 13)), (1, .int r2)]) d_SB_newestGood_5 rfl (by decide) rfl ?_
  refine g_aload_n C d_SB_newestGood_6 rfl 0 rfl ?_
  refine g_iconst C 1 d_SB_newestGood_7 (by decide) ?_
  refine g_callV C (rest := []) 13 (fun l => m_Superblocks_isGood X ad 1 s1 _ h l) rfl rfl (gt 622 (by decide +kernel) rfl) cb_SB_isGood ⟨rfl, rfl⟩ (by rw [hRm]; decide) ⟨Nat.zero_le _, Nat.zero_le _⟩ rfl rfl (Nat.le_of_ble_eq_true rfl) d_SB_newestGood_8 (gki (fun r4 s3 h => ?_))
  refine g_istore_n C (lv2 := [(0, .ref (ad 13)), (1, .int r2), (2, .int r4)]) d_SB_newestGood_11 rfl (by decide) rfl ?_
  refine g_iload_n C d_SB_newestGood_12 rfl 1 rfl ?_
  refine g_if_eq C 39 d_SB_newestGood_13 (by decide) (fun c5 => ?_) (fun c5 => ?_)
  · have h := h.1 c5
    refine g_iload_n C d_SB_newestGood_39 rfl 1 rfl ?_
    refine g_if_eq C 45 d_SB_newestGood_40 (by decide) (fun c6 => ?_) (fun c6 => ?_)
    · have h := h.1 c6
      refine g_iload_n C d_SB_newestGood_45 rfl 2 rfl ?_
      refine g_if_eq C 53 d_SB_newestGood_46 (by decide) (fun c7 => ?_) (fun c7 => ?_)
      · have h := h.1 c7
        refine g_iconst C (-1) d_SB_newestGood_53 (by decide) ?_
        exact g_iret r rfl d_SB_newestGood_54 (gBi_mk h)
      · have h := h.2 c7
        refine g_iconst C 1 d_SB_newestGood_49 (by decide) ?_
        refine g_goto C 54 d_SB_newestGood_50 (by decide) ?_
        exact g_iret r rfl d_SB_newestGood_54 (gBi_mk h)
    · have h := h.2 c6
      refine g_iconst C 0 d_SB_newestGood_43 (by decide) ?_
      exact g_iret r rfl d_SB_newestGood_44 (gBi_mk h)
  · have h := h.2 c5
    refine g_iload_n C d_SB_newestGood_16 rfl 2 rfl ?_
    refine g_if_eq C 39 d_SB_newestGood_17 (by decide) (fun c8 => ?_) (fun c8 => ?_)
    · have h := h.1 c8
      refine g_iload_n C d_SB_newestGood_39 rfl 1 rfl ?_
      refine g_if_eq C 45 d_SB_newestGood_40 (by decide) (fun c9 => ?_) (fun c9 => ?_)
      · have h := h.1 c9
        refine g_iload_n C d_SB_newestGood_45 rfl 2 rfl ?_
        refine g_if_eq C 53 d_SB_newestGood_46 (by decide) (fun c10 => ?_) (fun c10 => ?_)
        · have h := h.1 c10
          refine g_iconst C (-1) d_SB_newestGood_53 (by decide) ?_
          exact g_iret r rfl d_SB_newestGood_54 (gBi_mk h)
        · have h := h.2 c10
          refine g_iconst C 1 d_SB_newestGood_49 (by decide) ?_
          refine g_goto C 54 d_SB_newestGood_50 (by decide) ?_
          exact g_iret r rfl d_SB_newestGood_54 (gBi_mk h)
      · have h := h.2 c9
        refine g_iconst C 0 d_SB_newestGood_43 (by decide) ?_
        exact g_iret r rfl d_SB_newestGood_44 (gBi_mk h)
    · have h := h.2 c8
      refine g_aload_n C d_SB_newestGood_20 rfl 0 rfl ?_
      refine g_iconst C 0 d_SB_newestGood_21 (by decide) ?_
      refine g_callV C (rest := []) 13 (fun l => m_Superblocks_epochOf X ad 0 s3 _ h l) rfl rfl (gt 626 (by decide +kernel) rfl) cb_SB_epochOf ⟨rfl, rfl⟩ (by rw [hRm]; decide) ⟨Nat.zero_le _, Nat.zero_le _⟩ rfl rfl (Nat.le_of_ble_eq_true rfl) d_SB_newestGood_22 (gki (fun r12 s11 h => ?_))
      refine g_aload_n C d_SB_newestGood_25 rfl 0 rfl ?_
      refine g_iconst C 1 d_SB_newestGood_26 (by decide) ?_
      refine g_callV C (rest := [.int r12]) 13 (fun l => m_Superblocks_epochOf X ad 1 s11 _ h l) rfl rfl (gt 626 (by decide +kernel) rfl) cb_SB_epochOf ⟨rfl, rfl⟩ (by rw [hRm]; decide) ⟨Nat.zero_le _, Nat.zero_le _⟩ rfl rfl (Nat.le_of_ble_eq_true rfl) d_SB_newestGood_27 (gki (fun r14 s13 h => ?_))
      refine g_icmp_le C 37 d_SB_newestGood_30 (by decide) (fun c15 => ?_) (fun c15 => ?_)
      · have h := h.1 c15
        refine g_iconst C 1 d_SB_newestGood_37 (by decide) ?_
        exact g_iret r rfl d_SB_newestGood_38 (gBi_mk h)
      · have h := h.2 c15
        refine g_iconst C 0 d_SB_newestGood_33 (by decide) ?_
        refine g_goto C 38 d_SB_newestGood_34 (by decide) ?_
        exact g_iret r rfl d_SB_newestGood_38 (gBi_mk h)
theorem m_Superblocks_newestGood (X : gX) (ad : Nat → Nat) (s : gS) (Q : Int32 → gS → Prop) (h : wp_Superblocks_newestGood  s Q) (l : Launch) : gM l X y_SB_newestGood b_SB_newestGood 3 (some .int) rm_Superblocks_newestGood [.ref (ad 13)] (wC ad X s) (gBi (wC ad X) Q) :=
  gM_of (by decide +kernel) rfl (Nat.le_of_ble_eq_true rfl) rfl (fun E C hRm r => w_Superblocks_newestGood X ad  s Q h E C hRm r)
def rm_Superblocks_load_6 : Room := { frames := 2, cells := 0, slots := 0, locals := 46 }
def wl_Superblocks_load_6_18 (Q : gS → Prop) (K : Int32 → gS → Prop) (x1 : Int32) (x3 : Int32) : Nat → Int32 → gS → Prop
  | 0, _, _ => False
  | n + 1, x4, s => ((x3 ≤ x4 → K x4 s) ∧ (¬ x3 ≤ x4 → ∀ v5 : Int32, v5 = 3 + (x4 * 4) → wp_Disk_get x1 (v5 + 0) s (fun r7 s6 => wp_Disk_get x1 (v5 + 1) s6 (fun r9 s8 => wp_Disk_get x1 (v5 + 2) s8 (fun r11 s10 => wp_Disk_get x1 (v5 + 3) s10 (fun r13 s12 => wp_Runs_add r7 r9 r11 r13 s12 (fun s14 => ∀ v16 : Int32, v16 = x4 + 1 → wl_Superblocks_load_6_18 Q K x1 x3 n v16 s14)))))))
set_option maxHeartbeats 4000000 in
set_option maxRecDepth 100000 in
theorem w_Superblocks_load_6_18 (X : gX) (ad : Nat → Nat) (Q : gS → Prop) (K : Int32 → gS → Prop) (x1 : Int32) (x3 : Int32) (E : gE) (C : gC X E b_SB_load 6 R_SB) (hRm : gRm E = rm_Superblocks_load_6) (r : gR X E b_SB_load none (gBv (wC ad X) Q)) (hK : ∀ (x4 : Int32) (s : gS), K x4 s → gW X E 0 0 (wC ad X s) [(0, .ref (ad 13)), (1, .int x1), (2, .ref (ad 6)), (3, .int x3), (4, .int x4)] 90 []) : ∀ (n : Nat) (x4 : Int32) (s : gS), wl_Superblocks_load_6_18 Q K x1 x3 n x4 s → gW X E 0 0 (wC ad X s) [(0, .ref (ad 13)), (1, .int x1), (2, .ref (ad 6)), (3, .int x3), (4, .int x4)] 18 [] := by
  intro n
  induction n with
  | zero => intro x4 s h; exact False.elim h
  | succ n ih =>
    intro x4 s h
    have h : ((x3 ≤ x4 → K x4 s) ∧ (¬ x3 ≤ x4 → ∀ v5 : Int32, v5 = 3 + (x4 * 4) → wp_Disk_get x1 (v5 + 0) s (fun r7 s6 => wp_Disk_get x1 (v5 + 1) s6 (fun r9 s8 => wp_Disk_get x1 (v5 + 2) s8 (fun r11 s10 => wp_Disk_get x1 (v5 + 3) s10 (fun r13 s12 => wp_Runs_add r7 r9 r11 r13 s12 (fun s14 => ∀ v16 : Int32, v16 = x4 + 1 → wl_Superblocks_load_6_18 Q K x1 x3 n v16 s14))))))) := h
    refine g_iload C d_SB_load_18 4 rfl ?_
    refine g_iload_n C d_SB_load_20 rfl 3 rfl ?_
    refine g_icmp_ge C 90 d_SB_load_21 (by decide) (fun c4 => ?_) (fun c4 => ?_)
    · have h := h.1 c4
      exact hK x4 s h
    · have h := h.2 c4
      refine g_iconst C 3 d_SB_load_24 (by decide) ?_
      refine g_iload C d_SB_load_25 4 rfl ?_
      refine g_iconst C 4 d_SB_load_27 (by decide) ?_
      refine g_imul C d_SB_load_28 ?_
      refine g_iadd C d_SB_load_29 ?_
      refine g_topi (fun v5 e_v5 => ?_)
      have h := h v5 e_v5
      refine g_istore C (lv2 := [(0, .ref (ad 13)), (1, .int x1), (2, .ref (ad 6)), (3, .int x3), (4, .int x4), (5, .int v5)]) d_SB_load_30 (by decide) rfl ?_
      refine g_aload_n C d_SB_load_32 rfl 2 rfl ?_
      refine g_aload_n C d_SB_load_33 rfl 0 rfl ?_
      refine g_get C (v := .ref (ad 1)) 13 0 iw_SB rfl rfl (by decide) (gt 220 (by decide +kernel) rfl) rfl rfl d_SB_load_34 ?_
      refine g_iload_n C d_SB_load_37 rfl 1 rfl ?_
      refine g_iload C d_SB_load_38 5 rfl ?_
      refine g_iconst C 0 d_SB_load_40 (by decide) ?_
      refine g_iadd C d_SB_load_41 ?_
      refine g_callVN (host := "SpillQueue") C (rest := [.ref (ad 6)]) 1 (fun l => m_Disk_get X ad x1 (v5 + 0) s _ h l) rfl rfl (gn 630 (by decide +kernel) rfl) cb_DK_get ⟨rfl, rfl⟩ (by rw [hRm]; decide) ⟨Nat.zero_le _, Nat.zero_le _⟩ rfl rfl (Nat.le_of_ble_eq_true rfl) d_SB_load_42 (gki (fun r7 s6 h => ?_))
      refine g_aload_n C d_SB_load_45 rfl 0 rfl ?_
      refine g_get C (v := .ref (ad 1)) 13 0 iw_SB rfl rfl (by decide) (gt 220 (by decide +kernel) rfl) rfl rfl d_SB_load_46 ?_
      refine g_iload_n C d_SB_load_49 rfl 1 rfl ?_
      refine g_iload C d_SB_load_50 5 rfl ?_
      refine g_iconst C 1 d_SB_load_52 (by decide) ?_
      refine g_iadd C d_SB_load_53 ?_
      refine g_callVN (host := "SpillQueue") C (rest := [.int r7, .ref (ad 6)]) 1 (fun l => m_Disk_get X ad x1 (v5 + 1) s6 _ h l) rfl rfl (gn 630 (by decide +kernel) rfl) cb_DK_get ⟨rfl, rfl⟩ (by rw [hRm]; decide) ⟨Nat.zero_le _, Nat.zero_le _⟩ rfl rfl (Nat.le_of_ble_eq_true rfl) d_SB_load_54 (gki (fun r9 s8 h => ?_))
      refine g_aload_n C d_SB_load_57 rfl 0 rfl ?_
      refine g_get C (v := .ref (ad 1)) 13 0 iw_SB rfl rfl (by decide) (gt 220 (by decide +kernel) rfl) rfl rfl d_SB_load_58 ?_
      refine g_iload_n C d_SB_load_61 rfl 1 rfl ?_
      refine g_iload C d_SB_load_62 5 rfl ?_
      refine g_iconst C 2 d_SB_load_64 (by decide) ?_
      refine g_iadd C d_SB_load_65 ?_
      refine g_callVN (host := "SpillQueue") C (rest := [.int r9, .int r7, .ref (ad 6)]) 1 (fun l => m_Disk_get X ad x1 (v5 + 2) s8 _ h l) rfl rfl (gn 630 (by decide +kernel) rfl) cb_DK_get ⟨rfl, rfl⟩ (by rw [hRm]; decide) ⟨Nat.zero_le _, Nat.zero_le _⟩ rfl rfl (Nat.le_of_ble_eq_true rfl) d_SB_load_66 (gki (fun r11 s10 h => ?_))
      refine g_aload_n C d_SB_load_69 rfl 0 rfl ?_
      refine g_get C (v := .ref (ad 1)) 13 0 iw_SB rfl rfl (by decide) (gt 220 (by decide +kernel) rfl) rfl rfl d_SB_load_70 ?_
      refine g_iload_n C d_SB_load_73 rfl 1 rfl ?_
      refine g_iload C d_SB_load_74 5 rfl ?_
      refine g_iconst C 3 d_SB_load_76 (by decide) ?_
      refine g_iadd C d_SB_load_77 ?_
      refine g_callVN (host := "SpillQueue") C (rest := [.int r11, .int r9, .int r7, .ref (ad 6)]) 1 (fun l => m_Disk_get X ad x1 (v5 + 3) s10 _ h l) rfl rfl (gn 630 (by decide +kernel) rfl) cb_DK_get ⟨rfl, rfl⟩ (by rw [hRm]; decide) ⟨Nat.zero_le _, Nat.zero_le _⟩ rfl rfl (Nat.le_of_ble_eq_true rfl) d_SB_load_78 (gki (fun r13 s12 h => ?_))
      refine g_callVN (host := "SpillQueue") C (rest := []) 6 (fun l => m_Runs_add X ad r7 r9 r11 r13 s12 _ h l) rfl rfl (gn 659 (by decide +kernel) rfl) cb_RU_add ⟨rfl, rfl⟩ (by rw [hRm]; decide) ⟨Nat.zero_le _, Nat.zero_le _⟩ rfl rfl (Nat.le_of_ble_eq_true rfl) d_SB_load_81 (gkv (fun s14 h => ?_))
      obtain ⟨v16, e_v16⟩ : ∃ y : Int32, y = x4 + 1 := ⟨_, rfl⟩
      have h := h v16 e_v16
      refine g_iinc C (v := v16) (lv2 := [(0, .ref (ad 13)), (1, .int x1), (2, .ref (ad 6)), (3, .int x3), (4, .int v16), (5, .int v5)]) d_SB_load_84 4 rfl (by rw [e_v16]; rfl) (by decide) rfl ?_
      refine g_goto C 18 d_SB_load_87 (by decide) ?_
      refine g_lv C [0, 1, 2, 3, 4] rfl ?_
      exact ih v16 s14 h
def wp_Superblocks_load_6 (a1 : Int32) (s : gS) (Q : gS → Prop) : Prop := wp_Disk_get a1 2 s (fun r2 s1 => ∀ v3 : Int32, v3 = (if 9 < r2 then 9 else r2) → ∃ n17 : Nat, wl_Superblocks_load_6_18 Q (fun v19 s18 => Q s18) a1 v3 n17 0 s1)
set_option maxHeartbeats 4000000 in
set_option maxRecDepth 100000 in
theorem w_Superblocks_load_6 (X : gX) (ad : Nat → Nat) (a1 : Int32) (s : gS) (Q : gS → Prop) (h : wp_Superblocks_load_6 a1 s Q) (E : gE) (C : gC X E b_SB_load 6 R_SB) (hRm : gRm E = rm_Superblocks_load_6) (r : gR X E b_SB_load none (gBv (wC ad X) Q)) : gW X E 0 0 (wC ad X s) [(0, .ref (ad 13)), (1, .int a1), (2, .ref (ad 6))] 0 [] := by
  have h : wp_Disk_get a1 2 s (fun r2 s1 => ∀ v3 : Int32, v3 = (if 9 < r2 then 9 else r2) → ∃ n17 : Nat, wl_Superblocks_load_6_18 Q (fun v19 s18 => Q s18) a1 v3 n17 0 s1) := h
  refine g_aload_n C d_SB_load_0 rfl 0 rfl ?_
  refine g_get C (v := .ref (ad 1)) 13 0 iw_SB rfl rfl (by decide) (gt 220 (by decide +kernel) rfl) rfl rfl d_SB_load_1 ?_
  refine g_iload_n C d_SB_load_4 rfl 1 rfl ?_
  refine g_iconst C 2 d_SB_load_5 (by decide) ?_
  refine g_callVN (host := "SpillQueue") C (rest := []) 1 (fun l => m_Disk_get X ad a1 2 s _ h l) rfl rfl (gn 630 (by decide +kernel) rfl) cb_DK_get ⟨rfl, rfl⟩ (by rw [hRm]; decide) ⟨Nat.zero_le _, Nat.zero_le _⟩ rfl rfl (Nat.le_of_ble_eq_true rfl) d_SB_load_6 (gki (fun r2 s1 h => ?_))
  refine g_bipush C 9 d_SB_load_9 (by decide) ?_
  refine g_mmin C (gt 650 (by decide +kernel) rfl) (gt 501 (by decide +kernel) rfl) (gt 102 (by decide +kernel) rfl) (gt 502 rfl rfl) (by rw [hRm]; decide) ⟨Nat.zero_le _, Nat.zero_le _⟩ d_SB_load_11 ?_
  refine g_topi (fun v3 e_v3 => ?_)
  have h := h v3 e_v3
  refine g_istore_n C (lv2 := [(0, .ref (ad 13)), (1, .int a1), (2, .ref (ad 6)), (3, .int v3)]) d_SB_load_14 rfl (by decide) rfl ?_
  refine g_iconst C 0 d_SB_load_15 (by decide) ?_
  refine g_istore C (lv2 := [(0, .ref (ad 13)), (1, .int a1), (2, .ref (ad 6)), (3, .int v3), (4, .int 0)]) d_SB_load_16 (by decide) rfl ?_
  obtain ⟨n17, h⟩ := h
  refine w_Superblocks_load_6_18 X ad Q (_) a1 v3 E C hRm r ?_ n17 0 s1 h
  intro v19 s18 h
  exact g_vret r d_SB_load_90 (gBv_mk h)
theorem m_Superblocks_load_6 (X : gX) (ad : Nat → Nat) (a1 : Int32) (s : gS) (Q : gS → Prop) (h : wp_Superblocks_load_6 a1 s Q) (l : Launch) : gM l X y_SB_load b_SB_load 6 none rm_Superblocks_load_6 [.ref (ad 13), .int a1, .ref (ad 6)] (wC ad X s) (gBv (wC ad X) Q) :=
  gM_of (by decide +kernel) rfl (Nat.le_of_ble_eq_true rfl) rfl (fun E C hRm r => w_Superblocks_load_6 X ad a1 s Q h E C hRm r)
def rm_Runs_keysInAll : Room := { frames := 0, cells := 0, slots := 0, locals := 0 }
def wl_Runs_keysInAll_4 (Q : Int32 → gS → Prop) (K : Int32 → Int32 → gS → Prop) : Nat → Int32 → Int32 → gS → Prop
  | 0, _, _, _ => False
  | n + 1, x1, x2, s => (((s.1 9) ≤ x2 → K x1 x2 s) ∧ (¬ (s.1 9) ≤ x2 → vp_in x2 9 ∧ (∀ v3 : Int32, v3 = x1 + (s.2 5 x2.toNatClampNeg) → ∀ v4 : Int32, v4 = x2 + 1 → wl_Runs_keysInAll_4 Q K n v3 v4 s)))
set_option maxHeartbeats 4000000 in
set_option maxRecDepth 100000 in
theorem w_Runs_keysInAll_4 (X : gX) (ad : Nat → Nat) (Q : Int32 → gS → Prop) (K : Int32 → Int32 → gS → Prop) (E : gE) (C : gC X E b_RU_keysInAll 3 R_RU) (hRm : gRm E = rm_Runs_keysInAll) (r : gR X E b_RU_keysInAll (some .int) (gBi (wC ad X) Q)) (hK : ∀ (x1 : Int32) (x2 : Int32) (s : gS), K x1 x2 s → gW X E 0 0 (wC ad X s) [(0, .ref (ad 6)), (1, .int x1), (2, .int x2)] 27 []) : ∀ (n : Nat) (x1 : Int32) (x2 : Int32) (s : gS), wl_Runs_keysInAll_4 Q K n x1 x2 s → gW X E 0 0 (wC ad X s) [(0, .ref (ad 6)), (1, .int x1), (2, .int x2)] 4 [] := by
  intro n
  induction n with
  | zero => intro x1 x2 s h; exact False.elim h
  | succ n ih =>
    intro x1 x2 s h
    have h : (((s.1 9) ≤ x2 → K x1 x2 s) ∧ (¬ (s.1 9) ≤ x2 → vp_in x2 9 ∧ (∀ v3 : Int32, v3 = x1 + (s.2 5 x2.toNatClampNeg) → ∀ v4 : Int32, v4 = x2 + 1 → wl_Runs_keysInAll_4 Q K n v3 v4 s))) := h
    refine g_iload_n C d_RU_keysInAll_4 rfl 2 rfl ?_
    refine g_aload_n C d_RU_keysInAll_5 rfl 0 rfl ?_
    refine g_get C (v := .int (s.1 9)) 6 7 iw_RU rfl rfl (by decide) (gt 183 (by decide +kernel) rfl) rfl rfl d_RU_keysInAll_6 ?_
    refine g_icmp_ge C 27 d_RU_keysInAll_9 (by decide) (fun c1 => ?_) (fun c1 => ?_)
    · have h := h.1 c1
      exact hK x1 x2 s h
    · have h := h.2 c1
      refine g_iload_n C d_RU_keysInAll_12 rfl 1 rfl ?_
      refine g_aload_n C d_RU_keysInAll_13 rfl 0 rfl ?_
      refine g_get C (v := .ref (ad 9)) 6 3 iw_RU rfl rfl (by decide) (gt 175 (by decide +kernel) rfl) rfl rfl d_RU_keysInAll_14 ?_
      refine g_iload_n C d_RU_keysInAll_17 rfl 2 rfl ?_
      obtain ⟨i2, h⟩ := h
      refine g_iald C 9 0 rfl rfl i2 d_RU_keysInAll_18 ?_
      refine g_iadd C d_RU_keysInAll_19 ?_
      refine g_topi (fun v3 e_v3 => ?_)
      have h := h v3 e_v3
      refine g_istore_n C (lv2 := [(0, .ref (ad 6)), (1, .int v3), (2, .int x2)]) d_RU_keysInAll_20 rfl (by decide) rfl ?_
      obtain ⟨v4, e_v4⟩ : ∃ y : Int32, y = x2 + 1 := ⟨_, rfl⟩
      have h := h v4 e_v4
      refine g_iinc C (v := v4) (lv2 := [(0, .ref (ad 6)), (1, .int v3), (2, .int v4)]) d_RU_keysInAll_21 2 rfl (by rw [e_v4]; rfl) (by decide) rfl ?_
      refine g_goto C 4 d_RU_keysInAll_24 (by decide) ?_
      exact ih v3 v4 s h
def wp_Runs_keysInAll (s : gS) (Q : Int32 → gS → Prop) : Prop := ∃ n5 : Nat, wl_Runs_keysInAll_4 Q (fun v7 v8 s6 => Q v7 s6)  n5 0 0 s
set_option maxHeartbeats 4000000 in
set_option maxRecDepth 100000 in
theorem w_Runs_keysInAll (X : gX) (ad : Nat → Nat) (s : gS) (Q : Int32 → gS → Prop) (h : wp_Runs_keysInAll  s Q) (E : gE) (C : gC X E b_RU_keysInAll 3 R_RU) (hRm : gRm E = rm_Runs_keysInAll) (r : gR X E b_RU_keysInAll (some .int) (gBi (wC ad X) Q)) : gW X E 0 0 (wC ad X s) [(0, .ref (ad 6))] 0 [] := by
  have h : ∃ n5 : Nat, wl_Runs_keysInAll_4 Q (fun v7 v8 s6 => Q v7 s6)  n5 0 0 s := h
  refine g_iconst C 0 d_RU_keysInAll_0 (by decide) ?_
  refine g_istore_n C (lv2 := [(0, .ref (ad 6)), (1, .int 0)]) d_RU_keysInAll_1 rfl (by decide) rfl ?_
  refine g_iconst C 0 d_RU_keysInAll_2 (by decide) ?_
  refine g_istore_n C (lv2 := [(0, .ref (ad 6)), (1, .int 0), (2, .int 0)]) d_RU_keysInAll_3 rfl (by decide) rfl ?_
  obtain ⟨n5, h⟩ := h
  refine w_Runs_keysInAll_4 X ad Q (_)  E C hRm r ?_ n5 0 0 s h
  intro v7 v8 s6 h
  refine g_iload_n C d_RU_keysInAll_27 rfl 1 rfl ?_
  exact g_iret r rfl d_RU_keysInAll_28 (gBi_mk h)
theorem m_Runs_keysInAll (X : gX) (ad : Nat → Nat) (s : gS) (Q : Int32 → gS → Prop) (h : wp_Runs_keysInAll  s Q) (l : Launch) : gM l X y_RU_keysInAll b_RU_keysInAll 3 (some .int) rm_Runs_keysInAll [.ref (ad 6)] (wC ad X s) (gBi (wC ad X) Q) :=
  gM_of (by decide +kernel) rfl (Nat.le_of_ble_eq_true rfl) rfl (fun E C hRm r => w_Runs_keysInAll X ad  s Q h E C hRm r)
def rm_SpillQueue_size : Room := { frames := 1, cells := 0, slots := 0, locals := 22 }
def wp_SpillQueue_size (s : gS) (Q : Int32 → gS → Prop) : Prop := (((s.1 2) = 0 → Q 0 s) ∧ (¬ (s.1 2) = 0 → wp_Memory_howMany s (fun r3 s2 => wp_Runs_keysInAll s2 (fun r5 s4 => Q (r3 + r5) s4))))
set_option maxHeartbeats 4000000 in
set_option maxRecDepth 100000 in
theorem w_SpillQueue_size (X : gX) (ad : Nat → Nat) (s : gS) (Q : Int32 → gS → Prop) (h : wp_SpillQueue_size  s Q) (E : gE) (C : gC X E b_SQ_size 1 R_SQ) (hRm : gRm E = rm_SpillQueue_size) (r : gR X E b_SQ_size (some .int) (gBi (wC ad X) Q)) : gW X E 0 0 (wC ad X s) [(0, .ref (ad 0))] 0 [] := by
  have h : (((s.1 2) = 0 → Q 0 s) ∧ (¬ (s.1 2) = 0 → wp_Memory_howMany s (fun r3 s2 => wp_Runs_keysInAll s2 (fun r5 s4 => Q (r3 + r5) s4)))) := h
  refine g_aload_n C d_SQ_size_0 rfl 0 rfl ?_
  refine g_get C (v := .int (s.1 2)) 0 9 iw_SQ rfl rfl (by decide) (gt 238 (by decide +kernel) rfl) rfl rfl d_SQ_size_1 ?_
  refine g_if_eq C 25 d_SQ_size_4 (by decide) (fun c1 => ?_) (fun c1 => ?_)
  · have h := h.1 c1
    refine g_iconst C 0 d_SQ_size_25 (by decide) ?_
    exact g_iret r rfl d_SQ_size_26 (gBi_mk h)
  · have h := h.2 c1
    refine g_aload_n C d_SQ_size_7 rfl 0 rfl ?_
    refine g_get C (v := .ref (ad 4)) 0 1 iw_SQ rfl rfl (by decide) (gt 230 (by decide +kernel) rfl) rfl rfl d_SQ_size_8 ?_
    refine g_callV C (rest := []) 4 (fun l => m_Memory_howMany X ad  s _ h l) rfl rfl (gt 264 (by decide +kernel) rfl) cb_ME_howMany ⟨rfl, rfl⟩ (by rw [hRm]; decide) ⟨Nat.zero_le _, Nat.zero_le _⟩ rfl rfl (Nat.le_of_ble_eq_true rfl) d_SQ_size_11 (gki (fun r3 s2 h => ?_))
    refine g_aload_n C d_SQ_size_14 rfl 0 rfl ?_
    refine g_get C (v := .ref (ad 6)) 0 2 iw_SQ rfl rfl (by decide) (gt 231 (by decide +kernel) rfl) rfl rfl d_SQ_size_15 ?_
    refine g_callVN (host := "SpillQueue") C (rest := [.int r3]) 6 (fun l => m_Runs_keysInAll X ad  s2 _ h l) rfl rfl (gn 268 (by decide +kernel) rfl) cb_RU_keysInAll ⟨rfl, rfl⟩ (by rw [hRm]; decide) ⟨Nat.zero_le _, Nat.zero_le _⟩ rfl rfl (Nat.le_of_ble_eq_true rfl) d_SQ_size_18 (gki (fun r5 s4 h => ?_))
    refine g_iadd C d_SQ_size_21 ?_
    refine g_goto C 26 d_SQ_size_22 (by decide) ?_
    exact g_iret r rfl d_SQ_size_26 (gBi_mk h)
theorem m_SpillQueue_size (X : gX) (ad : Nat → Nat) (s : gS) (Q : Int32 → gS → Prop) (h : wp_SpillQueue_size  s Q) (l : Launch) : gM l X y_SQ_size b_SQ_size 1 (some .int) rm_SpillQueue_size [.ref (ad 0)] (wC ad X s) (gBi (wC ad X) Q) :=
  gM_of (by decide +kernel) rfl (Nat.le_of_ble_eq_true rfl) rfl (fun E C hRm r => w_SpillQueue_size X ad  s Q h E C hRm r)
def rm_Disk_has : Room := { frames := 0, cells := 0, slots := 0, locals := 0 }
def wp_Disk_has (a1 : Int32) (a2 : Int32) (s : gS) (Q : Int32 → gS → Prop) : Prop := ((a1 < 0 → Q 0 s) ∧ (¬ a1 < 0 → (((s.1 3) ≤ a1 → Q 0 s) ∧ (¬ (s.1 3) ≤ a1 → ((a2 < 0 → Q 0 s) ∧ (¬ a2 < 0 → (((s.1 4) ≤ a2 → Q 0 s) ∧ (¬ (s.1 4) ≤ a2 → Q 1 s))))))))
set_option maxHeartbeats 4000000 in
set_option maxRecDepth 100000 in
theorem w_Disk_has (X : gX) (ad : Nat → Nat) (a1 : Int32) (a2 : Int32) (s : gS) (Q : Int32 → gS → Prop) (h : wp_Disk_has a1 a2 s Q) (E : gE) (C : gC X E b_DK_has 3 R_DK) (hRm : gRm E = rm_Disk_has) (r : gR X E b_DK_has (some .boolean) (gBi (wC ad X) Q)) : gW X E 0 0 (wC ad X s) [(0, .ref (ad 1)), (1, .int a1), (2, .int a2)] 0 [] := by
  have h : ((a1 < 0 → Q 0 s) ∧ (¬ a1 < 0 → (((s.1 3) ≤ a1 → Q 0 s) ∧ (¬ (s.1 3) ≤ a1 → ((a2 < 0 → Q 0 s) ∧ (¬ a2 < 0 → (((s.1 4) ≤ a2 → Q 0 s) ∧ (¬ (s.1 4) ≤ a2 → Q 1 s)))))))) := h
  refine g_iload_n C d_DK_has_0 rfl 1 rfl ?_
  refine g_if_lt C 28 d_DK_has_1 (by decide) (fun c1 => ?_) (fun c1 => ?_)
  · have h := h.1 c1
    refine g_iconst C 0 d_DK_has_28 (by decide) ?_
    exact g_iret r rfl d_DK_has_29 (gBi_mk h)
  · have h := h.2 c1
    refine g_iload_n C d_DK_has_4 rfl 1 rfl ?_
    refine g_aload_n C d_DK_has_5 rfl 0 rfl ?_
    refine g_get C (v := .int (s.1 3)) 1 2 iw_DK rfl rfl (by decide) (gt 120 (by decide +kernel) rfl) rfl rfl d_DK_has_6 ?_
    refine g_icmp_ge C 28 d_DK_has_9 (by decide) (fun c2 => ?_) (fun c2 => ?_)
    · have h := h.1 c2
      refine g_iconst C 0 d_DK_has_28 (by decide) ?_
      exact g_iret r rfl d_DK_has_29 (gBi_mk h)
    · have h := h.2 c2
      refine g_iload_n C d_DK_has_12 rfl 2 rfl ?_
      refine g_if_lt C 28 d_DK_has_13 (by decide) (fun c3 => ?_) (fun c3 => ?_)
      · have h := h.1 c3
        refine g_iconst C 0 d_DK_has_28 (by decide) ?_
        exact g_iret r rfl d_DK_has_29 (gBi_mk h)
      · have h := h.2 c3
        refine g_iload_n C d_DK_has_16 rfl 2 rfl ?_
        refine g_aload_n C d_DK_has_17 rfl 0 rfl ?_
        refine g_get C (v := .int (s.1 4)) 1 3 iw_DK rfl rfl (by decide) (gt 123 (by decide +kernel) rfl) rfl rfl d_DK_has_18 ?_
        refine g_icmp_ge C 28 d_DK_has_21 (by decide) (fun c4 => ?_) (fun c4 => ?_)
        · have h := h.1 c4
          refine g_iconst C 0 d_DK_has_28 (by decide) ?_
          exact g_iret r rfl d_DK_has_29 (gBi_mk h)
        · have h := h.2 c4
          refine g_iconst C 1 d_DK_has_24 (by decide) ?_
          refine g_goto C 29 d_DK_has_25 (by decide) ?_
          exact g_iret r rfl d_DK_has_29 (gBi_mk h)
theorem m_Disk_has (X : gX) (ad : Nat → Nat) (a1 : Int32) (a2 : Int32) (s : gS) (Q : Int32 → gS → Prop) (h : wp_Disk_has a1 a2 s Q) (l : Launch) : gM l X y_DK_has b_DK_has 3 (some .boolean) rm_Disk_has [.ref (ad 1), .int a1, .int a2] (wC ad X s) (gBi (wC ad X) Q) :=
  gM_of (by decide +kernel) rfl (Nat.le_of_ble_eq_true rfl) rfl (fun E C hRm r => w_Disk_has X ad a1 a2 s Q h E C hRm r)
end
section
def rm_Disk_turnOver : Room := { frames := 1, cells := 0, slots := 0, locals := 22 }
def wp_Disk_turnOver (a1 : Int32) (a2 : Int32) (a3 : Int32) (s : gS) (Q : gS → Prop) : Prop := wp_Disk_has a1 a2 s (fun r2 s1 => ((r2 = 0 → Q s1) ∧ (¬ r2 = 0 → vp_in ((a1 * (s1.1 4)) + a2) 8000 ∧ (∀ v5 : Int32, v5 = (s1.2 0 ((a1 * (s1.1 4)) + a2).toNatClampNeg) ^^^ a3 → vp_in ((a1 * (s1.1 4)) + a2) 8000 ∧ (Q (s1.1, ua s1.2 0 (upd (s1.2 0) ((a1 * (s1.1 4)) + a2).toNatClampNeg v5)))))))
set_option maxHeartbeats 4000000 in
set_option maxRecDepth 100000 in
theorem w_Disk_turnOver (X : gX) (ad : Nat → Nat) (a1 : Int32) (a2 : Int32) (a3 : Int32) (s : gS) (Q : gS → Prop) (h : wp_Disk_turnOver a1 a2 a3 s Q) (E : gE) (C : gC X E b_DK_turnOver 4 R_DK) (hRm : gRm E = rm_Disk_turnOver) (r : gR X E b_DK_turnOver none (gBv (wC ad X) Q)) : gW X E 0 0 (wC ad X s) [(0, .ref (ad 1)), (1, .int a1), (2, .int a2), (3, .int a3)] 0 [] := by
  have h : wp_Disk_has a1 a2 s (fun r2 s1 => ((r2 = 0 → Q s1) ∧ (¬ r2 = 0 → vp_in ((a1 * (s1.1 4)) + a2) 8000 ∧ (∀ v5 : Int32, v5 = (s1.2 0 ((a1 * (s1.1 4)) + a2).toNatClampNeg) ^^^ a3 → vp_in ((a1 * (s1.1 4)) + a2) 8000 ∧ (Q (s1.1, ua s1.2 0 (upd (s1.2 0) ((a1 * (s1.1 4)) + a2).toNatClampNeg v5))))))) := h
  refine g_aload_n C d_DK_turnOver_0 rfl 0 rfl ?_
  refine g_iload_n C d_DK_turnOver_1 rfl 1 rfl ?_
  refine g_iload_n C d_DK_turnOver_2 rfl 2 rfl ?_
  refine g_callV C (rest := []) 1 (fun l => m_Disk_has X ad a1 a2 s _ h l) rfl rfl (gt 724 (by decide +kernel) rfl) cb_DK_has ⟨rfl, rfl⟩ (by rw [hRm]; decide) ⟨Nat.zero_le _, Nat.zero_le _⟩ rfl rfl (Nat.le_of_ble_eq_true rfl) d_DK_turnOver_3 (gki (fun r2 s1 h => ?_))
  refine g_if_eq C 26 d_DK_turnOver_6 (by decide) (fun c3 => ?_) (fun c3 => ?_)
  · have h := h.1 c3
    exact g_vret r d_DK_turnOver_26 (gBv_mk h)
  · have h := h.2 c3
    refine g_aload_n C d_DK_turnOver_9 rfl 0 rfl ?_
    refine g_get C (v := .ref (ad 2)) 1 0 iw_DK rfl rfl (by decide) (gt 118 (by decide +kernel) rfl) rfl rfl d_DK_turnOver_10 ?_
    refine g_iload_n C d_DK_turnOver_13 rfl 1 rfl ?_
    refine g_aload_n C d_DK_turnOver_14 rfl 0 rfl ?_
    refine g_get C (v := .int (s1.1 4)) 1 3 iw_DK rfl rfl (by decide) (gt 123 (by decide +kernel) rfl) rfl rfl d_DK_turnOver_15 ?_
    refine g_imul C d_DK_turnOver_18 ?_
    refine g_iload_n C d_DK_turnOver_19 rfl 2 rfl ?_
    refine g_iadd C d_DK_turnOver_20 ?_
    refine g_dup2 C rfl rfl d_DK_turnOver_21 ?_
    obtain ⟨i4, h⟩ := h
    refine g_iald C 2 0 rfl rfl i4 d_DK_turnOver_22 ?_
    refine g_iload_n C d_DK_turnOver_23 rfl 3 rfl ?_
    refine g_ixor C d_DK_turnOver_24 ?_
    refine g_topi (fun v5 e_v5 => ?_)
    have h := h v5 e_v5
    obtain ⟨i6, h⟩ := h
    refine g_iast C 2 0 (ws2 := wC ad X (s1.1, ua s1.2 0 (upd (s1.2 0) ((a1 * (s1.1 4)) + a2).toNatClampNeg v5))) rfl rfl i6 rfl d_DK_turnOver_25 ?_
    exact g_vret r d_DK_turnOver_26 (gBv_mk h)
theorem m_Disk_turnOver (X : gX) (ad : Nat → Nat) (a1 : Int32) (a2 : Int32) (a3 : Int32) (s : gS) (Q : gS → Prop) (h : wp_Disk_turnOver a1 a2 a3 s Q) (l : Launch) : gM l X y_DK_turnOver b_DK_turnOver 4 none rm_Disk_turnOver [.ref (ad 1), .int a1, .int a2, .int a3] (wC ad X s) (gBv (wC ad X) Q) :=
  gM_of (by decide +kernel) rfl (Nat.le_of_ble_eq_true rfl) rfl (fun E C hRm r => w_Disk_turnOver X ad a1 a2 a3 s Q h E C hRm r)
end
