section
-- ===== PART A: goes FIRST, ahead of the names: the tables' words, and 'selects' of the private methods out of them =====
/-- a private method of a class that the tables say can be made, by its rows of tables_1 -/
def lw_okq (q : MethodName × Nat) : Prop := (q.1.cls ≠ "java/lang/invoke/MethodHandle" ∧ q.1.cls ≠ "java/lang/invoke/VarHandle") ∧ Cond.instantiable q.1.cls q.2 ∈ tables_1 ∧ Cond.privateMethod q.1 ∈ tables_1 ∧ Cond.instanceMethod q.1 ∈ tables_1
theorem lw_p0 : lw_okq (⟨"SpillQueue$Runs", "keysInAll", "()I"⟩, 8) := ⟨⟨by decide +kernel, by decide +kernel⟩, List.mem_of_getElem? (i := 77) (by decide +kernel), List.mem_of_getElem? (i := 183) (by decide +kernel), List.mem_of_getElem? (i := 184) (by decide +kernel)⟩
theorem lw_p1 : lw_okq (⟨"java/lang/Throwable", "fillInStackTrace", "(I)Ljava/lang/Throwable;"⟩, 6) := ⟨⟨by decide +kernel, by decide +kernel⟩, List.mem_of_getElem? (i := 233) (by decide +kernel), List.mem_of_getElem? (i := 231) (by decide +kernel), List.mem_of_getElem? (i := 232) (by decide +kernel)⟩
theorem lw_p2 : lw_okq (⟨"SpillQueue", "powerOff", "()V"⟩, 10) := ⟨⟨by decide +kernel, by decide +kernel⟩, List.mem_of_getElem? (i := 19) (by decide +kernel), List.mem_of_getElem? (i := 266) (by decide +kernel), List.mem_of_getElem? (i := 267) (by decide +kernel)⟩
theorem lw_p3 : lw_okq (⟨"SpillQueue$Memory", "clear", "()V"⟩, 3) := ⟨⟨by decide +kernel, by decide +kernel⟩, List.mem_of_getElem? (i := 57) (by decide +kernel), List.mem_of_getElem? (i := 270) (by decide +kernel), List.mem_of_getElem? (i := 271) (by decide +kernel)⟩
theorem lw_p4 : lw_okq (⟨"SpillQueue$Runs", "clear", "()V"⟩, 8) := ⟨⟨by decide +kernel, by decide +kernel⟩, List.mem_of_getElem? (i := 77) (by decide +kernel), List.mem_of_getElem? (i := 274) (by decide +kernel), List.mem_of_getElem? (i := 275) (by decide +kernel)⟩
theorem lw_p5 : lw_okq (⟨"SpillQueue$BlockSet", "clear", "()V"⟩, 1) := ⟨⟨by decide +kernel, by decide +kernel⟩, List.mem_of_getElem? (i := 125) (by decide +kernel), List.mem_of_getElem? (i := 278) (by decide +kernel), List.mem_of_getElem? (i := 279) (by decide +kernel)⟩
theorem lw_p6 : lw_okq (⟨"SpillQueue$Disk", "renew", "(II)V"⟩, 6) := ⟨⟨by decide +kernel, by decide +kernel⟩, List.mem_of_getElem? (i := 27) (by decide +kernel), List.mem_of_getElem? (i := 282) (by decide +kernel), List.mem_of_getElem? (i := 283) (by decide +kernel)⟩
theorem lw_p7 : lw_okq (⟨"SpillQueue", "writeNextEpoch", "()I"⟩, 10) := ⟨⟨by decide +kernel, by decide +kernel⟩, List.mem_of_getElem? (i := 19) (by decide +kernel), List.mem_of_getElem? (i := 289) (by decide +kernel), List.mem_of_getElem? (i := 290) (by decide +kernel)⟩
theorem lw_p8 : lw_okq (⟨"SpillQueue$Superblocks", "store", "(ILSpillQueue$Runs;)Z"⟩, 2) := ⟨⟨by decide +kernel, by decide +kernel⟩, List.mem_of_getElem? (i := 119) (by decide +kernel), List.mem_of_getElem? (i := 293) (by decide +kernel), List.mem_of_getElem? (i := 294) (by decide +kernel)⟩
theorem lw_p9 : lw_okq (⟨"SpillQueue$Disk", "clearRow", "()V"⟩, 6) := ⟨⟨by decide +kernel, by decide +kernel⟩, List.mem_of_getElem? (i := 27) (by decide +kernel), List.mem_of_getElem? (i := 297) (by decide +kernel), List.mem_of_getElem? (i := 298) (by decide +kernel)⟩
theorem lw_p10 : lw_okq (⟨"SpillQueue$Disk", "setRow", "(II)V"⟩, 6) := ⟨⟨by decide +kernel, by decide +kernel⟩, List.mem_of_getElem? (i := 27) (by decide +kernel), List.mem_of_getElem? (i := 301) (by decide +kernel), List.mem_of_getElem? (i := 302) (by decide +kernel)⟩
theorem lw_p11 : lw_okq (⟨"SpillQueue$Disk", "writeRow", "(I)Z"⟩, 6) := ⟨⟨by decide +kernel, by decide +kernel⟩, List.mem_of_getElem? (i := 27) (by decide +kernel), List.mem_of_getElem? (i := 305) (by decide +kernel), List.mem_of_getElem? (i := 306) (by decide +kernel)⟩
theorem lw_p12 : lw_okq (⟨"SpillQueue$Disk", "sumOf", "(I)I"⟩, 6) := ⟨⟨by decide +kernel, by decide +kernel⟩, List.mem_of_getElem? (i := 27) (by decide +kernel), List.mem_of_getElem? (i := 312) (by decide +kernel), List.mem_of_getElem? (i := 313) (by decide +kernel)⟩
theorem lw_p13 : lw_okq (⟨"SpillQueue$Runs", "markBlocks", "(LSpillQueue$BlockSet;)V"⟩, 8) := ⟨⟨by decide +kernel, by decide +kernel⟩, List.mem_of_getElem? (i := 77) (by decide +kernel), List.mem_of_getElem? (i := 316) (by decide +kernel), List.mem_of_getElem? (i := 317) (by decide +kernel)⟩
theorem lw_p14 : lw_okq (⟨"SpillQueue$BlockSet", "add", "(I)V"⟩, 1) := ⟨⟨by decide +kernel, by decide +kernel⟩, List.mem_of_getElem? (i := 125) (by decide +kernel), List.mem_of_getElem? (i := 320) (by decide +kernel), List.mem_of_getElem? (i := 321) (by decide +kernel)⟩
theorem lw_p15 : lw_okq (⟨"SpillQueue$Disk", "get", "(II)I"⟩, 6) := ⟨⟨by decide +kernel, by decide +kernel⟩, List.mem_of_getElem? (i := 27) (by decide +kernel), List.mem_of_getElem? (i := 324) (by decide +kernel), List.mem_of_getElem? (i := 325) (by decide +kernel)⟩
def lw_privs_1 : List (MethodName × Nat) := [(⟨"SpillQueue$Runs", "keysInAll", "()I"⟩, 8), (⟨"java/lang/Throwable", "fillInStackTrace", "(I)Ljava/lang/Throwable;"⟩, 6), (⟨"SpillQueue", "powerOff", "()V"⟩, 10), (⟨"SpillQueue$Memory", "clear", "()V"⟩, 3), (⟨"SpillQueue$Runs", "clear", "()V"⟩, 8), (⟨"SpillQueue$BlockSet", "clear", "()V"⟩, 1), (⟨"SpillQueue$Disk", "renew", "(II)V"⟩, 6), (⟨"SpillQueue", "writeNextEpoch", "()I"⟩, 10), (⟨"SpillQueue$Superblocks", "store", "(ILSpillQueue$Runs;)Z"⟩, 2), (⟨"SpillQueue$Disk", "clearRow", "()V"⟩, 6), (⟨"SpillQueue$Disk", "setRow", "(II)V"⟩, 6), (⟨"SpillQueue$Disk", "writeRow", "(I)Z"⟩, 6), (⟨"SpillQueue$Disk", "sumOf", "(I)I"⟩, 6), (⟨"SpillQueue$Runs", "markBlocks", "(LSpillQueue$BlockSet;)V"⟩, 8), (⟨"SpillQueue$BlockSet", "add", "(I)V"⟩, 1), (⟨"SpillQueue$Disk", "get", "(II)I"⟩, 6)]
theorem lw_r1 : ∀ q ∈ lw_privs_1, lw_okq q := List.forall_mem_cons.mpr ⟨lw_p0, List.forall_mem_cons.mpr ⟨lw_p1, List.forall_mem_cons.mpr ⟨lw_p2, List.forall_mem_cons.mpr ⟨lw_p3, List.forall_mem_cons.mpr ⟨lw_p4, List.forall_mem_cons.mpr ⟨lw_p5, List.forall_mem_cons.mpr ⟨lw_p6, List.forall_mem_cons.mpr ⟨lw_p7, List.forall_mem_cons.mpr ⟨lw_p8, List.forall_mem_cons.mpr ⟨lw_p9, List.forall_mem_cons.mpr ⟨lw_p10, List.forall_mem_cons.mpr ⟨lw_p11, List.forall_mem_cons.mpr ⟨lw_p12, List.forall_mem_cons.mpr ⟨lw_p13, List.forall_mem_cons.mpr ⟨lw_p14, List.forall_mem_cons.mpr ⟨lw_p15, fun _ h => absurd h List.not_mem_nil⟩⟩⟩⟩⟩⟩⟩⟩⟩⟩⟩⟩⟩⟩⟩⟩
theorem lw_p16 : lw_okq (⟨"SpillQueue", "requireLive", "()V"⟩, 10) := ⟨⟨by decide +kernel, by decide +kernel⟩, List.mem_of_getElem? (i := 19) (by decide +kernel), List.mem_of_getElem? (i := 336) (by decide +kernel), List.mem_of_getElem? (i := 337) (by decide +kernel)⟩
theorem lw_p17 : lw_okq (⟨"SpillQueue$Memory", "isFull", "()Z"⟩, 3) := ⟨⟨by decide +kernel, by decide +kernel⟩, List.mem_of_getElem? (i := 57) (by decide +kernel), List.mem_of_getElem? (i := 357) (by decide +kernel), List.mem_of_getElem? (i := 358) (by decide +kernel)⟩
theorem lw_p18 : lw_okq (⟨"SpillQueue", "spill", "()I"⟩, 10) := ⟨⟨by decide +kernel, by decide +kernel⟩, List.mem_of_getElem? (i := 19) (by decide +kernel), List.mem_of_getElem? (i := 361) (by decide +kernel), List.mem_of_getElem? (i := 362) (by decide +kernel)⟩
theorem lw_p19 : lw_okq (⟨"SpillQueue$Disk", "mostRuns", "()I"⟩, 6) := ⟨⟨by decide +kernel, by decide +kernel⟩, List.mem_of_getElem? (i := 27) (by decide +kernel), List.mem_of_getElem? (i := 365) (by decide +kernel), List.mem_of_getElem? (i := 366) (by decide +kernel)⟩
theorem lw_p20 : lw_okq (⟨"SpillQueue$Runs", "chooseAll", "()V"⟩, 8) := ⟨⟨by decide +kernel, by decide +kernel⟩, List.mem_of_getElem? (i := 77) (by decide +kernel), List.mem_of_getElem? (i := 369) (by decide +kernel), List.mem_of_getElem? (i := 370) (by decide +kernel)⟩
theorem lw_p21 : lw_okq (⟨"SpillQueue$Runs", "greatestLevel", "()I"⟩, 8) := ⟨⟨by decide +kernel, by decide +kernel⟩, List.mem_of_getElem? (i := 77) (by decide +kernel), List.mem_of_getElem? (i := 373) (by decide +kernel), List.mem_of_getElem? (i := 374) (by decide +kernel)⟩
theorem lw_p22 : lw_okq (⟨"SpillQueue", "makeRun", "(LSpillQueue$Keys;I)I"⟩, 10) := ⟨⟨by decide +kernel, by decide +kernel⟩, List.mem_of_getElem? (i := 19) (by decide +kernel), List.mem_of_getElem? (i := 380) (by decide +kernel), List.mem_of_getElem? (i := 381) (by decide +kernel)⟩
theorem lw_p23 : lw_okq (⟨"SpillQueue$Disk", "blocksFor", "(I)I"⟩, 6) := ⟨⟨by decide +kernel, by decide +kernel⟩, List.mem_of_getElem? (i := 27) (by decide +kernel), List.mem_of_getElem? (i := 391) (by decide +kernel), List.mem_of_getElem? (i := 392) (by decide +kernel)⟩
theorem lw_p24 : lw_okq (⟨"SpillQueue$Disk", "keysPerBlock", "()I"⟩, 6) := ⟨⟨by decide +kernel, by decide +kernel⟩, List.mem_of_getElem? (i := 27) (by decide +kernel), List.mem_of_getElem? (i := 395) (by decide +kernel), List.mem_of_getElem? (i := 396) (by decide +kernel)⟩
theorem lw_p25 : lw_okq (⟨"SpillQueue", "gatherFree", "()I"⟩, 10) := ⟨⟨by decide +kernel, by decide +kernel⟩, List.mem_of_getElem? (i := 19) (by decide +kernel), List.mem_of_getElem? (i := 399) (by decide +kernel), List.mem_of_getElem? (i := 400) (by decide +kernel)⟩
theorem lw_p26 : lw_okq (⟨"SpillQueue$BlockSet", "copyOf", "(LSpillQueue$BlockSet;)V"⟩, 1) := ⟨⟨by decide +kernel, by decide +kernel⟩, List.mem_of_getElem? (i := 125) (by decide +kernel), List.mem_of_getElem? (i := 403) (by decide +kernel), List.mem_of_getElem? (i := 404) (by decide +kernel)⟩
theorem lw_p27 : lw_okq (⟨"SpillQueue$BlockSet", "has", "(I)Z"⟩, 1) := ⟨⟨by decide +kernel, by decide +kernel⟩, List.mem_of_getElem? (i := 125) (by decide +kernel), List.mem_of_getElem? (i := 407) (by decide +kernel), List.mem_of_getElem? (i := 408) (by decide +kernel)⟩
theorem lw_p28 : lw_okq (⟨"SpillQueue$Memory", "least", "()I"⟩, 3) := ⟨⟨by decide +kernel, by decide +kernel⟩, List.mem_of_getElem? (i := 57) (by decide +kernel), List.mem_of_getElem? (i := 424) (by decide +kernel), List.mem_of_getElem? (i := 425) (by decide +kernel)⟩
theorem lw_p29 : lw_okq (⟨"SpillQueue$Runs", "leastAt", "(Z)I"⟩, 8) := ⟨⟨by decide +kernel, by decide +kernel⟩, List.mem_of_getElem? (i := 77) (by decide +kernel), List.mem_of_getElem? (i := 431) (by decide +kernel), List.mem_of_getElem? (i := 432) (by decide +kernel)⟩
theorem lw_p30 : lw_okq (⟨"SpillQueue$Runs", "takeFrom", "(I)I"⟩, 8) := ⟨⟨by decide +kernel, by decide +kernel⟩, List.mem_of_getElem? (i := 77) (by decide +kernel), List.mem_of_getElem? (i := 435) (by decide +kernel), List.mem_of_getElem? (i := 436) (by decide +kernel)⟩
theorem lw_p31 : lw_okq (⟨"SpillQueue$Runs", "has", "(I)Z"⟩, 8) := ⟨⟨by decide +kernel, by decide +kernel⟩, List.mem_of_getElem? (i := 77) (by decide +kernel), List.mem_of_getElem? (i := 439) (by decide +kernel), List.mem_of_getElem? (i := 440) (by decide +kernel)⟩
def lw_privs_2 : List (MethodName × Nat) := [(⟨"SpillQueue", "requireLive", "()V"⟩, 10), (⟨"SpillQueue$Memory", "isFull", "()Z"⟩, 3), (⟨"SpillQueue", "spill", "()I"⟩, 10), (⟨"SpillQueue$Disk", "mostRuns", "()I"⟩, 6), (⟨"SpillQueue$Runs", "chooseAll", "()V"⟩, 8), (⟨"SpillQueue$Runs", "greatestLevel", "()I"⟩, 8), (⟨"SpillQueue", "makeRun", "(LSpillQueue$Keys;I)I"⟩, 10), (⟨"SpillQueue$Disk", "blocksFor", "(I)I"⟩, 6), (⟨"SpillQueue$Disk", "keysPerBlock", "()I"⟩, 6), (⟨"SpillQueue", "gatherFree", "()I"⟩, 10), (⟨"SpillQueue$BlockSet", "copyOf", "(LSpillQueue$BlockSet;)V"⟩, 1), (⟨"SpillQueue$BlockSet", "has", "(I)Z"⟩, 1), (⟨"SpillQueue$Memory", "least", "()I"⟩, 3), (⟨"SpillQueue$Runs", "leastAt", "(Z)I"⟩, 8), (⟨"SpillQueue$Runs", "takeFrom", "(I)I"⟩, 8), (⟨"SpillQueue$Runs", "has", "(I)Z"⟩, 8)]
theorem lw_r2 : ∀ q ∈ lw_privs_2, lw_okq q := List.forall_mem_cons.mpr ⟨lw_p16, List.forall_mem_cons.mpr ⟨lw_p17, List.forall_mem_cons.mpr ⟨lw_p18, List.forall_mem_cons.mpr ⟨lw_p19, List.forall_mem_cons.mpr ⟨lw_p20, List.forall_mem_cons.mpr ⟨lw_p21, List.forall_mem_cons.mpr ⟨lw_p22, List.forall_mem_cons.mpr ⟨lw_p23, List.forall_mem_cons.mpr ⟨lw_p24, List.forall_mem_cons.mpr ⟨lw_p25, List.forall_mem_cons.mpr ⟨lw_p26, List.forall_mem_cons.mpr ⟨lw_p27, List.forall_mem_cons.mpr ⟨lw_p28, List.forall_mem_cons.mpr ⟨lw_p29, List.forall_mem_cons.mpr ⟨lw_p30, List.forall_mem_cons.mpr ⟨lw_p31, fun _ h => absurd h List.not_mem_nil⟩⟩⟩⟩⟩⟩⟩⟩⟩⟩⟩⟩⟩⟩⟩⟩
theorem lw_p32 : lw_okq (⟨"SpillQueue$Runs", "dropEmpty", "()V"⟩, 8) := ⟨⟨by decide +kernel, by decide +kernel⟩, List.mem_of_getElem? (i := 77) (by decide +kernel), List.mem_of_getElem? (i := 445) (by decide +kernel), List.mem_of_getElem? (i := 446) (by decide +kernel)⟩
theorem lw_p33 : lw_okq (⟨"SpillQueue$Runs", "add", "(IIII)V"⟩, 8) := ⟨⟨by decide +kernel, by decide +kernel⟩, List.mem_of_getElem? (i := 77) (by decide +kernel), List.mem_of_getElem? (i := 449) (by decide +kernel), List.mem_of_getElem? (i := 450) (by decide +kernel)⟩
theorem lw_p34 : lw_okq (⟨"SpillQueue", "mergeCrowdedLevels", "()I"⟩, 10) := ⟨⟨by decide +kernel, by decide +kernel⟩, List.mem_of_getElem? (i := 19) (by decide +kernel), List.mem_of_getElem? (i := 453) (by decide +kernel), List.mem_of_getElem? (i := 454) (by decide +kernel)⟩
theorem lw_p35 : lw_okq (⟨"SpillQueue$Runs", "crowdedAt", "(I)I"⟩, 8) := ⟨⟨by decide +kernel, by decide +kernel⟩, List.mem_of_getElem? (i := 77) (by decide +kernel), List.mem_of_getElem? (i := 457) (by decide +kernel), List.mem_of_getElem? (i := 458) (by decide +kernel)⟩
theorem lw_p36 : lw_okq (⟨"SpillQueue$Runs", "runsAtLevelOf", "(I)I"⟩, 8) := ⟨⟨by decide +kernel, by decide +kernel⟩, List.mem_of_getElem? (i := 77) (by decide +kernel), List.mem_of_getElem? (i := 461) (by decide +kernel), List.mem_of_getElem? (i := 462) (by decide +kernel)⟩
theorem lw_p37 : lw_okq (⟨"SpillQueue$Runs", "chooseLevel", "(I)V"⟩, 8) := ⟨⟨by decide +kernel, by decide +kernel⟩, List.mem_of_getElem? (i := 77) (by decide +kernel), List.mem_of_getElem? (i := 465) (by decide +kernel), List.mem_of_getElem? (i := 466) (by decide +kernel)⟩
theorem lw_p38 : lw_okq (⟨"SpillQueue$Memory", "add", "(I)V"⟩, 3) := ⟨⟨by decide +kernel, by decide +kernel⟩, List.mem_of_getElem? (i := 57) (by decide +kernel), List.mem_of_getElem? (i := 469) (by decide +kernel), List.mem_of_getElem? (i := 470) (by decide +kernel)⟩
theorem lw_p39 : lw_okq (⟨"SpillQueue", "isLeastInMemory", "(I)Z"⟩, 10) := ⟨⟨by decide +kernel, by decide +kernel⟩, List.mem_of_getElem? (i := 19) (by decide +kernel), List.mem_of_getElem? (i := 481) (by decide +kernel), List.mem_of_getElem? (i := 482) (by decide +kernel)⟩
theorem lw_p40 : lw_okq (⟨"SpillQueue$Runs", "headOf", "(I)I"⟩, 8) := ⟨⟨by decide +kernel, by decide +kernel⟩, List.mem_of_getElem? (i := 77) (by decide +kernel), List.mem_of_getElem? (i := 486) (by decide +kernel), List.mem_of_getElem? (i := 487) (by decide +kernel)⟩
theorem lw_p41 : lw_okq (⟨"SpillQueue", "requireDisk", "()V"⟩, 10) := ⟨⟨by decide +kernel, by decide +kernel⟩, List.mem_of_getElem? (i := 19) (by decide +kernel), List.mem_of_getElem? (i := 521) (by decide +kernel), List.mem_of_getElem? (i := 522) (by decide +kernel)⟩
theorem lw_p42 : lw_okq (⟨"SpillQueue$Superblocks", "newestGood", "()I"⟩, 2) := ⟨⟨by decide +kernel, by decide +kernel⟩, List.mem_of_getElem? (i := 119) (by decide +kernel), List.mem_of_getElem? (i := 533) (by decide +kernel), List.mem_of_getElem? (i := 534) (by decide +kernel)⟩
theorem lw_p43 : lw_okq (⟨"SpillQueue$Superblocks", "isGood", "(I)Z"⟩, 2) := ⟨⟨by decide +kernel, by decide +kernel⟩, List.mem_of_getElem? (i := 119) (by decide +kernel), List.mem_of_getElem? (i := 537) (by decide +kernel), List.mem_of_getElem? (i := 538) (by decide +kernel)⟩
theorem lw_p44 : lw_okq (⟨"SpillQueue$Superblocks", "epochOf", "(I)I"⟩, 2) := ⟨⟨by decide +kernel, by decide +kernel⟩, List.mem_of_getElem? (i := 119) (by decide +kernel), List.mem_of_getElem? (i := 541) (by decide +kernel), List.mem_of_getElem? (i := 542) (by decide +kernel)⟩
theorem lw_p45 : lw_okq (⟨"SpillQueue$Superblocks", "isRunRight", "(II)Z"⟩, 2) := ⟨⟨by decide +kernel, by decide +kernel⟩, List.mem_of_getElem? (i := 119) (by decide +kernel), List.mem_of_getElem? (i := 549) (by decide +kernel), List.mem_of_getElem? (i := 550) (by decide +kernel)⟩
theorem lw_p46 : lw_okq (⟨"SpillQueue$Superblocks", "isChainRight", "(III)Z"⟩, 2) := ⟨⟨by decide +kernel, by decide +kernel⟩, List.mem_of_getElem? (i := 119) (by decide +kernel), List.mem_of_getElem? (i := 554) (by decide +kernel), List.mem_of_getElem? (i := 555) (by decide +kernel)⟩
theorem lw_p47 : lw_okq (⟨"SpillQueue$Superblocks", "isNewRightBlock", "(I)Z"⟩, 2) := ⟨⟨by decide +kernel, by decide +kernel⟩, List.mem_of_getElem? (i := 119) (by decide +kernel), List.mem_of_getElem? (i := 559) (by decide +kernel), List.mem_of_getElem? (i := 560) (by decide +kernel)⟩
def lw_privs_3 : List (MethodName × Nat) := [(⟨"SpillQueue$Runs", "dropEmpty", "()V"⟩, 8), (⟨"SpillQueue$Runs", "add", "(IIII)V"⟩, 8), (⟨"SpillQueue", "mergeCrowdedLevels", "()I"⟩, 10), (⟨"SpillQueue$Runs", "crowdedAt", "(I)I"⟩, 8), (⟨"SpillQueue$Runs", "runsAtLevelOf", "(I)I"⟩, 8), (⟨"SpillQueue$Runs", "chooseLevel", "(I)V"⟩, 8), (⟨"SpillQueue$Memory", "add", "(I)V"⟩, 3), (⟨"SpillQueue", "isLeastInMemory", "(I)Z"⟩, 10), (⟨"SpillQueue$Runs", "headOf", "(I)I"⟩, 8), (⟨"SpillQueue", "requireDisk", "()V"⟩, 10), (⟨"SpillQueue$Superblocks", "newestGood", "()I"⟩, 2), (⟨"SpillQueue$Superblocks", "isGood", "(I)Z"⟩, 2), (⟨"SpillQueue$Superblocks", "epochOf", "(I)I"⟩, 2), (⟨"SpillQueue$Superblocks", "isRunRight", "(II)Z"⟩, 2), (⟨"SpillQueue$Superblocks", "isChainRight", "(III)Z"⟩, 2), (⟨"SpillQueue$Superblocks", "isNewRightBlock", "(I)Z"⟩, 2)]
theorem lw_r3 : ∀ q ∈ lw_privs_3, lw_okq q := List.forall_mem_cons.mpr ⟨lw_p32, List.forall_mem_cons.mpr ⟨lw_p33, List.forall_mem_cons.mpr ⟨lw_p34, List.forall_mem_cons.mpr ⟨lw_p35, List.forall_mem_cons.mpr ⟨lw_p36, List.forall_mem_cons.mpr ⟨lw_p37, List.forall_mem_cons.mpr ⟨lw_p38, List.forall_mem_cons.mpr ⟨lw_p39, List.forall_mem_cons.mpr ⟨lw_p40, List.forall_mem_cons.mpr ⟨lw_p41, List.forall_mem_cons.mpr ⟨lw_p42, List.forall_mem_cons.mpr ⟨lw_p43, List.forall_mem_cons.mpr ⟨lw_p44, List.forall_mem_cons.mpr ⟨lw_p45, List.forall_mem_cons.mpr ⟨lw_p46, List.forall_mem_cons.mpr ⟨lw_p47, fun _ h => absurd h List.not_mem_nil⟩⟩⟩⟩⟩⟩⟩⟩⟩⟩⟩⟩⟩⟩⟩⟩
theorem lw_p48 : lw_okq (⟨"SpillQueue$Superblocks", "lastOfRising", "(IIII)I"⟩, 2) := ⟨⟨by decide +kernel, by decide +kernel⟩, List.mem_of_getElem? (i := 119) (by decide +kernel), List.mem_of_getElem? (i := 566) (by decide +kernel), List.mem_of_getElem? (i := 567) (by decide +kernel)⟩
theorem lw_p49 : lw_okq (⟨"SpillQueue$Superblocks", "load", "(ILSpillQueue$Runs;)V"⟩, 2) := ⟨⟨by decide +kernel, by decide +kernel⟩, List.mem_of_getElem? (i := 119) (by decide +kernel), List.mem_of_getElem? (i := 570) (by decide +kernel), List.mem_of_getElem? (i := 571) (by decide +kernel)⟩
theorem lw_p50 : lw_okq (⟨"SpillQueue", "requireWord", "(II)V"⟩, 10) := ⟨⟨by decide +kernel, by decide +kernel⟩, List.mem_of_getElem? (i := 19) (by decide +kernel), List.mem_of_getElem? (i := 617) (by decide +kernel), List.mem_of_getElem? (i := 618) (by decide +kernel)⟩
theorem lw_p51 : lw_okq (⟨"SpillQueue$Disk", "has", "(II)Z"⟩, 6) := ⟨⟨by decide +kernel, by decide +kernel⟩, List.mem_of_getElem? (i := 27) (by decide +kernel), List.mem_of_getElem? (i := 621) (by decide +kernel), List.mem_of_getElem? (i := 622) (by decide +kernel)⟩
theorem lw_p52 : lw_okq (⟨"SpillQueue$Disk", "turnOver", "(III)V"⟩, 6) := ⟨⟨by decide +kernel, by decide +kernel⟩, List.mem_of_getElem? (i := 27) (by decide +kernel), List.mem_of_getElem? (i := 635) (by decide +kernel), List.mem_of_getElem? (i := 636) (by decide +kernel)⟩
theorem lw_p53 : lw_okq (⟨"SpillQueueModel", "writeSuper", "()V"⟩, 27) := ⟨⟨by decide +kernel, by decide +kernel⟩, List.mem_of_getElem? (i := 640) (by decide +kernel), List.mem_of_getElem? (i := 739) (by decide +kernel), List.mem_of_getElem? (i := 740) (by decide +kernel)⟩
theorem lw_p54 : lw_okq (⟨"SpillQueueModel", "clearRow", "()V"⟩, 27) := ⟨⟨by decide +kernel, by decide +kernel⟩, List.mem_of_getElem? (i := 640) (by decide +kernel), List.mem_of_getElem? (i := 743) (by decide +kernel), List.mem_of_getElem? (i := 744) (by decide +kernel)⟩
theorem lw_p55 : lw_okq (⟨"SpillQueueModel", "write", "(I)V"⟩, 27) := ⟨⟨by decide +kernel, by decide +kernel⟩, List.mem_of_getElem? (i := 640) (by decide +kernel), List.mem_of_getElem? (i := 747) (by decide +kernel), List.mem_of_getElem? (i := 748) (by decide +kernel)⟩
theorem lw_p56 : lw_okq (⟨"SpillQueueModel", "sumOf", "(I)I"⟩, 27) := ⟨⟨by decide +kernel, by decide +kernel⟩, List.mem_of_getElem? (i := 640) (by decide +kernel), List.mem_of_getElem? (i := 751) (by decide +kernel), List.mem_of_getElem? (i := 752) (by decide +kernel)⟩
theorem lw_p57 : lw_okq (⟨"SpillQueueModel", "at", "(II)I"⟩, 27) := ⟨⟨by decide +kernel, by decide +kernel⟩, List.mem_of_getElem? (i := 640) (by decide +kernel), List.mem_of_getElem? (i := 755) (by decide +kernel), List.mem_of_getElem? (i := 756) (by decide +kernel)⟩
theorem lw_p58 : lw_okq (⟨"SpillQueueModel", "markTaken", "()V"⟩, 27) := ⟨⟨by decide +kernel, by decide +kernel⟩, List.mem_of_getElem? (i := 640) (by decide +kernel), List.mem_of_getElem? (i := 759) (by decide +kernel), List.mem_of_getElem? (i := 760) (by decide +kernel)⟩
theorem lw_p59 : lw_okq (⟨"SpillQueueModel", "blocksOf", "(II)I"⟩, 27) := ⟨⟨by decide +kernel, by decide +kernel⟩, List.mem_of_getElem? (i := 640) (by decide +kernel), List.mem_of_getElem? (i := 763) (by decide +kernel), List.mem_of_getElem? (i := 764) (by decide +kernel)⟩
theorem lw_p60 : lw_okq (⟨"SpillQueueModel", "room", "()I"⟩, 27) := ⟨⟨by decide +kernel, by decide +kernel⟩, List.mem_of_getElem? (i := 640) (by decide +kernel), List.mem_of_getElem? (i := 767) (by decide +kernel), List.mem_of_getElem? (i := 768) (by decide +kernel)⟩
theorem lw_p61 : lw_okq (⟨"SpillQueueModel", "spill", "()Z"⟩, 27) := ⟨⟨by decide +kernel, by decide +kernel⟩, List.mem_of_getElem? (i := 640) (by decide +kernel), List.mem_of_getElem? (i := 775) (by decide +kernel), List.mem_of_getElem? (i := 776) (by decide +kernel)⟩
theorem lw_p62 : lw_okq (⟨"SpillQueueModel", "most", "()I"⟩, 27) := ⟨⟨by decide +kernel, by decide +kernel⟩, List.mem_of_getElem? (i := 640) (by decide +kernel), List.mem_of_getElem? (i := 779) (by decide +kernel), List.mem_of_getElem? (i := 780) (by decide +kernel)⟩
theorem lw_p63 : lw_okq (⟨"SpillQueueModel", "mergeAll", "()Z"⟩, 27) := ⟨⟨by decide +kernel, by decide +kernel⟩, List.mem_of_getElem? (i := 640) (by decide +kernel), List.mem_of_getElem? (i := 783) (by decide +kernel), List.mem_of_getElem? (i := 784) (by decide +kernel)⟩
def lw_privs_4 : List (MethodName × Nat) := [(⟨"SpillQueue$Superblocks", "lastOfRising", "(IIII)I"⟩, 2), (⟨"SpillQueue$Superblocks", "load", "(ILSpillQueue$Runs;)V"⟩, 2), (⟨"SpillQueue", "requireWord", "(II)V"⟩, 10), (⟨"SpillQueue$Disk", "has", "(II)Z"⟩, 6), (⟨"SpillQueue$Disk", "turnOver", "(III)V"⟩, 6), (⟨"SpillQueueModel", "writeSuper", "()V"⟩, 27), (⟨"SpillQueueModel", "clearRow", "()V"⟩, 27), (⟨"SpillQueueModel", "write", "(I)V"⟩, 27), (⟨"SpillQueueModel", "sumOf", "(I)I"⟩, 27), (⟨"SpillQueueModel", "at", "(II)I"⟩, 27), (⟨"SpillQueueModel", "markTaken", "()V"⟩, 27), (⟨"SpillQueueModel", "blocksOf", "(II)I"⟩, 27), (⟨"SpillQueueModel", "room", "()I"⟩, 27), (⟨"SpillQueueModel", "spill", "()Z"⟩, 27), (⟨"SpillQueueModel", "most", "()I"⟩, 27), (⟨"SpillQueueModel", "mergeAll", "()Z"⟩, 27)]
theorem lw_r4 : ∀ q ∈ lw_privs_4, lw_okq q := List.forall_mem_cons.mpr ⟨lw_p48, List.forall_mem_cons.mpr ⟨lw_p49, List.forall_mem_cons.mpr ⟨lw_p50, List.forall_mem_cons.mpr ⟨lw_p51, List.forall_mem_cons.mpr ⟨lw_p52, List.forall_mem_cons.mpr ⟨lw_p53, List.forall_mem_cons.mpr ⟨lw_p54, List.forall_mem_cons.mpr ⟨lw_p55, List.forall_mem_cons.mpr ⟨lw_p56, List.forall_mem_cons.mpr ⟨lw_p57, List.forall_mem_cons.mpr ⟨lw_p58, List.forall_mem_cons.mpr ⟨lw_p59, List.forall_mem_cons.mpr ⟨lw_p60, List.forall_mem_cons.mpr ⟨lw_p61, List.forall_mem_cons.mpr ⟨lw_p62, List.forall_mem_cons.mpr ⟨lw_p63, fun _ h => absurd h List.not_mem_nil⟩⟩⟩⟩⟩⟩⟩⟩⟩⟩⟩⟩⟩⟩⟩⟩
theorem lw_p64 : lw_okq (⟨"SpillQueueModel", "merge", "(ZII)Z"⟩, 27) := ⟨⟨by decide +kernel, by decide +kernel⟩, List.mem_of_getElem? (i := 640) (by decide +kernel), List.mem_of_getElem? (i := 787) (by decide +kernel), List.mem_of_getElem? (i := 788) (by decide +kernel)⟩
theorem lw_p65 : lw_okq (⟨"SpillQueueModel", "choose", "(I)Z"⟩, 27) := ⟨⟨by decide +kernel, by decide +kernel⟩, List.mem_of_getElem? (i := 640) (by decide +kernel), List.mem_of_getElem? (i := 791) (by decide +kernel), List.mem_of_getElem? (i := 792) (by decide +kernel)⟩
theorem lw_p66 : lw_okq (⟨"SpillQueueModel", "free", "()I"⟩, 27) := ⟨⟨by decide +kernel, by decide +kernel⟩, List.mem_of_getElem? (i := 640) (by decide +kernel), List.mem_of_getElem? (i := 795) (by decide +kernel), List.mem_of_getElem? (i := 796) (by decide +kernel)⟩
theorem lw_p67 : lw_okq (⟨"SpillQueueModel", "isFree", "(I)Z"⟩, 27) := ⟨⟨by decide +kernel, by decide +kernel⟩, List.mem_of_getElem? (i := 640) (by decide +kernel), List.mem_of_getElem? (i := 799) (by decide +kernel), List.mem_of_getElem? (i := 800) (by decide +kernel)⟩
theorem lw_p68 : lw_okq (⟨"SpillQueueModel", "writeKeys", "(IZ)V"⟩, 27) := ⟨⟨by decide +kernel, by decide +kernel⟩, List.mem_of_getElem? (i := 640) (by decide +kernel), List.mem_of_getElem? (i := 803) (by decide +kernel), List.mem_of_getElem? (i := 804) (by decide +kernel)⟩
theorem lw_p69 : lw_okq (⟨"SpillQueueModel", "takeFromMemory", "()I"⟩, 27) := ⟨⟨by decide +kernel, by decide +kernel⟩, List.mem_of_getElem? (i := 640) (by decide +kernel), List.mem_of_getElem? (i := 807) (by decide +kernel), List.mem_of_getElem? (i := 808) (by decide +kernel)⟩
theorem lw_p70 : lw_okq (⟨"SpillQueueModel", "takeFromRuns", "()I"⟩, 27) := ⟨⟨by decide +kernel, by decide +kernel⟩, List.mem_of_getElem? (i := 640) (by decide +kernel), List.mem_of_getElem? (i := 811) (by decide +kernel), List.mem_of_getElem? (i := 812) (by decide +kernel)⟩
theorem lw_p71 : lw_okq (⟨"SpillQueueModel", "headOf", "(I)I"⟩, 27) := ⟨⟨by decide +kernel, by decide +kernel⟩, List.mem_of_getElem? (i := 640) (by decide +kernel), List.mem_of_getElem? (i := 815) (by decide +kernel), List.mem_of_getElem? (i := 816) (by decide +kernel)⟩
theorem lw_p72 : lw_okq (⟨"SpillQueueModel", "dropRun", "(I)V"⟩, 27) := ⟨⟨by decide +kernel, by decide +kernel⟩, List.mem_of_getElem? (i := 640) (by decide +kernel), List.mem_of_getElem? (i := 819) (by decide +kernel), List.mem_of_getElem? (i := 820) (by decide +kernel)⟩
theorem lw_p73 : lw_okq (⟨"SpillQueueModel", "addRun", "(III)V"⟩, 27) := ⟨⟨by decide +kernel, by decide +kernel⟩, List.mem_of_getElem? (i := 640) (by decide +kernel), List.mem_of_getElem? (i := 823) (by decide +kernel), List.mem_of_getElem? (i := 824) (by decide +kernel)⟩
theorem lw_p74 : lw_okq (⟨"SpillQueueModel", "crowded", "()I"⟩, 27) := ⟨⟨by decide +kernel, by decide +kernel⟩, List.mem_of_getElem? (i := 640) (by decide +kernel), List.mem_of_getElem? (i := 827) (by decide +kernel), List.mem_of_getElem? (i := 828) (by decide +kernel)⟩
theorem lw_p75 : lw_okq (⟨"SpillQueueModel", "runsOf", "(I)I"⟩, 27) := ⟨⟨by decide +kernel, by decide +kernel⟩, List.mem_of_getElem? (i := 640) (by decide +kernel), List.mem_of_getElem? (i := 831) (by decide +kernel), List.mem_of_getElem? (i := 832) (by decide +kernel)⟩
theorem lw_p76 : lw_okq (⟨"SpillQueueModel", "after", "(I)I"⟩, 27) := ⟨⟨by decide +kernel, by decide +kernel⟩, List.mem_of_getElem? (i := 640) (by decide +kernel), List.mem_of_getElem? (i := 835) (by decide +kernel), List.mem_of_getElem? (i := 836) (by decide +kernel)⟩
theorem lw_p77 : lw_okq (⟨"SpillQueueModel", "die", "()V"⟩, 27) := ⟨⟨by decide +kernel, by decide +kernel⟩, List.mem_of_getElem? (i := 640) (by decide +kernel), List.mem_of_getElem? (i := 839) (by decide +kernel), List.mem_of_getElem? (i := 840) (by decide +kernel)⟩
theorem lw_p78 : lw_okq (⟨"SpillQueueModel", "leastKey", "()I"⟩, 27) := ⟨⟨by decide +kernel, by decide +kernel⟩, List.mem_of_getElem? (i := 640) (by decide +kernel), List.mem_of_getElem? (i := 847) (by decide +kernel), List.mem_of_getElem? (i := 848) (by decide +kernel)⟩
theorem lw_p79 : lw_okq (⟨"SpillQueueModel", "leastRun", "()I"⟩, 27) := ⟨⟨by decide +kernel, by decide +kernel⟩, List.mem_of_getElem? (i := 640) (by decide +kernel), List.mem_of_getElem? (i := 851) (by decide +kernel), List.mem_of_getElem? (i := 852) (by decide +kernel)⟩
def lw_privs_5 : List (MethodName × Nat) := [(⟨"SpillQueueModel", "merge", "(ZII)Z"⟩, 27), (⟨"SpillQueueModel", "choose", "(I)Z"⟩, 27), (⟨"SpillQueueModel", "free", "()I"⟩, 27), (⟨"SpillQueueModel", "isFree", "(I)Z"⟩, 27), (⟨"SpillQueueModel", "writeKeys", "(IZ)V"⟩, 27), (⟨"SpillQueueModel", "takeFromMemory", "()I"⟩, 27), (⟨"SpillQueueModel", "takeFromRuns", "()I"⟩, 27), (⟨"SpillQueueModel", "headOf", "(I)I"⟩, 27), (⟨"SpillQueueModel", "dropRun", "(I)V"⟩, 27), (⟨"SpillQueueModel", "addRun", "(III)V"⟩, 27), (⟨"SpillQueueModel", "crowded", "()I"⟩, 27), (⟨"SpillQueueModel", "runsOf", "(I)I"⟩, 27), (⟨"SpillQueueModel", "after", "(I)I"⟩, 27), (⟨"SpillQueueModel", "die", "()V"⟩, 27), (⟨"SpillQueueModel", "leastKey", "()I"⟩, 27), (⟨"SpillQueueModel", "leastRun", "()I"⟩, 27)]
theorem lw_r5 : ∀ q ∈ lw_privs_5, lw_okq q := List.forall_mem_cons.mpr ⟨lw_p64, List.forall_mem_cons.mpr ⟨lw_p65, List.forall_mem_cons.mpr ⟨lw_p66, List.forall_mem_cons.mpr ⟨lw_p67, List.forall_mem_cons.mpr ⟨lw_p68, List.forall_mem_cons.mpr ⟨lw_p69, List.forall_mem_cons.mpr ⟨lw_p70, List.forall_mem_cons.mpr ⟨lw_p71, List.forall_mem_cons.mpr ⟨lw_p72, List.forall_mem_cons.mpr ⟨lw_p73, List.forall_mem_cons.mpr ⟨lw_p74, List.forall_mem_cons.mpr ⟨lw_p75, List.forall_mem_cons.mpr ⟨lw_p76, List.forall_mem_cons.mpr ⟨lw_p77, List.forall_mem_cons.mpr ⟨lw_p78, List.forall_mem_cons.mpr ⟨lw_p79, fun _ h => absurd h List.not_mem_nil⟩⟩⟩⟩⟩⟩⟩⟩⟩⟩⟩⟩⟩⟩⟩⟩
theorem lw_p80 : lw_okq (⟨"SpillQueueModel", "least", "(I)I"⟩, 27) := ⟨⟨by decide +kernel, by decide +kernel⟩, List.mem_of_getElem? (i := 640) (by decide +kernel), List.mem_of_getElem? (i := 855) (by decide +kernel), List.mem_of_getElem? (i := 856) (by decide +kernel)⟩
theorem lw_p81 : lw_okq (⟨"SpillQueueModel", "leastInMemory", "()I"⟩, 27) := ⟨⟨by decide +kernel, by decide +kernel⟩, List.mem_of_getElem? (i := 640) (by decide +kernel), List.mem_of_getElem? (i := 859) (by decide +kernel), List.mem_of_getElem? (i := 860) (by decide +kernel)⟩
theorem lw_p82 : lw_okq (⟨"SpillQueueModel", "readSuper", "(I)Z"⟩, 27) := ⟨⟨by decide +kernel, by decide +kernel⟩, List.mem_of_getElem? (i := 640) (by decide +kernel), List.mem_of_getElem? (i := 883) (by decide +kernel), List.mem_of_getElem? (i := 884) (by decide +kernel)⟩
theorem lw_p83 : lw_okq (⟨"SpillQueueModel", "readRun", "(II)Z"⟩, 27) := ⟨⟨by decide +kernel, by decide +kernel⟩, List.mem_of_getElem? (i := 640) (by decide +kernel), List.mem_of_getElem? (i := 887) (by decide +kernel), List.mem_of_getElem? (i := 888) (by decide +kernel)⟩
theorem lw_p84 : lw_okq (⟨"SpillQueueModel", "size0", "()I"⟩, 27) := ⟨⟨by decide +kernel, by decide +kernel⟩, List.mem_of_getElem? (i := 640) (by decide +kernel), List.mem_of_getElem? (i := 891) (by decide +kernel), List.mem_of_getElem? (i := 892) (by decide +kernel)⟩
theorem lw_p85 : lw_okq (⟨"SpillQueueModel", "isWord", "(II)Z"⟩, 27) := ⟨⟨by decide +kernel, by decide +kernel⟩, List.mem_of_getElem? (i := 640) (by decide +kernel), List.mem_of_getElem? (i := 911) (by decide +kernel), List.mem_of_getElem? (i := 912) (by decide +kernel)⟩
def lw_privs_6 : List (MethodName × Nat) := [(⟨"SpillQueueModel", "least", "(I)I"⟩, 27), (⟨"SpillQueueModel", "leastInMemory", "()I"⟩, 27), (⟨"SpillQueueModel", "readSuper", "(I)Z"⟩, 27), (⟨"SpillQueueModel", "readRun", "(II)Z"⟩, 27), (⟨"SpillQueueModel", "size0", "()I"⟩, 27), (⟨"SpillQueueModel", "isWord", "(II)Z"⟩, 27)]
theorem lw_r6 : ∀ q ∈ lw_privs_6, lw_okq q := List.forall_mem_cons.mpr ⟨lw_p80, List.forall_mem_cons.mpr ⟨lw_p81, List.forall_mem_cons.mpr ⟨lw_p82, List.forall_mem_cons.mpr ⟨lw_p83, List.forall_mem_cons.mpr ⟨lw_p84, List.forall_mem_cons.mpr ⟨lw_p85, fun _ h => absurd h List.not_mem_nil⟩⟩⟩⟩⟩⟩
def lw_privs : List (MethodName × Nat) := lw_privs_1 ++ (lw_privs_2 ++ (lw_privs_3 ++ (lw_privs_4 ++ (lw_privs_5 ++ (lw_privs_6)))))
def lw_tbl : List Cond := k2_sels lw_privs ++ tables_1
theorem lw_privs_ok : ∀ q ∈ lw_privs, lw_okq q := by
  show ∀ q ∈ lw_privs_1 ++ (lw_privs_2 ++ (lw_privs_3 ++ (lw_privs_4 ++ (lw_privs_5 ++ (lw_privs_6))))), lw_okq q
  exact List.forall_mem_append.mpr ⟨lw_r1, List.forall_mem_append.mpr ⟨lw_r2, List.forall_mem_append.mpr ⟨lw_r3, List.forall_mem_append.mpr ⟨lw_r4, List.forall_mem_append.mpr ⟨lw_r5, lw_r6⟩⟩⟩⟩⟩
end
section
/-! ===== BEGIN words of one list among another's, by their places ===== -/
theorem goodIn_r {big : List Cond} (ws : List Cond) (ps : List Nat) (hp : ws = ps.filterMap (fun i => big[i]?)) (h : ws.all goodWord = true) : GoodIn big ws := by
  intro w hw
  have h1 := List.all_eq_true.mp h w hw
  rw [hp] at hw
  obtain ⟨i, -, hi⟩ := List.mem_filterMap.mp hw
  have hm : w ∈ big := by first | exact List.mem_of_getElem? hi | exact List.getElem?_mem hi
  exact ⟨hm, good_of_word h1⟩
theorem goodIn_app {big a b : List Cond} (ha : GoodIn big a) (hb : GoodIn big b) : GoodIn big (a ++ b) := fun w h => (List.mem_append.mp h).elim (ha w) (hb w)
theorem goodIn_ca {big a b : List Cond} {c : Cond} (ha : GoodIn big (c :: a)) (hb : GoodIn big b) : GoodIn big (c :: (a ++ b)) := fun w h => (List.mem_cons.mp h).elim (fun e => ha w (List.mem_cons.mpr (Or.inl e))) (fun h => (List.mem_append.mp h).elim (fun h => ha w (List.mem_cons.mpr (Or.inr h))) (hb w))
theorem goodIn_sub {big ws : List Cond} (hm : ∀ w ∈ ws, w ∈ big) (h : ws.all goodWord = true) : GoodIn big ws := fun w hw => ⟨hm w hw, good_of_word (List.all_eq_true.mp h w hw)⟩
/-! ===== END ===== -/

/-! ===== BEGIN exceptions that leave a method, and their catching by the caller (launches without stack traces) ===== -/
section VXA
/-! The laws vx_back, vx_callV, vx_callS, vx_callSW, vx_throw0, vx_throwS follow proofs of the library, with one case more: JvmDerived/Free/Laws.lean (Back.of_free), Shelf42/LK1.lean (callV, callS), Shelf/KitTraced.lean (throwNew0V, throwNewS). -/
/-- where a method has thrown q: the class by its name, the cell, what was written, the world -/
def vx_T (XC : String → State → State → Prop) (st : State) (q : Addr) (t : State) (mc ms : Nat) (free : Addr → Prop) : Prop :=
  ∃ (E : String) (ce : Cell) (L : List Loc), XC E st t ∧ t.heap[q]? = some ce ∧ ce.vm = .none ∧ st.vm.findClass E = some ce.cls ∧ st.WarmedH t.vm ∧ st.sameButNew ({ t with vm := st.vm } : State) L mc ms ∧ ∀ z ∈ L, free z.base
def vx_Q (Qc : Array Value → State → Outcome → State → Prop) (XC : String → State → State → Prop) (mc ms : Nat) (free : Addr → Prop) : Array Value → State → Outcome → State → Prop := fun a st o t =>
  (Qc a st o t ∧ ∃ L, FrameEnd st o t L mc ms ∧ ∀ q ∈ L, free q.base) ∨ ∃ q, o = .threw q ∧ vx_T XC st q t mc ms free
/-- a callee that returns or throws -/
def vx_Met (l : Launch) (y : MethodName) (ws : List Cond) (rm : Room) (Pc : Array Value → State → Prop) (Qc : Array Value → State → Outcome → State → Prop) (XC : String → State → State → Prop) (mc ms : Nat) (free : Addr → Prop) : Prop :=
  MetFree l y (headSpec ws rm) Pc (fun _ _ _ _ _ => True) (vx_Q Qc XC mc ms free)
def vx_Post (XC : String → State → State → Prop) (mc ms : Nat) (free : Addr → Prop) : Pt → Array Value → Addr → Pt → Prop := fun A a q B =>
  ∃ (g : JFrame) (mk : MethodId) (t : State) (L : List Loc) (E : String) (ce : Cell), B.U.heap = t.heap ∧ B.U.vm = t.vm ∧ XC E (A.U.calling g mk a) t ∧ t.heap[q]? = some ce ∧ ce.vm = .none ∧ A.U.vm.findClass E = some ce.cls ∧ B.locs = A.locs ++ L ∧ (∀ z ∈ L, free z.base) ∧ B.cells = A.cells + mc ∧ B.slots = A.slots + ms
def vx_Back (l : Launch) (R : Room) (p : Program) (e : Env) (below : List Frame) (s : State) (sargs : Array Value) (y : MethodName) (len W9 : Nat)
    (Pre : Pt → Array Value → Prop) (Post : Pt → Array Value → Option Value → Pt → Prop) (PostX : Pt → Array Value → Addr → Pt → Prop) : Prop :=
  ∀ (m : MethodId) (meth : Method) (c : Code) (A : Pt) (g : JFrame) (ig : Instr) (mk : MethodId) (a : Array Value),
    Stand p l e R s m sargs below meth c A.U A.locs A.cells A.slots → g.method = m → g.locals.size = c.maxLocals → decode c.code g.pc = .ok (ig, len) →
    2 * g.monitorRoom + (g.stack.map fun v => v.category).sum ≤ W9 → A.U.methodNamed? y = some mk → Pre A a →
    (∃ (v : Option Value) (B : Pt), Stand p l e R s m sargs below meth c B.U B.locs B.cells B.slots ∧ Post A a v B ∧
      Steps p.tables e below (doInvoke e (A.U.setTop g) [] mk a).1 (B.U.setTop { g with pc := g.pc + len, stack := v.toList ++ g.stack })) ∨
    (∃ (q : Addr) (B : Pt), Stand p l e R s m sargs below meth c B.U B.locs B.cells B.slots ∧ PostX A a q B ∧
      Steps p.tables e below (doInvoke e (A.U.setTop g) [] mk a).1 ((B.U.setTop g).pushFrame (.throwing q)))
section Payer
variable {l : Launch} {R : Room} {p : Program} {e : Env} {below : List Frame} {s : State} {sargs : Array Value} {y : MethodName} {len W9 : Nat}
theorem vx_back {ws : List Cond} {rm : Room} {Pc : Array Value → State → Prop} {Qc : Array Value → State → Outcome → State → Prop} {XC : String → State → State → Prop} {mc ms : Nat} {free : Addr → Prop} {bytes : ByteArray} {maxL : Nat} {ret : Option FieldType}
    (hM : vx_Met l y ws rm Pc Qc XC mc ms free) (hblind : FrameBlind Pc) (hrc : rm.cells = mc) (hrs : rm.slots = ms)
    (hframes : rm.frames + 1 ≤ R.frames) (hlocals : W9 + (maxL + 11) + rm.locals ≤ R.locals)
    (hws : ∀ w ∈ ws, ∀ a' U, s.WarmedH U.vm → w.before a' U = true) (hcode : Cond.code y bytes maxL ret ∈ ws) (hinit : ∀ a' U, s.WarmedH U.vm → (Cond.initialized y.cls).before a' U = true) :
    vx_Back l R p e below s sargs y len W9 (PreOf R mc ms Pc) (PostOf Qc mc ms free) (vx_Post XC mc ms free) := by
  intro m meth c A g ig mk a X hg hsize hdg hW hn hp
  have h1 : (headSpec ws rm).pre.before a A.U = true := atoms_intro fun w hw => hws w hw _ _ X.warmed
  have h2 : (Cond.code y bytes maxL ret).before a A.U = true := hws _ hcode _ _ X.warmed
  have h3 : (Cond.initialized y.cls).before a A.U = true := hinit _ _ X.warmed
  have h4 : A.cells + (headSpec ws rm).room.cells ≤ R.cells := by rw [show (headSpec ws rm).room.cells = mc from hrc]; exact hp.1
  have h5 : A.slots + (headSpec ws rm).room.slots ≤ R.slots := by rw [show (headSpec ws rm).room.slots = ms from hrs]; exact hp.2.1
  have hPc : Pc a (A.U.calling g mk a) := hblind _ _ _ _ hp.2.2
  obtain ⟨U, Ls, c0, s0⟩ := A
  dsimp only [Pt.U, Pt.locs, Pt.cells, Pt.slots] at h1 h2 h3 h4 h5 X hn hPc ⊢
  obtain ⟨methY, cY, hmY, hcY, -, hlY, -, -, -, -⟩ := Cond.code_spec hn h2
  obtain ⟨kY, hkY, -⟩ := className_of_methodNamed hn
  have hinitY : kY.init = .initialized := Cond.initialized_spec (findClass_of_methodNamed hn) hkY h3
  have h : At U g.method c below := by rw [hg]; exact X.here
  have hlocals9 : W9 + (maxL + 11) + (headSpec ws rm).room.locals ≤ R.locals := hlocals
  have happ : (headSpec ws rm).appliesLoose y e.platform (U.calling g mk a) = true :=
    Spec.appliesLoose_calling (g := g) h hdg hn hkY hinitY
      (X.room_calling (g := g) (R' := (headSpec ws rm).room) hsize hmY hcY hframes (by rw [hlY]; omega) h4 h5) h1
  obtain ⟨mid, hmid⟩ := h.above
  have hfr : (U.setTop g).frames = (.java g :: mid) ++ below := by rw [State.frames_setTop' g h.top, hmid]; rfl
  obtain ⟨o, s₂, hsteps, -, hend, hq⟩ := Steps.callFree hM p X.admits X.cas X.clock (acts := []) hfr happ hPc trivial
  have hq' : vx_Q Qc XC mc ms free a (U.calling g mk a) o s₂ := hq
  rw [State.frames_setTop' g h.top] at hend
  obtain ⟨g₀, hg0⟩ := Option.isSome_iff_exists.mp h.top
  obtain ⟨r, hr⟩ := State.topJava?_eq_some.mp hg0
  have hr' : (({ U with heap := s₂.heap, slotsUsed := s₂.slotsUsed } : State).setVm s₂.vm).frames = .java g₀ :: r := hr
  rcases hq' with ⟨hqc, L, hfe, hL⟩ | ⟨q, rfl, E, ce, L, hx, hce, hcv, hcl, hW₂, hsm, hL⟩
  · obtain ⟨⟨v, rfl⟩, hW₂, e2, q2, q3, q4, q5, q6⟩ := id hfe
    have e3 : s₂ = ({ (U.calling g mk a).setFrames s₂.frames with heap := s₂.heap, slotsUsed := s₂.slotsUsed } : State).setVm s₂.vm := by
      have : s₂ = ({ s₂ with vm := (U.calling g mk a).vm } : State).setVm s₂.vm := rfl
      rw [e2] at this
      exact this
    obtain ⟨c₂, i₂, len₂, hc₂, hd₂, hf₂⟩ := hend
    have hW' : U.WarmedH s₂.vm := hW₂
    have hcc : c₂ = c := by
      have h1 : s₂.code? g.method = U.code? g.method := by
        rw [State.code?_eq, State.code?_eq, hW'.alike.method?]
      exact Option.some.inj (hc₂.symm.trans (h1.trans h.code))
    subst hcc
    have hlen : len₂ = len := by rw [hdg] at hd₂; cases hd₂; rfl
    subst hlen
    have hs₂ : s₂ = (({ U with heap := s₂.heap, slotsUsed := s₂.slotsUsed } : State).setVm s₂.vm).setTop { g with pc := g.pc + len₂, stack := v.toList ++ g.stack } := by
      refine e3.trans ?_
      rw [hf₂, State.calling_eq h.top, State.setFrames_setFrames, State.setTop_of_frames _ hr', hr]
      rfl
    have hsame : U.sameButNew ({ U with heap := s₂.heap, slotsUsed := s₂.slotsUsed } : State) L mc ms := by
      refine ⟨?_, q2, q3, q4, q5, q6⟩
      obtain ⟨t, ht, -⟩ := State.frames_cons hr
      show ({ U with heap := s₂.heap, slotsUsed := s₂.slotsUsed } : State) = { U.setFrames U.frames with heap := s₂.heap, slotsUsed := s₂.slotsUsed }
      rw [State.setFrames_self ht]
    subst hg
    refine Or.inl ⟨v, ⟨(({ U with heap := s₂.heap, slotsUsed := s₂.slotsUsed } : State).setVm s₂.vm), Ls ++ L, c0 + mc, s0 + ms⟩,
      ⟨X.admits, X.cas, X.clock, X.frames, X.room, X.hears, X.method, X.code, (X.here.setHeapUsed s₂.heap s₂.slotsUsed).setVm hW'.alike, X.tail, State.WarmedH.trans X.warmed hW', X.limits, X.bytes, X.same.trans (hsame.setVm s.vm)⟩,
      ⟨g, mk, s₂, L, rfl, rfl, hqc, rfl, hL, rfl, rfl⟩, ?_⟩
    show Steps p.tables e below _ ((({ U with heap := s₂.heap, slotsUsed := s₂.slotsUsed } : State).setVm s₂.vm).setTop { g with pc := g.pc + len₂, stack := v.toList ++ g.stack })
    rw [← hs₂]
    exact hsteps
  · obtain ⟨e2, q2, q3, q4, q5, q6⟩ := id hsm
    have e3 : s₂ = ({ (U.calling g mk a).setFrames s₂.frames with heap := s₂.heap, slotsUsed := s₂.slotsUsed } : State).setVm s₂.vm := by
      have : s₂ = ({ s₂ with vm := (U.calling g mk a).vm } : State).setVm s₂.vm := rfl
      rw [e2] at this
      exact this
    have hf₂ : s₂.frames = .throwing q :: .java g :: U.frames.tail := hend
    have hW' : U.WarmedH s₂.vm := hW₂
    have hs₂ : s₂ = ((({ U with heap := s₂.heap, slotsUsed := s₂.slotsUsed } : State).setVm s₂.vm).setTop g).pushFrame (.throwing q) := by
      refine e3.trans ?_
      rw [hf₂, State.calling_eq h.top, State.setFrames_setFrames, State.pushFrame, State.frames_setTop _ hr', State.setTop_of_frames _ hr', State.setFrames_setFrames, hr]
      rfl
    have hsame : U.sameButNew ({ U with heap := s₂.heap, slotsUsed := s₂.slotsUsed } : State) L mc ms := by
      refine ⟨?_, q2, q3, q4, q5, q6⟩
      obtain ⟨t, ht, -⟩ := State.frames_cons hr
      show ({ U with heap := s₂.heap, slotsUsed := s₂.slotsUsed } : State) = { U.setFrames U.frames with heap := s₂.heap, slotsUsed := s₂.slotsUsed }
      rw [State.setFrames_self ht]
    subst hg
    refine Or.inr ⟨q, ⟨(({ U with heap := s₂.heap, slotsUsed := s₂.slotsUsed } : State).setVm s₂.vm), Ls ++ L, c0 + mc, s0 + ms⟩,
      ⟨X.admits, X.cas, X.clock, X.frames, X.room, X.hears, X.method, X.code, (X.here.setHeapUsed s₂.heap s₂.slotsUsed).setVm hW'.alike, X.tail, State.WarmedH.trans X.warmed hW', X.limits, X.bytes, X.same.trans (hsame.setVm s.vm)⟩,
      ⟨g, mk, s₂, L, E, ce, rfl, rfl, hx, hce, hcv, hcl, rfl, hL, rfl, rfl⟩, ?_⟩
    show Steps p.tables e below _ (((({ U with heap := s₂.heap, slotsUsed := s₂.slotsUsed } : State).setVm s₂.vm).setTop g).pushFrame (.throwing q))
    rw [← hs₂]
    exact hsteps
end Payer
section Calls
variable {p : Program} {l : Launch} {e : Env} {R : Room} {s : State} {m : MethodId} {args : Array Value} {below : List Frame} {meth : Method} {c : Code} {T : State} {locs : List Loc} {cells slots : Nat}
theorem vx_callV (X : Stand p l e R s m args below meth c T locs cells slots) (hexec : p.tables.exec = Jvm.exec) {own C : String} {index : Nat} {y : MethodName} {bytes : ByteArray} {maxL : Nat} {ret : Option FieldType}
    (hown : s.vm.findClass own = some m.cls) (hlink : (Cond.methodLink own index y).before args s = true) (hinst : (Cond.instanceMethod y).before args s = true) (hsel : (Cond.selects C y y).before args s = true)
    (hcode : (Cond.code y bytes maxL ret).before args s = true) (hy : y.cls ≠ "java/lang/invoke/MethodHandle" ∧ y.cls ≠ "java/lang/invoke/VarHandle")
    {W9 : Nat} {Pre : Pt → Array Value → Prop} {Post : Pt → Array Value → Option Value → Pt → Prop} {PostX : Pt → Array Value → Addr → Pt → Prop} (hK : vx_Back l R p e below s args y 3 W9 Pre Post PostX)
    {b : Addr} {cellB : Cell} (hcell : T.heap[b]? = some cellB) (hobj : cellB.vm.isStatics = false) (hcls : s.vm.findClass C = some cellB.cls)
    {g : JFrame} (hg : g.method = m) (hsize : g.locals.size = c.maxLocals) {argsL rest : List Value} (hlen : ∀ sig, parseMethodDescriptor y.desc = some sig → argsL.length = sig.parameters.length)
    (hstack : g.stack = argsL.reverse ++ .ref b :: rest) (hW : 2 * g.monitorRoom + (rest.map fun v => v.category).sum ≤ W9) (hdg : decode c.code g.pc = .ok (.invokevirtual index, 3))
    (hpre : ∀ vm₁, s.WarmedH vm₁ → Pre ⟨T.setVm vm₁, locs, cells, slots⟩ (Value.ref b :: argsL).toArray) :
    (∃ (v : Option Value) (vm₁ : Vm) (B : Pt), s.WarmedH vm₁ ∧ Stand p l e R s m args below meth c B.U B.locs B.cells B.slots ∧ Post ⟨T.setVm vm₁, locs, cells, slots⟩ (Value.ref b :: argsL).toArray v B ∧
      ∀ target, Steps p.tables e below (B.U.setTop { g with pc := g.pc + 3, stack := v.toList ++ rest }) target → Steps p.tables e below (T.setTop g) target) ∨
    (∃ (q : Addr) (vm₁ : Vm) (B : Pt), s.WarmedH vm₁ ∧ Stand p l e R s m args below meth c B.U B.locs B.cells B.slots ∧ PostX ⟨T.setVm vm₁, locs, cells, slots⟩ (Value.ref b :: argsL).toArray q B ∧
      Steps p.tables e below (T.setTop g) ((B.U.setTop { g with stack := rest }).pushFrame (.throwing q))) := by
  obtain ⟨mk, methM, hnamed, hmethM, hstM, habM⟩ := Cond.instanceMethod_spec hinst
  obtain ⟨methM', cM, hmethM', -, -, -, -, -, -, hsigM⟩ := Cond.code_spec hnamed hcode
  cases hmethM.symm.trans hmethM'
  obtain ⟨c2, r2, m2, q1, q2, q3, q4, kP, hkP, hkPi⟩ := Cond.selects_spec hsel
  cases hcls.symm.trans q1
  cases (State.methodFound?_of_named hnamed hy).symm.trans q2
  cases hnamed.symm.trans q3
  have hselP : selectMethod e.platform s.vm cellB.cls mk = .method mk := by rw [Launch.admits_selectMethod X.admits]; exact q4
  obtain ⟨vm₁, X₁, hstep₁⟩ := X.invokevirtual hexec hown hlink hnamed hmethM hstM hkP hkPi hy (a := b) (cell := cellB) hcell
    (fun z h => by rw [h] at hobj; cases hobj) hselP hmethM habM hkP hkPi (g := g) hg (argsL := argsL) (rest := rest) (hlen _ hsigM) hstack hdg
  rcases hK m meth c ⟨T.setVm vm₁, locs, cells, slots⟩ { g with stack := rest } (.invokevirtual index) mk (Value.ref b :: argsL).toArray X₁ hg hsize hdg hW (X₁.named hnamed) (hpre vm₁ X₁.warmed) with ⟨v, B, X', hpost, hsteps⟩ | ⟨q, B, X', hpost, hsteps⟩
  · exact Or.inl ⟨v, vm₁, B, X₁.warmed, X', hpost, fun target h => hstep₁ _ fun acts => by rw [doInvoke_state]; exact hsteps.trans h⟩
  · exact Or.inr ⟨q, vm₁, B, X₁.warmed, X', hpost, hstep₁ _ fun acts => by rw [doInvoke_state]; exact hsteps⟩
theorem vx_callS (X : Stand p l e R s m args below meth c T locs cells slots) (hexec : p.tables.exec = Jvm.exec) {own : String} {index : Nat} {y : MethodName} {bytes : ByteArray} {maxL : Nat} {ret : Option FieldType}
    (hown : s.vm.findClass own = some m.cls) (hlink : (Cond.methodLink own index y).before args s = true) (hstat : (Cond.static y).before args s = true) (hinit : (Cond.initialized y.cls).before args s = true)
    (hcode : (Cond.code y bytes maxL ret).before args s = true) (hy : y.cls ≠ "java/lang/invoke/MethodHandle" ∧ y.cls ≠ "java/lang/invoke/VarHandle")
    {W9 : Nat} {Pre : Pt → Array Value → Prop} {Post : Pt → Array Value → Option Value → Pt → Prop} {PostX : Pt → Array Value → Addr → Pt → Prop} (hK : vx_Back l R p e below s args y 3 W9 Pre Post PostX)
    {g : JFrame} (hg : g.method = m) (hsize : g.locals.size = c.maxLocals) {argsL rest : List Value} (hlen : ∀ sig, parseMethodDescriptor y.desc = some sig → argsL.length = sig.parameters.length)
    (hstack : g.stack = argsL.reverse ++ rest) (hW : 2 * g.monitorRoom + (rest.map fun v => v.category).sum ≤ W9) (hdg : decode c.code g.pc = .ok (.invokestatic index, 3))
    (hpre : ∀ vm₁, s.WarmedH vm₁ → Pre ⟨T.setVm vm₁, locs, cells, slots⟩ argsL.toArray) :
    (∃ (v : Option Value) (vm₁ : Vm) (B : Pt), s.WarmedH vm₁ ∧ Stand p l e R s m args below meth c B.U B.locs B.cells B.slots ∧ Post ⟨T.setVm vm₁, locs, cells, slots⟩ argsL.toArray v B ∧
      ∀ target, Steps p.tables e below (B.U.setTop { g with pc := g.pc + 3, stack := v.toList ++ rest }) target → Steps p.tables e below (T.setTop g) target) ∨
    (∃ (q : Addr) (vm₁ : Vm) (B : Pt), s.WarmedH vm₁ ∧ Stand p l e R s m args below meth c B.U B.locs B.cells B.slots ∧ PostX ⟨T.setVm vm₁, locs, cells, slots⟩ argsL.toArray q B ∧
      Steps p.tables e below (T.setTop g) ((B.U.setTop { g with stack := rest }).pushFrame (.throwing q))) := by
  obtain ⟨mk, hnamed⟩ := Cond.code_named hcode
  obtain ⟨methM, cM, hmethM, -, -, -, -, -, -, hsigM⟩ := Cond.code_spec hnamed hcode
  have hstatic : methM.isStatic = true := Cond.static_spec hnamed hmethM hstat
  obtain ⟨kP, hkP, -⟩ := className_of_methodNamed hnamed
  have hinitP : kP.init = .initialized := Cond.initialized_spec (findClass_of_methodNamed hnamed) hkP hinit
  obtain ⟨vm₁, X₁, hstep₁⟩ := X.invokestatic hexec hown hlink hnamed hmethM hstatic hkP hinitP hy (g := g) hg (argsL := argsL) (rest := rest) (hlen _ hsigM) hstack hdg
  rcases hK m meth c ⟨T.setVm vm₁, locs, cells, slots⟩ { g with stack := rest } (.invokestatic index) mk argsL.toArray X₁ hg hsize hdg hW (X₁.named hnamed) (hpre vm₁ X₁.warmed) with ⟨v, B, X', hpost, hsteps⟩ | ⟨q, B, X', hpost, hsteps⟩
  · exact Or.inl ⟨v, vm₁, B, X₁.warmed, X', hpost, fun target h => hstep₁ _ fun acts => by rw [doInvoke_state]; exact hsteps.trans h⟩
  · exact Or.inr ⟨q, vm₁, B, X₁.warmed, X', hpost, hstep₁ _ fun acts => by rw [doInvoke_state]; exact hsteps⟩
end Calls
theorem vx_cls {s : State} {T : State} {vm₁ : Vm} {E : String} {k : ClassId} (hW : s.WarmedH vm₁) (h : (T.setVm vm₁).vm.findClass E = some k) : s.vm.findClass E = some k := by
  have h1 : vm₁.findClass E = some k := h
  rw [hW.alike.findClass] at h1
  exact h1
/-- the method's frame g, with q thrown over it -/
def vx_W (p : Program) (l : Launch) (e : Env) (R : Room) (s : State) (m : MethodId) (args : Array Value) (below : List Frame) (meth : Method) (c : Code) (H : Heap) (locs : List Loc) (cells slots : Nat) (Q : State → Prop) (g : JFrame) (q : Addr) : Prop :=
  ∀ T : State, T.heap = H → Stand p l e R s m args below meth c T locs cells slots → ∃ t, Steps p.tables e below ((T.setTop g).pushFrame (.throwing q)) t ∧ Q t
def vx_Run (p : Program) (l : Launch) (e : Env) (R : Room) (s : State) (m : MethodId) (args : Array Value) (below : List Frame) (meth : Method) (c : Code) (H : Heap) (locs : List Loc) (cells slots mc ms : Nat) (g : JFrame) (rest : List Value) (Qa : State → Outcome → State → Prop) (XC : String → State → State → Prop) (free : Addr → Prop) : Prop :=
  ∀ T : State, T.heap = H → Stand p l e R s m args below meth c T locs cells slots →
    (∃ (v : Option Value) (st₀ t T' : State) (L : List Loc), st₀.heap = H ∧ Stand p l e R s m args below meth c T' (locs ++ L) (cells + mc) (slots + ms) ∧ (∀ q ∈ L, free q.base) ∧ T'.heap = t.heap ∧ T'.vm = t.vm ∧ Qa st₀ (.returned v) t ∧
      Goes p e below T g T' { g with pc := g.pc + 3, stack := v.toList ++ rest }) ∨
    (∃ (q : Addr) (st₀ t T' : State) (L : List Loc) (E : String) (ce : Cell), st₀.heap = H ∧ Stand p l e R s m args below meth c T' (locs ++ L) (cells + mc) (slots + ms) ∧ (∀ z ∈ L, free z.base) ∧ T'.heap = t.heap ∧ T'.vm = t.vm ∧ XC E st₀ t ∧ t.heap[q]? = some ce ∧ ce.vm = .none ∧ s.vm.findClass E = some ce.cls ∧
      Steps p.tables e below (T.setTop g) ((T'.setTop { g with stack := rest }).pushFrame (.throwing q)))
def vx_X {S : Type} (px : S → Prop) (B : String → S → State → Prop) (A : Nat → Prop) : String → State → State → Prop := fun E st t => ∃ u : S, px u ∧ B E u t ∧ va_F A st t
section Runs
variable {p : Program} {l : Launch} {e : Env} {R : Room} {s : State} {m : MethodId} {args : Array Value} {below : List Frame} {meth : Method} {c : Code} {H : Heap} {locs : List Loc} {cells slots : Nat}
variable {y : MethodName} {bytes cc : ByteArray} {maxL nL mc ms n index : Nat} {ret : Option FieldType} {ws : List Cond} {rm : Room} {Pc : Array Value → State → Prop} {Qc : Array Value → State → Outcome → State → Prop} {XC : String → State → State → Prop} {free : Addr → Prop} {Ts : List Cond} {own C : String} {b : Addr} {As rest : List Value} {g : JFrame}
theorem vx_callBack (cb : CallB R s args own index y bytes maxL ret ws rm mc ms n) (hM : vx_Met l y ws rm Pc Qc XC mc ms free) (hbl : FrameBlind Pc) : vx_Back l R p e below s args y 3 8 (PreOf R mc ms Pc) (PostOf Qc mc ms free) (vx_Post XC mc ms free) := by
  obtain ⟨hrc, hrs, hfr, hlo, hws, hcw, -, hini, -⟩ := cb
  exact vx_back (bytes := bytes) (maxL := maxL) (ret := ret) hM hbl hrc hrs hfr hlo hws hcw (fun a' U hW => word_at hW (Or.inl (by first | rfl | simp [Cond.onTables, Cond.keeps, Cond.steady])) hini)
theorem vx_runV (S : CallFix p m c cc nL s args Ts own) (hM : vx_Met l y ws rm Pc Qc XC mc ms free) (cw : CallW R s args own C index y bytes maxL ret ws rm mc ms n) (hp : PreV s H C b Pc As)
    (hg : g.method = m) (hn : As.length = n) (hsize : g.locals.size = nL) (hstack : g.stack = As.reverse ++ .ref b :: rest) (hW : 2 * g.monitorRoom + (rest.map fun v => v.category).sum ≤ 8) (hdg : decode cc g.pc = .ok (.invokevirtual index, 3)) (hf : cells + mc ≤ R.cells ∧ slots + ms ≤ R.slots) :
    vx_Run p l e R s m args below meth c H locs cells slots mc ms g rest (Qc (Value.ref b :: As).toArray) XC free := by
  have hK : vx_Back l R p e below s args y 3 8 (PreOf R mc ms Pc) (PostOf Qc mc ms free) (vx_Post XC mc ms free) := vx_callBack cw.1 hM hp.1
  obtain ⟨⟨-, -, -, -, -, -, hcode, -, hy, hlen, hl⟩, hin, hse⟩ := cw
  obtain ⟨hx, hb, hml, ho, -⟩ := S
  obtain ⟨-, ⟨cellB, hcB, hoB, hclB⟩, hPc⟩ := hp
  intro T hT X
  rcases vx_callV X hx (C := C) (bytes := bytes) (maxL := maxL) (ret := ret) ho hl hin hse hcode hy hK (by rw [hT]; exact hcB) hoB hclB hg (hsize.trans hml.symm) (argsL := As) (rest := rest) (fun sig h => hn.trans (hlen sig h)) hstack hW (by rw [hb]; exact hdg)
    (fun vm₁ hW₁ => ⟨hf.1, hf.2, hPc (T.setVm vm₁) hT hW₁⟩) with ⟨v, vm₁, ⟨U', l2, c2, s2⟩, hW₁, X', ⟨g', mk, t, L, e1, e2, hq, h1, hL, h2, h3⟩, st⟩ | ⟨q, vm₁, ⟨U', l2, c2, s2⟩, hW₁, X', ⟨g', mk, t, L, E, ce, e1, e2, hq, hce, hcv, hcl, h1, hL, h2, h3⟩, st⟩
  · dsimp only [Pt.U, Pt.locs, Pt.cells, Pt.slots] at X' e1 e2 h1 h2 h3 st
    subst h1; subst h2; subst h3
    exact Or.inl ⟨v, (T.setVm vm₁).calling g' mk (Value.ref b :: As).toArray, t, U', L, hT, X', hL, e1, e2, hq, st⟩
  · dsimp only [Pt.U, Pt.locs, Pt.cells, Pt.slots] at X' e1 e2 h1 h2 h3 st hcl
    subst h1; subst h2; subst h3
    exact Or.inr ⟨q, (T.setVm vm₁).calling g' mk (Value.ref b :: As).toArray, t, U', L, E, ce, hT, X', hL, e1, e2, hq, hce, hcv, vx_cls hW₁ hcl, st⟩
theorem vx_runS (S : CallFix p m c cc nL s args Ts own) (hM : vx_Met l y ws rm Pc Qc XC mc ms free) (cw : CallB R s args own index y bytes maxL ret ws rm mc ms n ∧ (Cond.static y).before args s = true) (hp : PreS s H Pc As)
    (hg : g.method = m) (hn : As.length = n) (hsize : g.locals.size = nL) (hstack : g.stack = As.reverse ++ rest) (hW : 2 * g.monitorRoom + (rest.map fun v => v.category).sum ≤ 8) (hdg : decode cc g.pc = .ok (.invokestatic index, 3)) (hf : cells + mc ≤ R.cells ∧ slots + ms ≤ R.slots) :
    vx_Run p l e R s m args below meth c H locs cells slots mc ms g rest (Qc As.toArray) XC free := by
  have hK : vx_Back l R p e below s args y 3 8 (PreOf R mc ms Pc) (PostOf Qc mc ms free) (vx_Post XC mc ms free) := vx_callBack cw.1 hM hp.1
  obtain ⟨⟨-, -, -, -, -, -, hcode, hini, hy, hlen, hl⟩, hstt⟩ := cw
  obtain ⟨hx, hb, hml, ho, -⟩ := S
  intro T hT X
  rcases vx_callS X hx (bytes := bytes) (maxL := maxL) (ret := ret) ho hl hstt hini hcode hy hK hg (hsize.trans hml.symm) (argsL := As) (rest := rest) (fun sig h => hn.trans (hlen sig h)) hstack hW (by rw [hb]; exact hdg)
    (fun vm₁ hW₁ => ⟨hf.1, hf.2, hp.2 (T.setVm vm₁) hT hW₁⟩) with ⟨v, vm₁, ⟨U', l2, c2, s2⟩, hW₁, X', ⟨g', mk, t, L, e1, e2, hq, h1, hL, h2, h3⟩, st⟩ | ⟨q, vm₁, ⟨U', l2, c2, s2⟩, hW₁, X', ⟨g', mk, t, L, E, ce, e1, e2, hq, hce, hcv, hcl, h1, hL, h2, h3⟩, st⟩
  · dsimp only [Pt.U, Pt.locs, Pt.cells, Pt.slots] at X' e1 e2 h1 h2 h3 st
    subst h1; subst h2; subst h3
    exact Or.inl ⟨v, (T.setVm vm₁).calling g' mk As.toArray, t, U', L, hT, X', hL, e1, e2, hq, st⟩
  · dsimp only [Pt.U, Pt.locs, Pt.cells, Pt.slots] at X' e1 e2 h1 h2 h3 st hcl
    subst h1; subst h2; subst h3
    exact Or.inr ⟨q, (T.setVm vm₁).calling g' mk As.toArray, t, U', L, E, ce, hT, X', hL, e1, e2, hq, hce, hcv, vx_cls hW₁ hcl, st⟩
end Runs
section Rows
variable {p : Program} {l : Launch} {e : Env} {R : Room} {s : State} {m : MethodId} {args : Array Value} {below : List Frame} {meth : Method} {c : Code} {H : Heap} {locs : List Loc} {cells slots : Nat} {Q : State → Prop}
variable {mc ms : Nat} {free : Addr → Prop} {A0 A1 : Nat → Prop} {H0 : Heap} {a : Array Value} {pc : Nat} {ls : Array Slot} {st0 rest : List Value}
theorem vx_keep {st₀ t T' : State} {L : List Loc} (h0 : st₀.heap = H) (e1 : T'.heap = t.heap) (hS : va_S A0 H0 H locs) (hA : ∀ q, q < H.size → A1 q → A0 q) (hf : ∀ q, free q → A0 q) (hL : ∀ q ∈ L, free q.base) (hF : va_F A1 st₀ t) :
    H.size ≤ T'.heap.size ∧ (∀ q : Nat, q < H.size → ¬ A1 q → T'.heap[q]? = H[q]?) ∧ va_S A0 H0 T'.heap (locs ++ L) := by
  obtain ⟨hz, hk⟩ := hF
  rw [h0] at hz hk
  exact ⟨by rw [e1]; exact hz, fun q h1 h2 => by rw [e1]; exact hk q h1 h2,
    ⟨Nat.le_trans hS.1 (by rw [e1]; exact hz), fun q h1 h2 => by rw [e1, hk q (Nat.lt_of_lt_of_le h1 hS.1) (fun z => h2 (hA q (Nat.lt_of_lt_of_le h1 hS.1) z))]; exact hS.2.1 q h1 h2, fun q hq => by
      rcases List.mem_append.mp hq with h | h
      · exact hS.2.2 q h
      · exact hf _ (hL q h)⟩⟩
theorem vx_calli {S SX : Type} {post : Int32 → S → Prop} {px : SX → Prop} {B : S → State → Prop} {BX : String → SX → State → Prop} {AX : Nat → Prop} (hr : vx_Run p l e R s m args below meth c H locs cells slots mc ms (F0 m pc ls st0) rest (va_Qi post B A1 a) (vx_X px BX AX) free) (hS : va_S A0 H0 H locs) (hA : ∀ q, q < H.size → A1 q → A0 q) (hf : ∀ q, free q → A0 q) (hAX : ∀ q, q < H.size → AX q → A0 q)
    (kx : ∀ (E : String) (ce : Cell) (q9 : Addr) (u : SX) (t : State) (H1 : Heap) (locs1 : List Loc), t.heap = H1 → s.vm.Alike t.vm → px u → BX E u t → H.size ≤ H1.size → (∀ q : Nat, q < H.size → ¬ AX q → H1[q]? = H[q]?) → va_S A0 H0 H1 locs1 → H1[q9]? = some ce → ce.vm = .none → s.vm.findClass E = some ce.cls → vx_W p l e R s m args below meth c H1 locs1 (cells + mc) (slots + ms) Q (F0 m pc ls rest) q9)
    (kk : ∀ (r : Int32) (u : S) (t : State) (H1 : Heap) (locs1 : List Loc), t.heap = H1 → s.vm.Alike t.vm → post r u → B u t → H.size ≤ H1.size → (∀ q : Nat, q < H.size → ¬ A1 q → H1[q]? = H[q]?) → va_S A0 H0 H1 locs1 → W p l e R s m args below meth c H1 locs1 (cells + mc) (slots + ms) Q (F0 m (pc + 3) ls (.int r :: rest))) : W p l e R s m args below meth c H locs cells slots Q (F0 m pc ls st0) := by
  intro T hT X
  rcases hr T hT X with ⟨v, st₀, t, T', L, h0, X', hL, e1, e2, ⟨⟨r, u, hv, hp, hb⟩, hF⟩, st⟩ | ⟨q, st₀, t, T', L, E, ce, h0, X', hL, e1, e2, ⟨u, hp, hb, hF⟩, hce, hcv, hcl, st⟩
  · cases hv
    obtain ⟨k1, k2, k3⟩ := vx_keep h0 e1 hS hA hf hL hF
    obtain ⟨t2, a1, b1⟩ := kk r u t T'.heap (locs ++ L) e1.symm (by rw [← e2]; exact X'.warmed.alike) hp hb k1 k2 k3 T' rfl X'
    exact ⟨t2, st t2 a1, b1⟩
  · obtain ⟨k1, k2, k3⟩ := vx_keep h0 e1 hS hAX hf hL hF
    obtain ⟨t2, a1, b1⟩ := kx E ce q u t T'.heap (locs ++ L) e1.symm (by rw [← e2]; exact X'.warmed.alike) hp hb k1 k2 k3 (by rw [e1]; exact hce) hcv hcl T' rfl X'
    exact ⟨t2, st.trans a1, b1⟩
theorem vx_calll {S SX : Type} {post : Int64 → S → Prop} {px : SX → Prop} {B : S → State → Prop} {BX : String → SX → State → Prop} {AX : Nat → Prop} (hr : vx_Run p l e R s m args below meth c H locs cells slots mc ms (F0 m pc ls st0) rest (va_Ql post B A1 a) (vx_X px BX AX) free) (hS : va_S A0 H0 H locs) (hA : ∀ q, q < H.size → A1 q → A0 q) (hf : ∀ q, free q → A0 q) (hAX : ∀ q, q < H.size → AX q → A0 q)
    (kx : ∀ (E : String) (ce : Cell) (q9 : Addr) (u : SX) (t : State) (H1 : Heap) (locs1 : List Loc), t.heap = H1 → s.vm.Alike t.vm → px u → BX E u t → H.size ≤ H1.size → (∀ q : Nat, q < H.size → ¬ AX q → H1[q]? = H[q]?) → va_S A0 H0 H1 locs1 → H1[q9]? = some ce → ce.vm = .none → s.vm.findClass E = some ce.cls → vx_W p l e R s m args below meth c H1 locs1 (cells + mc) (slots + ms) Q (F0 m pc ls rest) q9)
    (kk : ∀ (r : Int64) (u : S) (t : State) (H1 : Heap) (locs1 : List Loc), t.heap = H1 → s.vm.Alike t.vm → post r u → B u t → H.size ≤ H1.size → (∀ q : Nat, q < H.size → ¬ A1 q → H1[q]? = H[q]?) → va_S A0 H0 H1 locs1 → W p l e R s m args below meth c H1 locs1 (cells + mc) (slots + ms) Q (F0 m (pc + 3) ls (.long r :: rest))) : W p l e R s m args below meth c H locs cells slots Q (F0 m pc ls st0) := by
  intro T hT X
  rcases hr T hT X with ⟨v, st₀, t, T', L, h0, X', hL, e1, e2, ⟨⟨r, u, hv, hp, hb⟩, hF⟩, st⟩ | ⟨q, st₀, t, T', L, E, ce, h0, X', hL, e1, e2, ⟨u, hp, hb, hF⟩, hce, hcv, hcl, st⟩
  · cases hv
    obtain ⟨k1, k2, k3⟩ := vx_keep h0 e1 hS hA hf hL hF
    obtain ⟨t2, a1, b1⟩ := kk r u t T'.heap (locs ++ L) e1.symm (by rw [← e2]; exact X'.warmed.alike) hp hb k1 k2 k3 T' rfl X'
    exact ⟨t2, st t2 a1, b1⟩
  · obtain ⟨k1, k2, k3⟩ := vx_keep h0 e1 hS hAX hf hL hF
    obtain ⟨t2, a1, b1⟩ := kx E ce q u t T'.heap (locs ++ L) e1.symm (by rw [← e2]; exact X'.warmed.alike) hp hb k1 k2 k3 (by rw [e1]; exact hce) hcv hcl T' rfl X'
    exact ⟨t2, st.trans a1, b1⟩
theorem vx_callf {S SX : Type} {post : UInt32 → S → Prop} {px : SX → Prop} {B : S → State → Prop} {BX : String → SX → State → Prop} {AX : Nat → Prop} (hr : vx_Run p l e R s m args below meth c H locs cells slots mc ms (F0 m pc ls st0) rest (va_Qf post B A1 a) (vx_X px BX AX) free) (hS : va_S A0 H0 H locs) (hA : ∀ q, q < H.size → A1 q → A0 q) (hf : ∀ q, free q → A0 q) (hAX : ∀ q, q < H.size → AX q → A0 q)
    (kx : ∀ (E : String) (ce : Cell) (q9 : Addr) (u : SX) (t : State) (H1 : Heap) (locs1 : List Loc), t.heap = H1 → s.vm.Alike t.vm → px u → BX E u t → H.size ≤ H1.size → (∀ q : Nat, q < H.size → ¬ AX q → H1[q]? = H[q]?) → va_S A0 H0 H1 locs1 → H1[q9]? = some ce → ce.vm = .none → s.vm.findClass E = some ce.cls → vx_W p l e R s m args below meth c H1 locs1 (cells + mc) (slots + ms) Q (F0 m pc ls rest) q9)
    (kk : ∀ (r : UInt32) (u : S) (t : State) (H1 : Heap) (locs1 : List Loc), t.heap = H1 → s.vm.Alike t.vm → post r u → B u t → H.size ≤ H1.size → (∀ q : Nat, q < H.size → ¬ A1 q → H1[q]? = H[q]?) → va_S A0 H0 H1 locs1 → W p l e R s m args below meth c H1 locs1 (cells + mc) (slots + ms) Q (F0 m (pc + 3) ls (.float r :: rest))) : W p l e R s m args below meth c H locs cells slots Q (F0 m pc ls st0) := by
  intro T hT X
  rcases hr T hT X with ⟨v, st₀, t, T', L, h0, X', hL, e1, e2, ⟨⟨r, u, hv, hp, hb⟩, hF⟩, st⟩ | ⟨q, st₀, t, T', L, E, ce, h0, X', hL, e1, e2, ⟨u, hp, hb, hF⟩, hce, hcv, hcl, st⟩
  · cases hv
    obtain ⟨k1, k2, k3⟩ := vx_keep h0 e1 hS hA hf hL hF
    obtain ⟨t2, a1, b1⟩ := kk r u t T'.heap (locs ++ L) e1.symm (by rw [← e2]; exact X'.warmed.alike) hp hb k1 k2 k3 T' rfl X'
    exact ⟨t2, st t2 a1, b1⟩
  · obtain ⟨k1, k2, k3⟩ := vx_keep h0 e1 hS hAX hf hL hF
    obtain ⟨t2, a1, b1⟩ := kx E ce q u t T'.heap (locs ++ L) e1.symm (by rw [← e2]; exact X'.warmed.alike) hp hb k1 k2 k3 (by rw [e1]; exact hce) hcv hcl T' rfl X'
    exact ⟨t2, st.trans a1, b1⟩
theorem vx_calld {S SX : Type} {post : UInt64 → S → Prop} {px : SX → Prop} {B : S → State → Prop} {BX : String → SX → State → Prop} {AX : Nat → Prop} (hr : vx_Run p l e R s m args below meth c H locs cells slots mc ms (F0 m pc ls st0) rest (va_Qd post B A1 a) (vx_X px BX AX) free) (hS : va_S A0 H0 H locs) (hA : ∀ q, q < H.size → A1 q → A0 q) (hf : ∀ q, free q → A0 q) (hAX : ∀ q, q < H.size → AX q → A0 q)
    (kx : ∀ (E : String) (ce : Cell) (q9 : Addr) (u : SX) (t : State) (H1 : Heap) (locs1 : List Loc), t.heap = H1 → s.vm.Alike t.vm → px u → BX E u t → H.size ≤ H1.size → (∀ q : Nat, q < H.size → ¬ AX q → H1[q]? = H[q]?) → va_S A0 H0 H1 locs1 → H1[q9]? = some ce → ce.vm = .none → s.vm.findClass E = some ce.cls → vx_W p l e R s m args below meth c H1 locs1 (cells + mc) (slots + ms) Q (F0 m pc ls rest) q9)
    (kk : ∀ (r : UInt64) (u : S) (t : State) (H1 : Heap) (locs1 : List Loc), t.heap = H1 → s.vm.Alike t.vm → post r u → B u t → H.size ≤ H1.size → (∀ q : Nat, q < H.size → ¬ A1 q → H1[q]? = H[q]?) → va_S A0 H0 H1 locs1 → W p l e R s m args below meth c H1 locs1 (cells + mc) (slots + ms) Q (F0 m (pc + 3) ls (.double r :: rest))) : W p l e R s m args below meth c H locs cells slots Q (F0 m pc ls st0) := by
  intro T hT X
  rcases hr T hT X with ⟨v, st₀, t, T', L, h0, X', hL, e1, e2, ⟨⟨r, u, hv, hp, hb⟩, hF⟩, st⟩ | ⟨q, st₀, t, T', L, E, ce, h0, X', hL, e1, e2, ⟨u, hp, hb, hF⟩, hce, hcv, hcl, st⟩
  · cases hv
    obtain ⟨k1, k2, k3⟩ := vx_keep h0 e1 hS hA hf hL hF
    obtain ⟨t2, a1, b1⟩ := kk r u t T'.heap (locs ++ L) e1.symm (by rw [← e2]; exact X'.warmed.alike) hp hb k1 k2 k3 T' rfl X'
    exact ⟨t2, st t2 a1, b1⟩
  · obtain ⟨k1, k2, k3⟩ := vx_keep h0 e1 hS hAX hf hL hF
    obtain ⟨t2, a1, b1⟩ := kx E ce q u t T'.heap (locs ++ L) e1.symm (by rw [← e2]; exact X'.warmed.alike) hp hb k1 k2 k3 (by rw [e1]; exact hce) hcv hcl T' rfl X'
    exact ⟨t2, st.trans a1, b1⟩
theorem vx_callv {S SX : Type} {post : S → Prop} {px : SX → Prop} {B : S → State → Prop} {BX : String → SX → State → Prop} {AX : Nat → Prop} (hr : vx_Run p l e R s m args below meth c H locs cells slots mc ms (F0 m pc ls st0) rest (va_Qv post B A1 a) (vx_X px BX AX) free) (hS : va_S A0 H0 H locs) (hA : ∀ q, q < H.size → A1 q → A0 q) (hf : ∀ q, free q → A0 q) (hAX : ∀ q, q < H.size → AX q → A0 q)
    (kx : ∀ (E : String) (ce : Cell) (q9 : Addr) (u : SX) (t : State) (H1 : Heap) (locs1 : List Loc), t.heap = H1 → s.vm.Alike t.vm → px u → BX E u t → H.size ≤ H1.size → (∀ q : Nat, q < H.size → ¬ AX q → H1[q]? = H[q]?) → va_S A0 H0 H1 locs1 → H1[q9]? = some ce → ce.vm = .none → s.vm.findClass E = some ce.cls → vx_W p l e R s m args below meth c H1 locs1 (cells + mc) (slots + ms) Q (F0 m pc ls rest) q9)
    (kk : ∀ (u : S) (t : State) (H1 : Heap) (locs1 : List Loc), t.heap = H1 → s.vm.Alike t.vm → post u → B u t → H.size ≤ H1.size → (∀ q : Nat, q < H.size → ¬ A1 q → H1[q]? = H[q]?) → va_S A0 H0 H1 locs1 → W p l e R s m args below meth c H1 locs1 (cells + mc) (slots + ms) Q (F0 m (pc + 3) ls (rest))) : W p l e R s m args below meth c H locs cells slots Q (F0 m pc ls st0) := by
  intro T hT X
  rcases hr T hT X with ⟨v, st₀, t, T', L, h0, X', hL, e1, e2, ⟨⟨u, hv, hp, hb⟩, hF⟩, st⟩ | ⟨q, st₀, t, T', L, E, ce, h0, X', hL, e1, e2, ⟨u, hp, hb, hF⟩, hce, hcv, hcl, st⟩
  · cases hv
    obtain ⟨k1, k2, k3⟩ := vx_keep h0 e1 hS hA hf hL hF
    obtain ⟨t2, a1, b1⟩ := kk u t T'.heap (locs ++ L) e1.symm (by rw [← e2]; exact X'.warmed.alike) hp hb k1 k2 k3 T' rfl X'
    exact ⟨t2, st t2 a1, b1⟩
  · obtain ⟨k1, k2, k3⟩ := vx_keep h0 e1 hS hAX hf hL hF
    obtain ⟨t2, a1, b1⟩ := kx E ce q u t T'.heap (locs ++ L) e1.symm (by rw [← e2]; exact X'.warmed.alike) hp hb k1 k2 k3 (by rw [e1]; exact hce) hcv hcl T' rfl X'
    exact ⟨t2, st.trans a1, b1⟩
/-- caught by the row x of this method's table; the rows ahead don't take it -/
theorem vx_catch {own name : String} {E : String} {ce : Cell} {q : Addr} (hown : s.vm.findClass own = some m.cls) (pre : List ExceptionTableEntry) (x : ExceptionTableEntry) (suf : List ExceptionTableEntry) (hsplit : c.exceptionTable.toList = pre ++ x :: suf)
    (hpass : ∀ z ∈ pre, covers z pc = false ∨ (z.catchType ≠ 0 ∧ ∃ nm : String, (Cond.classLink own z.catchType nm).before args s = true ∧ va_Nc E nm s)) (hx : covers x pc = true) (h0 : x.catchType ≠ 0)
    (hlink : (Cond.classLink own x.catchType name).before args s = true) (hcast : (Cond.castable E name).before args s = true) (hcell : H[q]? = some ce) (hv : ce.vm = .none) (hcl : s.vm.findClass E = some ce.cls)
    (kk : W p l e R s m args below meth c H locs cells slots Q (F0 m x.handlerPc ls [.ref q])) : vx_W p l e R s m args below meth c H locs cells slots Q (F0 m pc ls rest) q := by
  intro T hT X
  have hpl : e.platform.magicAccessors = ({} : Platform).magicAccessors := by rw [X.admits.platform]
  obtain ⟨c3, c4, hc3, hc4, hasg⟩ := Cond.castable_spec hcast
  cases Option.some.inj (hc3.symm.trans hcl)
  obtain ⟨c5, hc5, hcl5⟩ := Cond.classLink_spec hown hlink e.platform hpl
  cases Option.some.inj (hc4.symm.trans hc5)
  obtain ⟨vm', X', st⟩ := X.thenCaughtThrough q (g := F0 m pc ls rest) rfl (Steps.refl _) (by rw [hT]; exact hcell) (by rw [hv]; rfl) (by obtain ⟨k9, h9, -⟩ := Vm.findClass_spec hcl; exact ⟨k9, h9⟩) pre x suf hsplit
    (fun z hz => by
      rcases hpass z hz with h | ⟨hz0, nm, hl1, hn1⟩
      · exact Or.inl h
      · obtain ⟨c6, hc6, hcl6⟩ := Cond.classLink_spec hown hl1 e.platform hpl
        obtain ⟨a8, b8, h1, h2, h3⟩ := hn1
        cases Option.some.inj (h1.symm.trans hcl)
        cases Option.some.inj (h2.symm.trans hc6)
        exact Or.inr ⟨hz0, _, hcl6, h3⟩) hx (Or.inr ⟨h0, c4, hcl5, hasg⟩)
  obtain ⟨t, a1, b1⟩ := kk (T.setVm vm') hT X'
  exact ⟨t, st.trans a1, b1⟩
end Rows
section Ends
variable {p : Program} {l : Launch} {e : Env} {R : Room} {s : State} {m : MethodId} {args : Array Value} {below : List Frame} {meth : Method} {c : Code} {H : Heap} {locs : List Loc} {cells slots : Nat} {Q : State → Prop}
variable {mc ms : Nat} {free : Addr → Prop} {A0 A1 : Nat → Prop} {H0 : Heap} {a : Array Value} {ls : Array Slot} {st0 rest : List Value}
variable {Qc : Array Value → State → Outcome → State → Prop} {XC : String → State → State → Prop}
/-- what a body that may throw owes at its end -/
def vx_MQ (below : List Frame) (Qc : Array Value → State → Outcome → State → Prop) (XC : String → State → State → Prop) (a : Array Value) (s : State) (mc ms : Nat) (free : Addr → Prop) : State → Prop := fun t =>
  ∃ o, t.status = .running ∧ Ended t below o ∧ vx_Q Qc XC mc ms free a s o t
theorem vx_ret {g : JFrame} {mc ms : Nat} (k : W p l e R s m args below meth c H locs cells slots (MQ below Qc args s mc ms free) g) : W p l e R s m args below meth c H locs cells slots (vx_MQ below Qc XC args s mc ms free) g := by
  intro T hT X
  obtain ⟨t, a1, o, b1, b2, b3, b4⟩ := k T hT X
  exact ⟨t, a1, o, b1, b2, Or.inl ⟨b3, b4⟩⟩
/-- not caught here: it goes on to the caller -/
theorem vx_widen {g : JFrame} {q : Addr} {k n : Nat} (h1 : cells ≤ k) (h2 : slots ≤ n) (kk : vx_W p l e R s m args below meth c H locs k n Q g q) : vx_W p l e R s m args below meth c H locs cells slots Q g q := fun T hT X => kk T hT (stand_widen X h1 h2)
theorem vx_out {pc : Nat} {E : String} {ce : Cell} {q : Addr} {mc ms : Nat} (hout : ∀ x ∈ c.exceptionTable.toList, covers x pc = false) (hlocks : meth.locks = false) (hcell : H[q]? = some ce) (hv : ce.vm = .none) (hcl : s.vm.findClass E = some ce.cls)
    (hx : ∀ t : State, t.heap = H → s.vm.Alike t.vm → XC E s t) (hf : ∀ z ∈ locs, free z.base) (hc : cells ≤ mc) (hs : slots ≤ ms) :
    vx_W p l e R s m args below meth c H locs cells slots (vx_MQ below Qc XC args s mc ms free) (F0 m pc ls rest) q := by
  intro T hT X
  obtain ⟨st1, hrun, hend, hW, hsm⟩ := X.leaveThrown q (g := F0 m pc ls rest) rfl rfl rfl hout hlocks
  have hcell9 : (T.setFrames (.throwing q :: below)).heap[q]? = some ce := by
    show T.heap[q]? = some ce
    rw [hT]; exact hcell
  exact ⟨_, st1, .threw q, hrun, hend, Or.inr ⟨q, rfl, E, ce, locs, hx _ hT hW.alike, hcell9, hv, hcl, hW, hsm.mono hc hs, hf⟩⟩
theorem vx_frame {U : State} {k n : Nat} (h : s.sameButNew ({ U with vm := s.vm } : State) locs k n) : s.heap.size ≤ U.heap.size ∧ ∀ q : Nat, q < s.heap.size → (∀ z ∈ locs, z.base ≠ q) → U.heap[q]? = s.heap[q]? := by
  obtain ⟨-, h2, -, -, -, h6⟩ := h
  refine ⟨h2, fun q hq hz => ?_⟩
  obtain ⟨c9, e1, e2, e3, e4⟩ := h6 q _ (Array.getElem?_eq_getElem hq)
  have hs : c9.slots = (s.heap[q]).slots := Array.ext_getElem? fun i => e4 i fun hm => hz _ hm rfl
  have h9 : c9 = s.heap[q] := by
    rw [hs] at e2
    exact e2
  have e5 : U.heap[q]? = some c9 := e1
  rw [e5, h9, Array.getElem?_eq_getElem hq]
/-- the words of a throw but the four that speak of the heap -/
def vx_no (w : Cond) : Bool := decide (w ≠ .isRef (.static Bundle.tN "UNASSIGNED_STACK" Bundle.steD)) && decide (w ≠ .isRef (.static Bundle.tN "SUPPRESSED_SENTINEL" Bundle.listD)) && decide (w ≠ .laysStatic Bundle.tN "UNASSIGNED_STACK" Bundle.steD) && decide (w ≠ .laysStatic Bundle.tN "SUPPRESSED_SENTINEL" Bundle.listD)
def vx_at0 (own : String) (ic : Nat) (X : String) (names : List String) : List Cond := (Bundle.ownAtoms0 own ic X names).filter vx_no
def vx_atS (own : String) (ic : Nat) (X : String) (names : List String) : List Cond := (Bundle.ownAtoms own ic X names).filter vx_no
/-- a word that the tables alone decide, or a good one -/
def vx_ot (w : Cond) : Bool := w.onTables || goodWord w
theorem vx_ot_at {args a' : Array Value} {s U : State} {w : Cond} (hW : s.WarmedH U.vm) (hvm : s.vm = U.vm) (hg : vx_ot w = true) (h : w.before args s = true) : w.before a' U = true := by
  simp only [vx_ot, Bool.or_eq_true] at hg
  rcases hg with hg | hg
  · exact va_tabs hg hvm h
  · exact word_at hW (good_of_word hg) h
/-- a list's words: the good ones out of the method's own list, the others by premises of their own -/
theorem vx_hat {args : Array Value} {s : State} {L B : List Cond} (h1 : ∀ w ∈ L.filter goodWord, w.before args s = true) (h2 : ∀ w ∈ L.filter (fun w => !goodWord w), w ∈ B) (h3 : ∀ w ∈ B, w.before args s = true) : ∀ w ∈ L, w.before args s = true := by
  intro w hw
  by_cases g : goodWord w = true
  · exact h1 w (List.mem_filter.mpr ⟨hw, g⟩)
  · refine h3 w (h2 w (List.mem_filter.mpr ⟨hw, ?_⟩))
    show (!goodWord w) = true
    cases hgw : goodWord w
    · rfl
    · exact absurd hgw g
theorem vx_c {args : Array Value} {s : State} {w : Cond} {B : List Cond} (h : w.before args s = true) (t : ∀ w ∈ B, w.before args s = true) : ∀ w' ∈ w :: B, w'.before args s = true := fun w' h' => (List.mem_cons.mp h').elim (fun e => by rw [e]; exact h) (t w')
theorem vx_n {args : Array Value} {s : State} : ∀ w ∈ ([] : List Cond), w.before args s = true := fun _ h => nomatch h
theorem vx_own {args : Array Value} {s : State} {L : List Cond} (h1 : ∀ w ∈ L.filter vx_no, w.before args s = true)
    (hU : (Cond.isRef (.static Bundle.tN "UNASSIGNED_STACK" Bundle.steD)).before args s = true) (hN : (Cond.isRef (.static Bundle.tN "SUPPRESSED_SENTINEL" Bundle.listD)).before args s = true)
    (lU : (Cond.laysStatic Bundle.tN "UNASSIGNED_STACK" Bundle.steD).before args s = true) (lN : (Cond.laysStatic Bundle.tN "SUPPRESSED_SENTINEL" Bundle.listD).before args s = true) : ∀ w ∈ L, w.before args s = true := by
  intro w hw
  by_cases e1 : w = .isRef (.static Bundle.tN "UNASSIGNED_STACK" Bundle.steD)
  · rw [e1]; exact hU
  · by_cases e2 : w = .isRef (.static Bundle.tN "SUPPRESSED_SENTINEL" Bundle.listD)
    · rw [e2]; exact hN
    · by_cases e3 : w = .laysStatic Bundle.tN "UNASSIGNED_STACK" Bundle.steD
      · rw [e3]; exact lU
      · by_cases e4 : w = .laysStatic Bundle.tN "SUPPRESSED_SENTINEL" Bundle.listD
        · rw [e4]; exact lN
        · exact h1 w (List.mem_filter.mpr ⟨hw, by unfold vx_no; rw [decide_eq_true e1, decide_eq_true e2, decide_eq_true e3, decide_eq_true e4]; rfl⟩)
/-- where a static field lies, its class's statics cell in H -/
def vx_L (C n d : String) (A : Nat → Prop) (U : State) (H : Heap) : Prop := ∃ (c : ClassId) (k : Class) (i : Nat) (f : Field) (a : Nat) (cell : Cell), U.vm.findClass C = some c ∧ U.fieldFound? C n d = some (c, k, i, f) ∧ f.isStatic = true ∧ k.statics = some a ∧ H[a]? = some cell ∧ cell.vm.isStatics = true ∧ cell.cls = c ∧ f.slot < cell.slots.size ∧ k.staticTypes[f.slot]? = some f.type ∧ ¬ A a
theorem vx_L.moved {C n d : String} {A : Nat → Prop} {u U : State} {H : Heap} (hvm : u.vm.Alike U.vm) (h : vx_L C n d A u H) : vx_L C n d A U H := by
  obtain ⟨c, k, i, f, a, cell, h1, h2, h3, h4, h5, h6, h7, h8, h9, h10⟩ := h
  obtain ⟨k', hi', he⟩ := State.fieldFound?_setVm hvm h2
  exact ⟨c, k', i, f, a, cell, by rw [hvm.findClass]; exact h1, hi', h3, by rw [he]; exact h4, h5, h6, h7, h8, by rw [he]; exact h9, h10⟩
theorem vx_L.kept {C n d : String} {A : Nat → Prop} {U : State} {H H1 : Heap} (h : vx_L C n d A U H) (hq : ∀ a : Nat, a < H.size → ¬ A a → H1[a]? = H[a]?) : vx_L C n d A U H1 := by
  obtain ⟨c, k, i, f, a, cell, h1, h2, h3, h4, h5, h6, h7, h8, h9, h10⟩ := h
  exact ⟨c, k, i, f, a, cell, h1, h2, h3, h4, by rw [hq a (Array.getElem?_eq_some_iff.mp h5).1 h10]; exact h5, h6, h7, h8, h9, h10⟩
theorem vx_L.narrow {C n d : String} {A B : Nat → Prop} {U : State} {H : Heap} (h : vx_L C n d A U H) (hAB : ∀ q, B q → A q) : vx_L C n d B U H := by
  obtain ⟨c, k, i, f, a, cell, h1, h2, h3, h4, h5, h6, h7, h8, h9, h10⟩ := h
  exact ⟨c, k, i, f, a, cell, h1, h2, h3, h4, h5, h6, h7, h8, h9, fun z => h10 (hAB _ z)⟩
theorem vx_L.word {C n d : String} {A : Nat → Prop} {s : State} {args : Array Value} (h : vx_L C n d A s s.heap) : (Cond.laysStatic C n d).before args s = true := by
  obtain ⟨c, k, i, f, a, cell, h1, h2, h3, h4, h5, h6, h7, h8, h9, -⟩ := h
  show (Cond.laysStatic C n d).holds args s none s [] = true
  exact Cond.laysStatic_of h1 h2 h3 h4 h5 h6 h7 h8 h9
/-- .. and what it holds: null or some reference -/
def vx_Zq (C n d : String) (A : Nat → Prop) (U : State) (H : Heap) : Prop := va_Zq C n d A U H ∧ vx_L C n d A U H
theorem vx_Zq.moved {C n d : String} {A : Nat → Prop} {u U : State} {H : Heap} (hvm : u.vm.Alike U.vm) (h : vx_Zq C n d A u H) : vx_Zq C n d A U H := ⟨va_Zq.moved hvm h.1, vx_L.moved hvm h.2⟩
theorem vx_Zq.kept {C n d : String} {A : Nat → Prop} {U : State} {H H1 : Heap} (h : vx_Zq C n d A U H) (hq : ∀ a : Nat, a < H.size → ¬ A a → H1[a]? = H[a]?) : vx_Zq C n d A U H1 := ⟨va_Zq.kept h.1 hq, vx_L.kept h.2 hq⟩
theorem vx_Zq.narrow {C n d : String} {A B : Nat → Prop} {U : State} {H : Heap} (h : vx_Zq C n d A U H) (hAB : ∀ q, B q → A q) : vx_Zq C n d B U H := ⟨va_Zq.narrow h.1 hAB, vx_L.narrow h.2 hAB⟩
theorem vx_Zqof {args : Array Value} {s : State} {C n d : String} {A : Nat → Prop} (hl : (Cond.laysStatic C n d).before args s = true) (hini : (Cond.initialized C).before args s = true) (h : (Cond.isRef (.static C n d)).before args s = true) (hA : ∀ a : Nat, a < s.heap.size → ¬ A a) : vx_Zq C n d A s s.heap := by
  refine ⟨va_Zqof hl hini h hA, ?_⟩
  obtain ⟨c, k, i, f, a, cell, h1, h2, h3, h4, h5, h6, h7, h8, h9⟩ := Cond.laysStatic_spec hl
  exact ⟨c, k, i, f, a, cell, h1, h2, h3, h4, h5, h6, h7, h8, h9, hA a (Array.getElem?_eq_some_iff.mp h5).1⟩
theorem vx_isRef {C n d : String} {v : Value} {A : Nat → Prop} {s : State} {args : Array Value} (h : va_Z C n d v A s s.heap) (hv : v.isRef = true) : (Cond.isRef (.static C n d)).before args s = true := by
  obtain ⟨cf, kf, fi, f, a, cell, h1, h2, h3, h4, h5, h6, h7, -⟩ := h
  have he : (Term.static C n d).eval args s none [] s = some v := by
    simp [Term.eval, State.fieldNamed?, h1, h2, h4, h5, h6, h7]
  simp only [Cond.before, Cond.holds, Cond.value, he]
  cases v <;> simp_all [Value.isRef]
theorem vx_isRefq {C n d : String} {A : Nat → Prop} {s : State} {args : Array Value} (h : va_Zq C n d A s s.heap) : (Cond.isRef (.static C n d)).before args s = true := by
  rcases h with h | ⟨t, h⟩
  · exact vx_isRef h rfl
  · exact vx_isRef h rfl
/-- the same frame, seen from here: as if the method were called anew in this heap -/
theorem vx_rebase {T : State} (X : Stand p l e R s m args below meth c T locs cells slots) {R' : Room} (hf : R'.frames ≤ R.frames) (hl : R'.locals ≤ R.locals) (hc : cells + R'.cells ≤ R.cells) (hs : slots + R'.slots ≤ R.slots) :
    Stand p l e R' ((T.setVm s.vm).setFrames (.invoking m args :: below)) m args below meth c T [] 0 0 := by
  have htop : (T.setVm s.vm).topJava?.isSome := X.here.top
  have hF : ((T.setVm s.vm).setFrames (.invoking m args :: below)).frames = .invoking m args :: below := State.frames_setFrames _ (State.cur_lt_of_top htop)
  obtain ⟨g₀, hg0⟩ := Option.isSome_iff_exists.mp htop
  obtain ⟨r, hr⟩ := State.topJava?_eq_some.mp hg0
  have hl9 : e.platform.stackLimits (T.setVm s.vm).me = e.platform.stackLimits s.me := X.limits
  have hb9 : (T.setVm s.vm).me.stackBytes = s.me.stackBytes := X.bytes
  refine ⟨X.admits, X.cas, X.clock, hF, ?_, X.hears, X.method, X.code, X.here, X.tail, X.warmed, ?_, ?_, ?_⟩
  · have h := X.room
    have hU : ((T.setVm s.vm).setFrames (.invoking m args :: below)).localsInUse = s.localsInUse := by
      rw [State.localsInUse_invoking hF (meth := meth) (c := c) X.method X.code, State.localsInUse_invoking X.frames X.method X.code]
    simp only [State.hasRoom, Bool.and_eq_true, decide_eq_true_eq] at h ⊢
    obtain ⟨⟨⟨⟨h1, h2, h3, h4, h5, h6⟩, h7⟩, h8⟩, h9⟩ := h
    rw [X.frames, List.length_cons] at h2 h3
    have q1 := X.heapSize
    have q2 := X.used
    simp only [hF, hU, List.length_cons, State.stackLimits_setFrames, State.stackBytes_setFrames, hl9, hb9]
    refine ⟨⟨⟨⟨by omega, by omega, by omega, by omega, by omega, h6⟩, ?_⟩, ?_⟩, X.book⟩
    · show T.heap.size + R'.cells ≤ e.platform.maxCells
      omega
    · show T.slotsUsed + R'.slots ≤ e.platform.maxSlots
      omega
  · rw [State.stackLimits_setFrames]; rfl
  · rw [State.stackBytes_setFrames]; rfl
  · refine ⟨?_, Nat.le_refl _, Nat.le_refl _, ?_, ?_, fun a c9 h9 => ⟨c9, h9, rfl, rfl, fun _ _ => rfl⟩⟩
    · obtain ⟨t, ht, -⟩ := State.frames_cons hr
      show T.setVm s.vm = { ((T.setVm s.vm).setFrames (.invoking m args :: below)).setFrames (T.setVm s.vm).frames with heap := T.heap, slotsUsed := T.slotsUsed }
      rw [State.setFrames_setFrames, State.setFrames_self ht]
      rfl
    · show T.slotsUsed = T.slotsUsed + ((T.heap.toList.drop T.heap.size).map (·.slots.size)).sum
      rw [List.drop_eq_nil_of_le (Nat.le_of_eq Array.length_toList)]
      rfl
    · show ((T.heap.toList.drop T.heap.size).map (·.slots.size)).sum ≤ 0
      rw [List.drop_eq_nil_of_le (Nat.le_of_eq Array.length_toList)]
      exact Nat.le_refl _
/-- 'throw new E()': new; dup; invokespecial; athrow -/
theorem vx_throw0 {cc : ByteArray} {pc : Nat} (hexec : p.tables.exec = Jvm.exec) (hb : c.code = cc) (hl : l.stackTraces = false) {own cls : String} {names : List String} {ik ic mc ms : Nat} {A : Nat → Prop}
    (hown : s.vm.findClass own = some m.cls) (hcls : Bundle.fit cls = true) (hnames : ∀ n ∈ names, Bundle.fit n = true)
    (hk : (Cond.classLink own ik cls).before args s = true) (hini : (Cond.initialized cls).before args s = true) (hat : ∀ w ∈ vx_at0 own ic cls names, w.before args s = true)
    (hgood : ∀ w ∈ Cond.classLink own ik cls :: Cond.initialized cls :: vx_at0 own ic cls names, vx_ot w = true)
    (hU : vx_Zq Bundle.tN "UNASSIGNED_STACK" Bundle.steD A s s.heap) (hN : vx_Zq Bundle.tN "SUPPRESSED_SENTINEL" Bundle.listD A s s.heap) (hS : va_S A s.heap H locs) (hsize : ls.size = c.maxLocals)
    (d0 : decode cc pc = .ok (.new ik, 3)) (d3 : decode cc (pc + 3) = .ok (.dup, 1)) (d4 : decode cc (pc + 4) = .ok (.invokespecial ic, 3)) (d7 : decode cc (pc + 7) = .ok (.athrow, 1))
    (hout : ∀ x ∈ c.exceptionTable.toList, covers x (pc + 7) = false)
    (hRframes : names.length + 3 < R.frames) (hRlocals : (rest.map fun v => v.category).sum + (13 * (names.length + 1) + 42) ≤ R.locals) (hRcells : cells + 1 ≤ R.cells) (hRslots : slots + 6 ≤ R.slots) (hlocks : meth.locks = false)
    (hx : ∀ t : State, s.vm.Alike t.vm → H.size ≤ t.heap.size → (∀ q : Nat, q < H.size → t.heap[q]? = H[q]?) → XC cls s t)
    (hf : ∀ z ∈ locs, free z.base) (hc : cells + 1 ≤ mc) (hs : slots + 6 ≤ ms) :
    W p l e R s m args below meth c H locs cells slots (vx_MQ below Qc XC args s mc ms free) (F0 m pc ls rest) := by
  intro T hT X
  have htr : e.platform.stackTraces = false := (show e.platform.stackTraces = l.stackTraces by rw [X.admits.platform]).trans hl
  have Y := vx_rebase X (R' := { frames := R.frames, locals := R.locals, cells := 1, slots := 6 }) (Nat.le_refl _) (Nat.le_refl _) hRcells hRslots
  obtain ⟨s', hA⟩ : ∃ z, z = (T.setVm s.vm).setFrames (.invoking m args :: below) := ⟨_, rfl⟩
  rw [← hA] at Y
  have hvm : s'.vm = s.vm := by rw [hA]; rfl
  have hhp : s'.heap = H := by rw [hA]; exact hT
  have hW0 : s.WarmedH s'.vm := by rw [hvm]; exact State.WarmedH.refl s
  have hat' : ∀ w ∈ vx_at0 own ic cls names, w.before args s' = true := fun w hw => vx_ot_at hW0 hvm.symm (hgood w (List.mem_cons_of_mem _ (List.mem_cons_of_mem _ hw))) (hat w hw)
  have hk' : (Cond.classLink own ik cls).before args s' = true := vx_ot_at hW0 hvm.symm (hgood _ List.mem_cons_self) hk
  have hini' : (Cond.initialized cls).before args s' = true := vx_ot_at hW0 hvm.symm (hgood _ (List.mem_cons_of_mem _ List.mem_cons_self)) hini
  have hU' : vx_Zq Bundle.tN "UNASSIGNED_STACK" Bundle.steD A s' s'.heap := by rw [hhp]; exact vx_Zq.moved hW0.alike (hU.kept hS.2.1)
  have hN' : vx_Zq Bundle.tN "SUPPRESSED_SENTINEL" Bundle.listD A s' s'.heap := by rw [hhp]; exact vx_Zq.moved hW0.alike (hN.kept hS.2.1)
  have h : ∀ w ∈ Bundle.ownAtoms0 own ic cls names, w.before args s' = true := vx_own hat' (vx_isRefq hU'.1) (vx_isRefq hN'.1) hU'.2.word hN'.2.word
  have hown' : s'.vm.findClass own = some m.cls := by rw [hvm]; exact hown
  have hins : (Cond.instantiable cls 6).before args s' = true := h _ (by simp [Bundle.ownAtoms0])
  obtain ⟨vm₁, cX, kX, hfX, hkX, -, -, X₁, st1⟩ := Y.newCold hexec (own := own) (C := cls) (index := ik) (n := 6) hown' hk' hins hini'
    (g := F0 m pc ls rest) rfl (by rw [hb]; exact d0) (Nat.le_refl _) (Nat.le_refl _)
  generalize hT1 : (T.setVm vm₁).pushCell { cls := cX, slots := kX.instanceTypes.map defaultValue, vm := .none } = T1 at X₁ st1
  have hcat : (Value.ref T.heap.size).category = 1 := rfl
  have hcellA : T1.heap[T.heap.size]? = some (freshCell cX kX) := by rw [← hT1]; exact State.heap_pushCell_size _ _
  have d3' : decode c.code (pc + 3) = .ok (.dup, 1) := by rw [hb]; exact d3
  obtain ⟨U, hsteps, hrun, hend, hW, hsame, ce, hce, hO⟩ := X₁.ctorThrow0 hexec htr (own := own) (cls := cls) (names := names) (ic := ic) hown' hcls hnames h (fun x hx => nomatch hx) hfX hkX hcellA (by rw [hhp, hT]; exact Nat.le_refl _)
    (g := { method := m, pc := pc + 4, locals := ls, stack := .ref T.heap.size :: .ref T.heap.size :: rest, locked := none }) rfl hsize rfl rfl (rest := rest) rfl
    (by rw [hb]; exact d4) (by rw [hb]; exact d7) hout hRframes (by simp only [List.map_cons, List.sum_cons, hcat]; omega) hlocks
  obtain ⟨f1, f2⟩ := vx_frame hsame
  rw [hhp] at f1 f2
  have hWs : s.WarmedH U.vm := State.WarmedH.trans hW0 hW
  have hcl : s.vm.findClass cls = some ce.cls := by
    have h9 := hO.cls
    rw [hvm] at h9
    exact h9
  have hall : s.sameButNew ({ U with vm := s.vm } : State) locs mc ms := by
    subst hA
    obtain ⟨e1, e2⟩ := hsame
    rw [State.setFrames_setFrames] at e1
    have h2 : (T.setVm s.vm).sameButNew ({ U with vm := s.vm } : State) [] (0 + 1) (0 + 6) := ⟨e1, e2⟩
    have h3 := X.same.trans h2
    rw [List.append_nil] at h3
    exact h3.mono hc hs
  refine ⟨U, ?_, .threw T.heap.size, hrun, hend, Or.inr ⟨T.heap.size, rfl, cls, ce, locs, hx U hWs.alike f1 (fun q hq => f2 q hq (fun z hz => nomatch hz)), hce, hO.vm, hcl, hWs, hall, hf⟩⟩
  refine st1 _ ?_
  show Steps p.tables e below (T1.setTop { method := m, pc := pc + 3, locals := ls, stack := .ref T.heap.size :: rest, locked := none }) _
  jvm_step X₁.here [X₁.here.top, hexec, d3', Value.category]
  exact hsteps
/-- 'throw new E("text")': new; dup; ldc; invokespecial; athrow -/
theorem vx_throwS {cc : ByteArray} {pc : Nat} (hexec : p.tables.exec = Jvm.exec) (hb : c.code = cc) (hl : l.stackTraces = false) {own cls text : String} {names : List String} {ik is ic mc ms sa : Nat} {A : Nat → Prop}
    (hown : s.vm.findClass own = some m.cls) (hcls : Bundle.fit cls = true) (hnames : ∀ n ∈ names, Bundle.fit n = true)
    (hk : (Cond.classLink own ik cls).before args s = true) (hini : (Cond.initialized cls).before args s = true) (hstr : vk_R own is text sa s) (hat : ∀ w ∈ vx_atS own ic cls names, w.before args s = true)
    (hgood : ∀ w ∈ Cond.classLink own ik cls :: Cond.initialized cls :: vx_atS own ic cls names, vx_ot w = true)
    (hU : vx_Zq Bundle.tN "UNASSIGNED_STACK" Bundle.steD A s s.heap) (hN : vx_Zq Bundle.tN "SUPPRESSED_SENTINEL" Bundle.listD A s s.heap) (hS : va_S A s.heap H locs) (hsize : ls.size = c.maxLocals)
    (d0 : decode cc pc = .ok (.new ik, 3)) (d3 : decode cc (pc + 3) = .ok (.dup, 1)) (d4 : decode cc (pc + 4) = .ok (.ldc is, 2)) (d6 : decode cc (pc + 6) = .ok (.invokespecial ic, 3)) (d9 : decode cc (pc + 9) = .ok (.athrow, 1))
    (hout : ∀ x ∈ c.exceptionTable.toList, covers x (pc + 9) = false)
    (hRframes : names.length + 3 < R.frames) (hRlocals : (rest.map fun v => v.category).sum + (13 * (names.length + 1) + 43) ≤ R.locals) (hRcells : cells + 1 ≤ R.cells) (hRslots : slots + 6 ≤ R.slots) (hlocks : meth.locks = false)
    (hx : ∀ t : State, s.vm.Alike t.vm → H.size ≤ t.heap.size → (∀ q : Nat, q < H.size → t.heap[q]? = H[q]?) → XC cls s t)
    (hf : ∀ z ∈ locs, free z.base) (hc : cells + 1 ≤ mc) (hs : slots + 6 ≤ ms) :
    W p l e R s m args below meth c H locs cells slots (vx_MQ below Qc XC args s mc ms free) (F0 m pc ls rest) := by
  intro T hT X
  have htr : e.platform.stackTraces = false := (show e.platform.stackTraces = l.stackTraces by rw [X.admits.platform]).trans hl
  have Y := vx_rebase X (R' := { frames := R.frames, locals := R.locals, cells := 1, slots := 6 }) (Nat.le_refl _) (Nat.le_refl _) hRcells hRslots
  obtain ⟨s', hA⟩ : ∃ z, z = (T.setVm s.vm).setFrames (.invoking m args :: below) := ⟨_, rfl⟩
  rw [← hA] at Y
  have hvm : s'.vm = s.vm := by rw [hA]; rfl
  have hhp : s'.heap = H := by rw [hA]; exact hT
  have hW0 : s.WarmedH s'.vm := by rw [hvm]; exact State.WarmedH.refl s
  have hat' : ∀ w ∈ vx_atS own ic cls names, w.before args s' = true := fun w hw => vx_ot_at hW0 hvm.symm (hgood w (List.mem_cons_of_mem _ (List.mem_cons_of_mem _ hw))) (hat w hw)
  have hk' : (Cond.classLink own ik cls).before args s' = true := vx_ot_at hW0 hvm.symm (hgood _ List.mem_cons_self) hk
  have hini' : (Cond.initialized cls).before args s' = true := vx_ot_at hW0 hvm.symm (hgood _ (List.mem_cons_of_mem _ List.mem_cons_self)) hini
  have hU' : vx_Zq Bundle.tN "UNASSIGNED_STACK" Bundle.steD A s' s'.heap := by rw [hhp]; exact vx_Zq.moved hW0.alike (hU.kept hS.2.1)
  have hN' : vx_Zq Bundle.tN "SUPPRESSED_SENTINEL" Bundle.listD A s' s'.heap := by rw [hhp]; exact vx_Zq.moved hW0.alike (hN.kept hS.2.1)
  have h : ∀ w ∈ Bundle.ownAtoms own ic cls names, w.before args s' = true := vx_own hat' (vx_isRefq hU'.1) (vx_isRefq hN'.1) hU'.2.word hN'.2.word
  have hown' : s'.vm.findClass own = some m.cls := by rw [hvm]; exact hown
  have hins : (Cond.instantiable cls 6).before args s' = true := h _ (by simp [Bundle.ownAtoms])
  obtain ⟨vm₁, cX, kX, hfX, hkX, -, -, X₁, st1⟩ := Y.newCold hexec (own := own) (C := cls) (index := ik) (n := 6) hown' hk' hins hini'
    (g := F0 m pc ls rest) rfl (by rw [hb]; exact d0) (Nat.le_refl _) (Nat.le_refl _)
  generalize hT1 : (T.setVm vm₁).pushCell { cls := cX, slots := kX.instanceTypes.map defaultValue, vm := .none } = T1 at X₁ st1
  have hcat : (Value.ref T.heap.size).category = 1 := rfl
  have hcellA : T1.heap[T.heap.size]? = some (freshCell cX kX) := by rw [← hT1]; exact State.heap_pushCell_size _ _
  have d3' : decode c.code (pc + 3) = .ok (.dup, 1) := by rw [hb]; exact d3
  have d4' : decode c.code (pc + 4) = .ok (.ldc is, 2) := by rw [hb]; exact d4
  have hstr' : vk_R own is text sa s' := vk_R.warm hW0 hstr
  obtain ⟨U, hsteps, hrun, hend, hW, hsame, ce, hce, hO⟩ := X₁.ctorThrowS hexec htr (own := own) (cls := cls) (names := names) (ic := ic) hown' hcls hnames h (fun x hx => nomatch hx) hfX hkX hcellA (by rw [hhp, hT]; exact Nat.le_refl _) (msg := .ref sa) rfl
    (g := { method := m, pc := pc + 6, locals := ls, stack := .ref sa :: .ref T.heap.size :: .ref T.heap.size :: rest, locked := none }) rfl hsize rfl rfl (rest := rest) rfl
    (by rw [hb]; exact d6) (by rw [hb]; exact d9) hout hRframes (by simp only [List.map_cons, List.sum_cons, hcat]; omega) hlocks
  obtain ⟨f1, f2⟩ := vx_frame hsame
  rw [hhp] at f1 f2
  have hWs : s.WarmedH U.vm := State.WarmedH.trans hW0 hW
  have hcl : s.vm.findClass cls = some ce.cls := by
    have h9 := hO.cls
    rw [hvm] at h9
    exact h9
  have hall : s.sameButNew ({ U with vm := s.vm } : State) locs mc ms := by
    subst hA
    obtain ⟨e1, e2⟩ := hsame
    rw [State.setFrames_setFrames] at e1
    have h2 : (T.setVm s.vm).sameButNew ({ U with vm := s.vm } : State) [] (0 + 1) (0 + 6) := ⟨e1, e2⟩
    have h3 := X.same.trans h2
    rw [List.append_nil] at h3
    exact h3.mono hc hs
  refine ⟨U, ?_, .threw T.heap.size, hrun, hend, Or.inr ⟨T.heap.size, rfl, cls, ce, locs, hx U hWs.alike f1 (fun q hq => f2 q hq (fun z hz => nomatch hz)), hce, hO.vm, hcl, hWs, hall, hf⟩⟩
  refine st1 _ ?_
  show Steps p.tables e below (T1.setTop { method := m, pc := pc + 3, locals := ls, stack := .ref T.heap.size :: rest, locked := none }) _
  jvm_step X₁.here [X₁.here.top, hexec, d3', Value.category]
  exact X₁.ldcString hexec (own := own) (text := text) (index := is) (a := sa) hown' hstr'.1 hstr'.2
    (g := { method := m, pc := pc + 4, locals := ls, stack := .ref T.heap.size :: .ref T.heap.size :: rest, locked := none }) rfl d4' _ hsteps
/-- 'throw new E("text")', the text by a wide index -/
theorem vx_throwSW {cc : ByteArray} {pc : Nat} (hexec : p.tables.exec = Jvm.exec) (hb : c.code = cc) (hl : l.stackTraces = false) {own cls text : String} {names : List String} {ik is ic mc ms sa : Nat} {A : Nat → Prop}
    (hown : s.vm.findClass own = some m.cls) (hcls : Bundle.fit cls = true) (hnames : ∀ n ∈ names, Bundle.fit n = true)
    (hk : (Cond.classLink own ik cls).before args s = true) (hini : (Cond.initialized cls).before args s = true) (hstr : vk_R own is text sa s) (hat : ∀ w ∈ vx_atS own ic cls names, w.before args s = true)
    (hgood : ∀ w ∈ Cond.classLink own ik cls :: Cond.initialized cls :: vx_atS own ic cls names, vx_ot w = true)
    (hU : vx_Zq Bundle.tN "UNASSIGNED_STACK" Bundle.steD A s s.heap) (hN : vx_Zq Bundle.tN "SUPPRESSED_SENTINEL" Bundle.listD A s s.heap) (hS : va_S A s.heap H locs) (hsize : ls.size = c.maxLocals)
    (d0 : decode cc pc = .ok (.new ik, 3)) (d3 : decode cc (pc + 3) = .ok (.dup, 1)) (d4 : decode cc (pc + 4) = .ok (.ldc_w is, 3)) (d7 : decode cc (pc + 7) = .ok (.invokespecial ic, 3)) (d10 : decode cc (pc + 10) = .ok (.athrow, 1))
    (hout : ∀ x ∈ c.exceptionTable.toList, covers x (pc + 10) = false)
    (hRframes : names.length + 3 < R.frames) (hRlocals : (rest.map fun v => v.category).sum + (13 * (names.length + 1) + 43) ≤ R.locals) (hRcells : cells + 1 ≤ R.cells) (hRslots : slots + 6 ≤ R.slots) (hlocks : meth.locks = false)
    (hx : ∀ t : State, s.vm.Alike t.vm → H.size ≤ t.heap.size → (∀ q : Nat, q < H.size → t.heap[q]? = H[q]?) → XC cls s t)
    (hf : ∀ z ∈ locs, free z.base) (hc : cells + 1 ≤ mc) (hs : slots + 6 ≤ ms) :
    W p l e R s m args below meth c H locs cells slots (vx_MQ below Qc XC args s mc ms free) (F0 m pc ls rest) := by
  intro T hT X
  have htr : e.platform.stackTraces = false := (show e.platform.stackTraces = l.stackTraces by rw [X.admits.platform]).trans hl
  have Y := vx_rebase X (R' := { frames := R.frames, locals := R.locals, cells := 1, slots := 6 }) (Nat.le_refl _) (Nat.le_refl _) hRcells hRslots
  obtain ⟨s', hA⟩ : ∃ z, z = (T.setVm s.vm).setFrames (.invoking m args :: below) := ⟨_, rfl⟩
  rw [← hA] at Y
  have hvm : s'.vm = s.vm := by rw [hA]; rfl
  have hhp : s'.heap = H := by rw [hA]; exact hT
  have hW0 : s.WarmedH s'.vm := by rw [hvm]; exact State.WarmedH.refl s
  have hat' : ∀ w ∈ vx_atS own ic cls names, w.before args s' = true := fun w hw => vx_ot_at hW0 hvm.symm (hgood w (List.mem_cons_of_mem _ (List.mem_cons_of_mem _ hw))) (hat w hw)
  have hk' : (Cond.classLink own ik cls).before args s' = true := vx_ot_at hW0 hvm.symm (hgood _ List.mem_cons_self) hk
  have hini' : (Cond.initialized cls).before args s' = true := vx_ot_at hW0 hvm.symm (hgood _ (List.mem_cons_of_mem _ List.mem_cons_self)) hini
  have hU' : vx_Zq Bundle.tN "UNASSIGNED_STACK" Bundle.steD A s' s'.heap := by rw [hhp]; exact vx_Zq.moved hW0.alike (hU.kept hS.2.1)
  have hN' : vx_Zq Bundle.tN "SUPPRESSED_SENTINEL" Bundle.listD A s' s'.heap := by rw [hhp]; exact vx_Zq.moved hW0.alike (hN.kept hS.2.1)
  have h : ∀ w ∈ Bundle.ownAtoms own ic cls names, w.before args s' = true := vx_own hat' (vx_isRefq hU'.1) (vx_isRefq hN'.1) hU'.2.word hN'.2.word
  have hown' : s'.vm.findClass own = some m.cls := by rw [hvm]; exact hown
  have hins : (Cond.instantiable cls 6).before args s' = true := h _ (by simp [Bundle.ownAtoms])
  obtain ⟨vm₁, cX, kX, hfX, hkX, -, -, X₁, st1⟩ := Y.newCold hexec (own := own) (C := cls) (index := ik) (n := 6) hown' hk' hins hini'
    (g := F0 m pc ls rest) rfl (by rw [hb]; exact d0) (Nat.le_refl _) (Nat.le_refl _)
  generalize hT1 : (T.setVm vm₁).pushCell { cls := cX, slots := kX.instanceTypes.map defaultValue, vm := .none } = T1 at X₁ st1
  have hcat : (Value.ref T.heap.size).category = 1 := rfl
  have hcellA : T1.heap[T.heap.size]? = some (freshCell cX kX) := by rw [← hT1]; exact State.heap_pushCell_size _ _
  have d3' : decode c.code (pc + 3) = .ok (.dup, 1) := by rw [hb]; exact d3
  have d4' : decode c.code (pc + 4) = .ok (.ldc_w is, 3) := by rw [hb]; exact d4
  have hstr' : vk_R own is text sa s' := vk_R.warm hW0 hstr
  obtain ⟨U, hsteps, hrun, hend, hW, hsame, ce, hce, hO⟩ := X₁.ctorThrowS hexec htr (own := own) (cls := cls) (names := names) (ic := ic) hown' hcls hnames h (fun x hx => nomatch hx) hfX hkX hcellA (by rw [hhp, hT]; exact Nat.le_refl _) (msg := .ref sa) rfl
    (g := { method := m, pc := pc + 7, locals := ls, stack := .ref sa :: .ref T.heap.size :: .ref T.heap.size :: rest, locked := none }) rfl hsize rfl rfl (rest := rest) rfl
    (by rw [hb]; exact d7) (by rw [hb]; exact d10) hout hRframes (by simp only [List.map_cons, List.sum_cons, hcat]; omega) hlocks
  obtain ⟨f1, f2⟩ := vx_frame hsame
  rw [hhp] at f1 f2
  have hWs : s.WarmedH U.vm := State.WarmedH.trans hW0 hW
  have hcl : s.vm.findClass cls = some ce.cls := by
    have h9 := hO.cls
    rw [hvm] at h9
    exact h9
  have hall : s.sameButNew ({ U with vm := s.vm } : State) locs mc ms := by
    subst hA
    obtain ⟨e1, e2⟩ := hsame
    rw [State.setFrames_setFrames] at e1
    have h2 : (T.setVm s.vm).sameButNew ({ U with vm := s.vm } : State) [] (0 + 1) (0 + 6) := ⟨e1, e2⟩
    have h3 := X.same.trans h2
    rw [List.append_nil] at h3
    exact h3.mono hc hs
  refine ⟨U, ?_, .threw T.heap.size, hrun, hend, Or.inr ⟨T.heap.size, rfl, cls, ce, locs, hx U hWs.alike f1 (fun q hq => f2 q hq (fun z hz => nomatch hz)), hce, hO.vm, hcl, hWs, hall, hf⟩⟩
  refine st1 _ ?_
  show Steps p.tables e below (T1.setTop { method := m, pc := pc + 3, locals := ls, stack := .ref T.heap.size :: rest, locked := none }) _
  jvm_step X₁.here [X₁.here.top, hexec, d3', Value.category]
  exact X₁.ldcStringW hexec (own := own) (text := text) (index := is) (a := sa) hown' hstr'.1 hstr'.2
    (g := { method := m, pc := pc + 4, locals := ls, stack := .ref T.heap.size :: .ref T.heap.size :: rest, locked := none }) rfl d4' _ hsteps
end Ends
section Bodies
variable {l : Launch}
theorem vx_ofW {y : MethodName} {ws ws' : List Cond} {rm : Room} {Pc : Array Value → State → Prop} {Qc : Array Value → State → Outcome → State → Prop} {XC : String → State → State → Prop} {mc ms : Nat} {free : Addr → Prop} {cc : ByteArray} {maxL : Nat} {ret : Option FieldType}
    (hy : plainName y.cls = true) (hw : ws = Cond.code y cc maxL ret :: ws')
    (body : ∀ p e s m args below meth c s₁, BodyLoose p l y (headSpec ws rm) cc maxL ret e s m args below meth c s₁ → c.maxLocals = maxL → (∀ x ∈ c.exceptionTable.toList, False) → Pc args s →
      W p l e (headSpec ws rm).room s m args below meth c s.heap [] 0 0 (vx_MQ below Qc XC args s mc ms free) (entryFrame m args maxL)) : vx_Met l y ws rm Pc Qc XC mc ms free := by
  refine MetFree.of_bodyS (code := cc) (maxLocals := maxL) (ret := ret) hy ?_ ?_
  · intro args s m h hn
    obtain ⟨meth, c, h1, h2, h3, h4, h5, h6, -, -⟩ := Cond.code_spec hn (atoms_spec (ws := ws) h _ (by rw [hw]; exact List.mem_cons_self))
    exact ⟨meth, c, h1, h2, h3, h4, h5, h6⟩
  · intro p e s m args below meth c s₁ B hml hP _
    have hh0 : s₁.heap = s.heap := by rw [B.state]; rfl
    have ht : ∀ x ∈ c.exceptionTable.toList, False := by
      obtain ⟨meth9, c9, h1, h2, -, -, -, -, h7, -⟩ := Cond.code_spec B.named (atoms_spec (ws := ws) B.pre _ (by rw [hw]; exact List.mem_cons_self))
      cases Option.some.inj (h1.symm.trans B.method)
      cases Option.some.inj (h2.symm.trans (Stand.of_body B).code)
      intro x hx
      rw [Array.isEmpty_iff.mp h7] at hx
      cases hx
    obtain ⟨t, a1, o, b1, b2, b3⟩ := body p e s m args below meth c s₁ B hml ht hP s₁ hh0 (Stand.of_body B)
    exact ⟨t, o, a1, b1, b2, b3⟩
/-- the table of a body with handlers -/
theorem vx_table {p : Program} {x y : MethodName} {S : Spec} {cc bytes : ByteArray} {maxL maxL' : Nat} {ret ret' : Option FieldType} {e : Env} {s s₁ : State} {m : MethodId} {args : Array Value} {below : List Frame} {meth : Method} {c : Code} {hh : List (Nat × Nat × Nat × Nat)}
    (B : BodyLoose p l y S cc maxL ret e s m args below meth c s₁) (h : (Cond.codeWith y bytes maxL' ret' hh).before args s = true) : c.exceptionTable.toList = tableOf hh := by
  obtain ⟨m9, meth9, c9, hn9, h1, h2, -, -, h6, -⟩ := Cond.codeWith_spec h
  cases Option.some.inj (hn9.symm.trans B.named)
  cases Option.some.inj (h1.symm.trans B.method)
  cases Option.some.inj (h2.symm.trans (Stand.of_body B).code)
  rw [← h6, table_eq]
end Bodies
end VXA
/-! ===== END ===== -/
/-! ===== BEGIN a static call of a method with an exception table ===== -/
section VXS
variable {p : Program} {l : Launch} {e : Env} {R : Room} {s : State} {m : MethodId} {args : Array Value} {below : List Frame} {meth : Method} {c : Code} {T : State} {H : Heap} {locs : List Loc} {cells slots : Nat}
abbrev vx_CSW (R : Room) (s : State) (args : Array Value) (own : String) (index : Nat) (y : MethodName) (bytes : ByteArray) (maxL : Nat) (ret : Option FieldType) (hh : List (Nat × Nat × Nat × Nat)) (ws : List Cond) (rm : Room) (mc ms n : Nat) : Prop :=
  (rm.cells = mc ∧ rm.slots = ms ∧ rm.frames + 1 ≤ R.frames ∧ 8 + (maxL + 11) + rm.locals ≤ R.locals ∧ (∀ w ∈ ws, ∀ (a' : Array Value) (U : State), s.WarmedH U.vm → w.before a' U = true) ∧ Cond.codeWith y bytes maxL ret hh ∈ ws) ∧
  (Cond.codeWith y bytes maxL ret hh).before args s = true ∧ (Cond.initialized y.cls).before args s = true ∧ (y.cls ≠ "java/lang/invoke/MethodHandle" ∧ y.cls ≠ "java/lang/invoke/VarHandle") ∧
  (∀ sig, parseMethodDescriptor y.desc = some sig → n = sig.parameters.length) ∧ (Cond.methodLink own index y).before args s = true ∧ (Cond.static y).before args s = true
theorem vx_cwSW {own : String} {index maxL mc ms : Nat} {y : MethodName} {bytes : ByteArray} {ret : Option FieldType} {hh : List (Nat × Nat × Nat × Nat)} {Ts ws ws' : List Cond} {rm : Room} (n : Nat) (ht : ∀ w ∈ Ts, w.before args s = true) (hT : GoodIn Ts (va_wsS own index y ws)) (hw : ws = Cond.codeWith y bytes maxL ret hh :: ws') (hrc : rm.cells = mc) (hrs : rm.slots = ms)
    (hd : y.cls ≠ "java/lang/invoke/MethodHandle" ∧ y.cls ≠ "java/lang/invoke/VarHandle" ∧ (parseMethodDescriptor y.desc).map (fun d => d.parameters.length) = some n) (hR : rm.frames + 1 ≤ R.frames ∧ 8 + (maxL + 11) + rm.locals ≤ R.locals) :
    vx_CSW R s args own index y bytes maxL ret hh ws rm mc ms n := by
  have ok : ∀ w ∈ va_wsS own index y ws, w.before args s = true := fun w h => ht w (hT w h).1
  have hG : GoodIn Ts ws := fun w h => hT w (by unfold va_wsS; exact List.mem_append_right _ h)
  have hc : Cond.codeWith y bytes maxL ret hh ∈ ws := by rw [hw]; exact List.mem_cons_self
  refine ⟨⟨hrc, hrs, hR.1, hR.2, pay_in ht hG, hc⟩, ht _ (hG _ hc).1, ok _ (by simp [va_wsS]), ⟨hd.1, hd.2.1⟩, fun sig h => ?_, ok _ (by simp [va_wsS]), ok _ (by simp [va_wsS])⟩
  have h2 := hd.2.2
  rw [h] at h2
  exact (Option.some.inj h2).symm
theorem vx_callSW (X : Stand p l e R s m args below meth c T locs cells slots) (hexec : p.tables.exec = Jvm.exec) {own : String} {index : Nat} {y : MethodName} {bytes : ByteArray} {maxL : Nat} {ret : Option FieldType} {hh : List (Nat × Nat × Nat × Nat)}
    (hown : s.vm.findClass own = some m.cls) (hlink : (Cond.methodLink own index y).before args s = true) (hstat : (Cond.static y).before args s = true) (hinit : (Cond.initialized y.cls).before args s = true)
    (hcode : (Cond.codeWith y bytes maxL ret hh).before args s = true) (hy : y.cls ≠ "java/lang/invoke/MethodHandle" ∧ y.cls ≠ "java/lang/invoke/VarHandle")
    {W9 : Nat} {Pre : Pt → Array Value → Prop} {Post : Pt → Array Value → Option Value → Pt → Prop} (hK : Back l R p e below s args y 3 W9 Pre Post)
    {g : JFrame} (hg : g.method = m) (hsize : g.locals.size = c.maxLocals) {argsL rest : List Value} (hlen : ∀ sig, parseMethodDescriptor y.desc = some sig → argsL.length = sig.parameters.length)
    (hstack : g.stack = argsL.reverse ++ rest) (hW : 2 * g.monitorRoom + (rest.map fun v => v.category).sum ≤ W9) (hdg : decode c.code g.pc = .ok (.invokestatic index, 3))
    (hpre : ∀ vm₁, s.WarmedH vm₁ → Pre ⟨T.setVm vm₁, locs, cells, slots⟩ argsL.toArray) :
    ∃ (v : Option Value) (vm₁ : Vm) (B : Pt), s.WarmedH vm₁ ∧ Stand p l e R s m args below meth c B.U B.locs B.cells B.slots ∧ Post ⟨T.setVm vm₁, locs, cells, slots⟩ argsL.toArray v B ∧
      ∀ target, Steps p.tables e below (B.U.setTop { g with pc := g.pc + 3, stack := v.toList ++ rest }) target → Steps p.tables e below (T.setTop g) target := by
  obtain ⟨mk, methM, cM, hnamed, hmethM, -, -, -, -, -, -, hsigM⟩ := Cond.codeWith_spec hcode
  have hstatic : methM.isStatic = true := Cond.static_spec hnamed hmethM hstat
  obtain ⟨kP, hkP, -⟩ := className_of_methodNamed hnamed
  have hinitP : kP.init = .initialized := Cond.initialized_spec (findClass_of_methodNamed hnamed) hkP hinit
  obtain ⟨vm₁, X₁, hstep₁⟩ := X.invokestatic hexec hown hlink hnamed hmethM hstatic hkP hinitP hy (g := g) hg (argsL := argsL) (rest := rest) (hlen _ hsigM) hstack hdg
  obtain ⟨v, B, X', hpost, hsteps⟩ := hK m meth c ⟨T.setVm vm₁, locs, cells, slots⟩ { g with stack := rest } (.invokestatic index) mk argsL.toArray X₁ hg hsize hdg hW (X₁.named hnamed) (hpre vm₁ X₁.warmed)
  exact ⟨v, vm₁, B, X₁.warmed, X', hpost, fun target h => hstep₁ _ fun acts => by rw [doInvoke_state]; exact hsteps.trans h⟩
theorem vx_runSW {y : MethodName} {bytes cc : ByteArray} {maxL nL mc ms n index : Nat} {ret : Option FieldType} {hh : List (Nat × Nat × Nat × Nat)} {ws : List Cond} {rm : Room} {Pc : Array Value → State → Prop} {Qc : Array Value → State → Outcome → State → Prop} {free : Addr → Prop} {Ts : List Cond} {own : String} {As rest : List Value} {g : JFrame}
    (S : CallFix p m c cc nL s args Ts own) (hM : Met l y ws rm Pc Qc mc ms free) (cw : vx_CSW R s args own index y bytes maxL ret hh ws rm mc ms n) (hp : PreS s H Pc As)
    (hg : g.method = m) (hn : As.length = n) (hsize : g.locals.size = nL) (hstack : g.stack = As.reverse ++ rest) (hW : 2 * g.monitorRoom + (rest.map fun v => v.category).sum ≤ 8) (hdg : decode cc g.pc = .ok (.invokestatic index, 3)) (hf : cells + mc ≤ R.cells ∧ slots + ms ≤ R.slots) :
    va_Run p l e R s m args below meth c H locs cells slots mc ms g rest (Qc As.toArray) (free) := by
  obtain ⟨⟨hrc, hrs, hfr, hlo, hws, hcw⟩, hcode, hini, hy, hlen, hl, hstt⟩ := cw
  have hK : Back l R p e below s args y 3 8 (PreOf R mc ms Pc) (PostOf Qc mc ms free) := va_backW (hh := hh) (bytes := bytes) (maxL := maxL) (ret := ret) hM hp.1 hrc hrs hfr hlo hws hcw (fun a' U hW => word_at hW (Or.inl (by first | rfl | simp [Cond.onTables, Cond.keeps, Cond.steady])) hini)
  obtain ⟨hx, hb, hml, ho, -⟩ := S
  intro T hT X
  obtain ⟨v, vm₁, ⟨U', l2, c2, s2⟩, hW₁, X', ⟨g', mk, t, L, e1, e2, hq, h1, hL, h2, h3⟩, st⟩ := vx_callSW X hx (hh := hh) (bytes := bytes) (maxL := maxL) (ret := ret) ho hl hstt hini hcode hy hK hg (hsize.trans hml.symm) (argsL := As) (rest := rest) (fun sig h => hn.trans (hlen sig h)) hstack hW (by rw [hb]; exact hdg)
    (fun vm₁ hW₁ => ⟨hf.1, hf.2, hp.2 (T.setVm vm₁) hT hW₁⟩)
  dsimp only [Pt.U, Pt.locs, Pt.cells, Pt.slots] at X' e1 e2 h1 h2 h3 st
  subst h1; subst h2; subst h3
  exact ⟨v, (T.setVm vm₁).calling g' mk As.toArray, t, U', L, hT, X', hL, e1, e2, hq, st⟩
/-- not caught here, past rows that name other classes: it goes on to the caller -/
theorem vx_outP {p : Program} {l : Launch} {e : Env} {R : Room} {s : State} {m : MethodId} {args : Array Value} {below : List Frame} {meth : Method} {c : Code} {H : Heap} {locs : List Loc} {cells slots : Nat} {free : Addr → Prop} {ls : Array Slot} {rest : List Value} {Qc : Array Value → State → Outcome → State → Prop} {XC : String → State → State → Prop}
    {pc : Nat} {own E : String} {ce : Cell} {q : Addr} {mc ms : Nat} (hown : s.vm.findClass own = some m.cls) (hlocks : meth.locks = false)
    (hpass : ∀ z ∈ c.exceptionTable.toList, covers z pc = false ∨ (z.catchType ≠ 0 ∧ ∃ nm : String, (Cond.classLink own z.catchType nm).before args s = true ∧ va_Nc E nm s)) (hcell : H[q]? = some ce) (hv : ce.vm = .none) (hcl : s.vm.findClass E = some ce.cls)
    (hx : ∀ t : State, t.heap = H → s.vm.Alike t.vm → XC E s t) (hf : ∀ z ∈ locs, free z.base) (hc : cells ≤ mc) (hs : slots ≤ ms) :
    vx_W p l e R s m args below meth c H locs cells slots (vx_MQ below Qc XC args s mc ms free) (F0 m pc ls rest) q := by
  intro T hT X
  have hpl : e.platform.magicAccessors = ({} : Platform).magicAccessors := by rw [X.admits.platform]
  obtain ⟨vm', hW', X', st⟩ := X.outThrough hlocks q (g := F0 m pc ls rest) rfl rfl rfl (cell := ce) (by rw [hT]; exact hcell) (by rw [hv]; rfl)
    (by obtain ⟨k9, h9, -⟩ := Vm.findClass_spec hcl; exact ⟨k9, h9⟩) (fun z hz => by
      rcases hpass z hz with h | ⟨hz0, nm, hl1, hn1⟩
      · exact Or.inl h
      · obtain ⟨c6, hc6, hcl6⟩ := Cond.classLink_spec hown hl1 e.platform hpl
        obtain ⟨a8, b8, h1, h2, h3⟩ := hn1
        cases Option.some.inj (h1.symm.trans hcl)
        cases Option.some.inj (h2.symm.trans hc6)
        exact Or.inr ⟨hz0, _, hcl6, h3⟩)
  obtain ⟨g₀, hfr⟩ := X'.frames_eq
  have hcell9 : ((T.setVm vm').setFrames (.throwing q :: below)).heap[q]? = some ce := by
    show T.heap[q]? = some ce
    rw [hT]; exact hcell
  have hend : Ended ((T.setVm vm').setFrames (.throwing q :: below)) below (.threw q) := State.frames_setFrames _ (State.cur_lt_of_frames hfr)
  refine ⟨(T.setVm vm').setFrames (.throwing q :: below), ?_, .threw q, X'.here.running, hend, Or.inr ⟨q, rfl, E, ce, locs, hx _ hT (X'.ends _).1.alike, hcell9, hv, hcl, (X'.ends _).1, (X'.ends _).2.mono hc hs, hf⟩⟩
  rw [X.pushThrowing_eq]
  exact st
/-- a thing of a world lies in the heap -/
theorem vx_lt {D : va_G} {cl : List vw_C} {ws : va_W} {H1 : Heap} (h : va_P D cl ws H1) {k : Nat} {q : Nat × va_E} (hk : ws[k]? = some q) : q.1 < H1.size := (h k q hk).lt
end VXS
/-! ===== END ===== -/
/-! ===== BEGIN methods with a table of their own: called by a name, returning or throwing ===== -/
section VXH
/-! vx_backW, vx_callVX, vx_callSX, vx_callVW, vx_runVW, vx_runVX, vx_runSX, vx_ofWH follow the same proofs as their sisters above (Free/Laws.lean, Shelf42/LK1.lean); vx_outP calls Shelf42/NT130.lean (outThrough). -/
section
variable {l : Launch} {R : Room} {p : Program} {e : Env} {below : List Frame} {s : State} {sargs : Array Value} {y : MethodName} {len W9 : Nat}
theorem vx_backW {ws : List Cond} {rm : Room} {Pc : Array Value → State → Prop} {Qc : Array Value → State → Outcome → State → Prop} {XC : String → State → State → Prop} {mc ms : Nat} {free : Addr → Prop} {bytes : ByteArray} {maxL : Nat} {ret : Option FieldType} {hh : List (Nat × Nat × Nat × Nat)}
    (hM : vx_Met l y ws rm Pc Qc XC mc ms free) (hblind : FrameBlind Pc) (hrc : rm.cells = mc) (hrs : rm.slots = ms)
    (hframes : rm.frames + 1 ≤ R.frames) (hlocals : W9 + (maxL + 11) + rm.locals ≤ R.locals)
    (hws : ∀ w ∈ ws, ∀ a' U, s.WarmedH U.vm → w.before a' U = true) (hcode : Cond.codeWith y bytes maxL ret hh ∈ ws) (hinit : ∀ a' U, s.WarmedH U.vm → (Cond.initialized y.cls).before a' U = true) :
    vx_Back l R p e below s sargs y len W9 (PreOf R mc ms Pc) (PostOf Qc mc ms free) (vx_Post XC mc ms free) := by
  intro m meth c A g ig mk a X hg hsize hdg hW hn hp
  have h1 : (headSpec ws rm).pre.before a A.U = true := atoms_intro fun w hw => hws w hw _ _ X.warmed
  have h2 : (Cond.codeWith y bytes maxL ret hh).before a A.U = true := hws _ hcode _ _ X.warmed
  have h3 : (Cond.initialized y.cls).before a A.U = true := hinit _ _ X.warmed
  have h4 : A.cells + (headSpec ws rm).room.cells ≤ R.cells := by rw [show (headSpec ws rm).room.cells = mc from hrc]; exact hp.1
  have h5 : A.slots + (headSpec ws rm).room.slots ≤ R.slots := by rw [show (headSpec ws rm).room.slots = ms from hrs]; exact hp.2.1
  have hPc : Pc a (A.U.calling g mk a) := hblind _ _ _ _ hp.2.2
  obtain ⟨U, Ls, c0, s0⟩ := A
  dsimp only [Pt.U, Pt.locs, Pt.cells, Pt.slots] at h1 h2 h3 h4 h5 X hn hPc ⊢
  obtain ⟨m9, methY, cY, hn9, hmY, hcY, -, hlY, -⟩ := Cond.codeWith_spec h2
  cases Option.some.inj (hn9.symm.trans hn)
  obtain ⟨kY, hkY, -⟩ := className_of_methodNamed hn
  have hinitY : kY.init = .initialized := Cond.initialized_spec (findClass_of_methodNamed hn) hkY h3
  have h : At U g.method c below := by rw [hg]; exact X.here
  have hlocals9 : W9 + (maxL + 11) + (headSpec ws rm).room.locals ≤ R.locals := hlocals
  have happ : (headSpec ws rm).appliesLoose y e.platform (U.calling g mk a) = true :=
    Spec.appliesLoose_calling (g := g) h hdg hn hkY hinitY
      (X.room_calling (g := g) (R' := (headSpec ws rm).room) hsize hmY hcY hframes (by rw [hlY]; omega) h4 h5) h1
  obtain ⟨mid, hmid⟩ := h.above
  have hfr : (U.setTop g).frames = (.java g :: mid) ++ below := by rw [State.frames_setTop' g h.top, hmid]; rfl
  obtain ⟨o, s₂, hsteps, -, hend, hq⟩ := Steps.callFree hM p X.admits X.cas X.clock (acts := []) hfr happ hPc trivial
  have hq' : vx_Q Qc XC mc ms free a (U.calling g mk a) o s₂ := hq
  rw [State.frames_setTop' g h.top] at hend
  obtain ⟨g₀, hg0⟩ := Option.isSome_iff_exists.mp h.top
  obtain ⟨r, hr⟩ := State.topJava?_eq_some.mp hg0
  have hr' : (({ U with heap := s₂.heap, slotsUsed := s₂.slotsUsed } : State).setVm s₂.vm).frames = .java g₀ :: r := hr
  rcases hq' with ⟨hqc, L, hfe, hL⟩ | ⟨q, rfl, E, ce, L, hx, hce, hcv, hcl, hW₂, hsm, hL⟩
  · obtain ⟨⟨v, rfl⟩, hW₂, e2, q2, q3, q4, q5, q6⟩ := id hfe
    have e3 : s₂ = ({ (U.calling g mk a).setFrames s₂.frames with heap := s₂.heap, slotsUsed := s₂.slotsUsed } : State).setVm s₂.vm := by
      have : s₂ = ({ s₂ with vm := (U.calling g mk a).vm } : State).setVm s₂.vm := rfl
      rw [e2] at this
      exact this
    obtain ⟨c₂, i₂, len₂, hc₂, hd₂, hf₂⟩ := hend
    have hW' : U.WarmedH s₂.vm := hW₂
    have hcc : c₂ = c := by
      have h1 : s₂.code? g.method = U.code? g.method := by
        rw [State.code?_eq, State.code?_eq, hW'.alike.method?]
      exact Option.some.inj (hc₂.symm.trans (h1.trans h.code))
    subst hcc
    have hlen : len₂ = len := by rw [hdg] at hd₂; cases hd₂; rfl
    subst hlen
    have hs₂ : s₂ = (({ U with heap := s₂.heap, slotsUsed := s₂.slotsUsed } : State).setVm s₂.vm).setTop { g with pc := g.pc + len₂, stack := v.toList ++ g.stack } := by
      refine e3.trans ?_
      rw [hf₂, State.calling_eq h.top, State.setFrames_setFrames, State.setTop_of_frames _ hr', hr]
      rfl
    have hsame : U.sameButNew ({ U with heap := s₂.heap, slotsUsed := s₂.slotsUsed } : State) L mc ms := by
      refine ⟨?_, q2, q3, q4, q5, q6⟩
      obtain ⟨t, ht, -⟩ := State.frames_cons hr
      show ({ U with heap := s₂.heap, slotsUsed := s₂.slotsUsed } : State) = { U.setFrames U.frames with heap := s₂.heap, slotsUsed := s₂.slotsUsed }
      rw [State.setFrames_self ht]
    subst hg
    refine Or.inl ⟨v, ⟨(({ U with heap := s₂.heap, slotsUsed := s₂.slotsUsed } : State).setVm s₂.vm), Ls ++ L, c0 + mc, s0 + ms⟩,
      ⟨X.admits, X.cas, X.clock, X.frames, X.room, X.hears, X.method, X.code, (X.here.setHeapUsed s₂.heap s₂.slotsUsed).setVm hW'.alike, X.tail, State.WarmedH.trans X.warmed hW', X.limits, X.bytes, X.same.trans (hsame.setVm s.vm)⟩,
      ⟨g, mk, s₂, L, rfl, rfl, hqc, rfl, hL, rfl, rfl⟩, ?_⟩
    show Steps p.tables e below _ ((({ U with heap := s₂.heap, slotsUsed := s₂.slotsUsed } : State).setVm s₂.vm).setTop { g with pc := g.pc + len₂, stack := v.toList ++ g.stack })
    rw [← hs₂]
    exact hsteps
  · obtain ⟨e2, q2, q3, q4, q5, q6⟩ := id hsm
    have e3 : s₂ = ({ (U.calling g mk a).setFrames s₂.frames with heap := s₂.heap, slotsUsed := s₂.slotsUsed } : State).setVm s₂.vm := by
      have : s₂ = ({ s₂ with vm := (U.calling g mk a).vm } : State).setVm s₂.vm := rfl
      rw [e2] at this
      exact this
    have hf₂ : s₂.frames = .throwing q :: .java g :: U.frames.tail := hend
    have hW' : U.WarmedH s₂.vm := hW₂
    have hs₂ : s₂ = ((({ U with heap := s₂.heap, slotsUsed := s₂.slotsUsed } : State).setVm s₂.vm).setTop g).pushFrame (.throwing q) := by
      refine e3.trans ?_
      rw [hf₂, State.calling_eq h.top, State.setFrames_setFrames, State.pushFrame, State.frames_setTop _ hr', State.setTop_of_frames _ hr', State.setFrames_setFrames, hr]
      rfl
    have hsame : U.sameButNew ({ U with heap := s₂.heap, slotsUsed := s₂.slotsUsed } : State) L mc ms := by
      refine ⟨?_, q2, q3, q4, q5, q6⟩
      obtain ⟨t, ht, -⟩ := State.frames_cons hr
      show ({ U with heap := s₂.heap, slotsUsed := s₂.slotsUsed } : State) = { U.setFrames U.frames with heap := s₂.heap, slotsUsed := s₂.slotsUsed }
      rw [State.setFrames_self ht]
    subst hg
    refine Or.inr ⟨q, ⟨(({ U with heap := s₂.heap, slotsUsed := s₂.slotsUsed } : State).setVm s₂.vm), Ls ++ L, c0 + mc, s0 + ms⟩,
      ⟨X.admits, X.cas, X.clock, X.frames, X.room, X.hears, X.method, X.code, (X.here.setHeapUsed s₂.heap s₂.slotsUsed).setVm hW'.alike, X.tail, State.WarmedH.trans X.warmed hW', X.limits, X.bytes, X.same.trans (hsame.setVm s.vm)⟩,
      ⟨g, mk, s₂, L, E, ce, rfl, rfl, hx, hce, hcv, hcl, rfl, hL, rfl, rfl⟩, ?_⟩
    show Steps p.tables e below _ (((({ U with heap := s₂.heap, slotsUsed := s₂.slotsUsed } : State).setVm s₂.vm).setTop g).pushFrame (.throwing q))
    rw [← hs₂]
    exact hsteps
end
variable {p : Program} {l : Launch} {e : Env} {R : Room} {s : State} {m : MethodId} {args : Array Value} {below : List Frame} {meth : Method} {c : Code} {T : State} {H : Heap} {locs : List Loc} {cells slots : Nat}
theorem vx_callVX (X : Stand p l e R s m args below meth c T locs cells slots) (hexec : p.tables.exec = Jvm.exec) {own C : String} {index : Nat} {y : MethodName} {bytes : ByteArray} {maxL : Nat} {ret : Option FieldType} {hh : List (Nat × Nat × Nat × Nat)}
    (hown : s.vm.findClass own = some m.cls) (hlink : (Cond.methodLink own index y).before args s = true) (hinst : (Cond.instanceMethod y).before args s = true) (hsel : (Cond.selects C y y).before args s = true)
    (hcode : (Cond.codeWith y bytes maxL ret hh).before args s = true) (hy : y.cls ≠ "java/lang/invoke/MethodHandle" ∧ y.cls ≠ "java/lang/invoke/VarHandle")
    {W9 : Nat} {Pre : Pt → Array Value → Prop} {Post : Pt → Array Value → Option Value → Pt → Prop} {PostX : Pt → Array Value → Addr → Pt → Prop} (hK : vx_Back l R p e below s args y 3 W9 Pre Post PostX)
    {b : Addr} {cellB : Cell} (hcell : T.heap[b]? = some cellB) (hobj : cellB.vm.isStatics = false) (hcls : s.vm.findClass C = some cellB.cls)
    {g : JFrame} (hg : g.method = m) (hsize : g.locals.size = c.maxLocals) {argsL rest : List Value} (hlen : ∀ sig, parseMethodDescriptor y.desc = some sig → argsL.length = sig.parameters.length)
    (hstack : g.stack = argsL.reverse ++ .ref b :: rest) (hW : 2 * g.monitorRoom + (rest.map fun v => v.category).sum ≤ W9) (hdg : decode c.code g.pc = .ok (.invokevirtual index, 3))
    (hpre : ∀ vm₁, s.WarmedH vm₁ → Pre ⟨T.setVm vm₁, locs, cells, slots⟩ (Value.ref b :: argsL).toArray) :
    (∃ (v : Option Value) (vm₁ : Vm) (B : Pt), s.WarmedH vm₁ ∧ Stand p l e R s m args below meth c B.U B.locs B.cells B.slots ∧ Post ⟨T.setVm vm₁, locs, cells, slots⟩ (Value.ref b :: argsL).toArray v B ∧
      ∀ target, Steps p.tables e below (B.U.setTop { g with pc := g.pc + 3, stack := v.toList ++ rest }) target → Steps p.tables e below (T.setTop g) target) ∨
    (∃ (q : Addr) (vm₁ : Vm) (B : Pt), s.WarmedH vm₁ ∧ Stand p l e R s m args below meth c B.U B.locs B.cells B.slots ∧ PostX ⟨T.setVm vm₁, locs, cells, slots⟩ (Value.ref b :: argsL).toArray q B ∧
      Steps p.tables e below (T.setTop g) ((B.U.setTop { g with stack := rest }).pushFrame (.throwing q))) := by
  obtain ⟨mk, methM, hnamed, hmethM, hstM, habM⟩ := Cond.instanceMethod_spec hinst
  obtain ⟨m8, methM', cM, hn8, hmethM', -, -, -, -, -, -, hsigM⟩ := Cond.codeWith_spec hcode
  cases Option.some.inj (hn8.symm.trans hnamed)
  cases hmethM.symm.trans hmethM'
  obtain ⟨c2, r2, m2, q1, q2, q3, q4, kP, hkP, hkPi⟩ := Cond.selects_spec hsel
  cases hcls.symm.trans q1
  cases (State.methodFound?_of_named hnamed hy).symm.trans q2
  cases hnamed.symm.trans q3
  have hselP : selectMethod e.platform s.vm cellB.cls mk = .method mk := by rw [Launch.admits_selectMethod X.admits]; exact q4
  obtain ⟨vm₁, X₁, hstep₁⟩ := X.invokevirtual hexec hown hlink hnamed hmethM hstM hkP hkPi hy (a := b) (cell := cellB) hcell
    (fun z h => by rw [h] at hobj; cases hobj) hselP hmethM habM hkP hkPi (g := g) hg (argsL := argsL) (rest := rest) (hlen _ hsigM) hstack hdg
  rcases hK m meth c ⟨T.setVm vm₁, locs, cells, slots⟩ { g with stack := rest } (.invokevirtual index) mk (Value.ref b :: argsL).toArray X₁ hg hsize hdg hW (X₁.named hnamed) (hpre vm₁ X₁.warmed) with ⟨v, B, X', hpost, hsteps⟩ | ⟨q, B, X', hpost, hsteps⟩
  · exact Or.inl ⟨v, vm₁, B, X₁.warmed, X', hpost, fun target h => hstep₁ _ fun acts => by rw [doInvoke_state]; exact hsteps.trans h⟩
  · exact Or.inr ⟨q, vm₁, B, X₁.warmed, X', hpost, hstep₁ _ fun acts => by rw [doInvoke_state]; exact hsteps⟩
theorem vx_callSX (X : Stand p l e R s m args below meth c T locs cells slots) (hexec : p.tables.exec = Jvm.exec) {own : String} {index : Nat} {y : MethodName} {bytes : ByteArray} {maxL : Nat} {ret : Option FieldType} {hh : List (Nat × Nat × Nat × Nat)}
    (hown : s.vm.findClass own = some m.cls) (hlink : (Cond.methodLink own index y).before args s = true) (hstat : (Cond.static y).before args s = true) (hinit : (Cond.initialized y.cls).before args s = true)
    (hcode : (Cond.codeWith y bytes maxL ret hh).before args s = true) (hy : y.cls ≠ "java/lang/invoke/MethodHandle" ∧ y.cls ≠ "java/lang/invoke/VarHandle")
    {W9 : Nat} {Pre : Pt → Array Value → Prop} {Post : Pt → Array Value → Option Value → Pt → Prop} {PostX : Pt → Array Value → Addr → Pt → Prop} (hK : vx_Back l R p e below s args y 3 W9 Pre Post PostX)
    {g : JFrame} (hg : g.method = m) (hsize : g.locals.size = c.maxLocals) {argsL rest : List Value} (hlen : ∀ sig, parseMethodDescriptor y.desc = some sig → argsL.length = sig.parameters.length)
    (hstack : g.stack = argsL.reverse ++ rest) (hW : 2 * g.monitorRoom + (rest.map fun v => v.category).sum ≤ W9) (hdg : decode c.code g.pc = .ok (.invokestatic index, 3))
    (hpre : ∀ vm₁, s.WarmedH vm₁ → Pre ⟨T.setVm vm₁, locs, cells, slots⟩ argsL.toArray) :
    (∃ (v : Option Value) (vm₁ : Vm) (B : Pt), s.WarmedH vm₁ ∧ Stand p l e R s m args below meth c B.U B.locs B.cells B.slots ∧ Post ⟨T.setVm vm₁, locs, cells, slots⟩ argsL.toArray v B ∧
      ∀ target, Steps p.tables e below (B.U.setTop { g with pc := g.pc + 3, stack := v.toList ++ rest }) target → Steps p.tables e below (T.setTop g) target) ∨
    (∃ (q : Addr) (vm₁ : Vm) (B : Pt), s.WarmedH vm₁ ∧ Stand p l e R s m args below meth c B.U B.locs B.cells B.slots ∧ PostX ⟨T.setVm vm₁, locs, cells, slots⟩ argsL.toArray q B ∧
      Steps p.tables e below (T.setTop g) ((B.U.setTop { g with stack := rest }).pushFrame (.throwing q))) := by
  obtain ⟨mk, methM, cM, hnamed, hmethM, -, -, -, -, -, -, hsigM⟩ := Cond.codeWith_spec hcode
  have hstatic : methM.isStatic = true := Cond.static_spec hnamed hmethM hstat
  obtain ⟨kP, hkP, -⟩ := className_of_methodNamed hnamed
  have hinitP : kP.init = .initialized := Cond.initialized_spec (findClass_of_methodNamed hnamed) hkP hinit
  obtain ⟨vm₁, X₁, hstep₁⟩ := X.invokestatic hexec hown hlink hnamed hmethM hstatic hkP hinitP hy (g := g) hg (argsL := argsL) (rest := rest) (hlen _ hsigM) hstack hdg
  rcases hK m meth c ⟨T.setVm vm₁, locs, cells, slots⟩ { g with stack := rest } (.invokestatic index) mk argsL.toArray X₁ hg hsize hdg hW (X₁.named hnamed) (hpre vm₁ X₁.warmed) with ⟨v, B, X', hpost, hsteps⟩ | ⟨q, B, X', hpost, hsteps⟩
  · exact Or.inl ⟨v, vm₁, B, X₁.warmed, X', hpost, fun target h => hstep₁ _ fun acts => by rw [doInvoke_state]; exact hsteps.trans h⟩
  · exact Or.inr ⟨q, vm₁, B, X₁.warmed, X', hpost, hstep₁ _ fun acts => by rw [doInvoke_state]; exact hsteps⟩
theorem vx_callVW (X : Stand p l e R s m args below meth c T locs cells slots) (hexec : p.tables.exec = Jvm.exec) {own C : String} {index : Nat} {y : MethodName} {bytes : ByteArray} {maxL : Nat} {ret : Option FieldType} {hh : List (Nat × Nat × Nat × Nat)}
    (hown : s.vm.findClass own = some m.cls) (hlink : (Cond.methodLink own index y).before args s = true) (hinst : (Cond.instanceMethod y).before args s = true) (hsel : (Cond.selects C y y).before args s = true)
    (hcode : (Cond.codeWith y bytes maxL ret hh).before args s = true) (hy : y.cls ≠ "java/lang/invoke/MethodHandle" ∧ y.cls ≠ "java/lang/invoke/VarHandle")
    {W9 : Nat} {Pre : Pt → Array Value → Prop} {Post : Pt → Array Value → Option Value → Pt → Prop} (hK : Back l R p e below s args y 3 W9 Pre Post)
    {b : Addr} {cellB : Cell} (hcell : T.heap[b]? = some cellB) (hobj : cellB.vm.isStatics = false) (hcls : s.vm.findClass C = some cellB.cls)
    {g : JFrame} (hg : g.method = m) (hsize : g.locals.size = c.maxLocals) {argsL rest : List Value} (hlen : ∀ sig, parseMethodDescriptor y.desc = some sig → argsL.length = sig.parameters.length)
    (hstack : g.stack = argsL.reverse ++ .ref b :: rest) (hW : 2 * g.monitorRoom + (rest.map fun v => v.category).sum ≤ W9) (hdg : decode c.code g.pc = .ok (.invokevirtual index, 3))
    (hpre : ∀ vm₁, s.WarmedH vm₁ → Pre ⟨T.setVm vm₁, locs, cells, slots⟩ (Value.ref b :: argsL).toArray) :
    ∃ (v : Option Value) (vm₁ : Vm) (B : Pt), s.WarmedH vm₁ ∧ Stand p l e R s m args below meth c B.U B.locs B.cells B.slots ∧ Post ⟨T.setVm vm₁, locs, cells, slots⟩ (Value.ref b :: argsL).toArray v B ∧
      ∀ target, Steps p.tables e below (B.U.setTop { g with pc := g.pc + 3, stack := v.toList ++ rest }) target → Steps p.tables e below (T.setTop g) target := by
  obtain ⟨mk, methM, hnamed, hmethM, hstM, habM⟩ := Cond.instanceMethod_spec hinst
  obtain ⟨m8, methM', cM, hn8, hmethM', -, -, -, -, -, -, hsigM⟩ := Cond.codeWith_spec hcode
  cases Option.some.inj (hn8.symm.trans hnamed)
  cases hmethM.symm.trans hmethM'
  obtain ⟨c2, r2, m2, q1, q2, q3, q4, kP, hkP, hkPi⟩ := Cond.selects_spec hsel
  cases hcls.symm.trans q1
  cases (State.methodFound?_of_named hnamed hy).symm.trans q2
  cases hnamed.symm.trans q3
  have hselP : selectMethod e.platform s.vm cellB.cls mk = .method mk := by rw [Launch.admits_selectMethod X.admits]; exact q4
  obtain ⟨vm₁, X₁, hstep₁⟩ := X.invokevirtual hexec hown hlink hnamed hmethM hstM hkP hkPi hy (a := b) (cell := cellB) hcell
    (fun z h => by rw [h] at hobj; cases hobj) hselP hmethM habM hkP hkPi (g := g) hg (argsL := argsL) (rest := rest) (hlen _ hsigM) hstack hdg
  obtain ⟨v, B, X', hpost, hsteps⟩ := hK m meth c ⟨T.setVm vm₁, locs, cells, slots⟩ { g with stack := rest } (.invokevirtual index) mk (Value.ref b :: argsL).toArray X₁ hg hsize hdg hW (X₁.named hnamed) (hpre vm₁ X₁.warmed)
  exact ⟨v, vm₁, B, X₁.warmed, X', hpost, fun target h => hstep₁ _ fun acts => by rw [doInvoke_state]; exact hsteps.trans h⟩
abbrev vx_CVW (R : Room) (s : State) (args : Array Value) (own C : String) (index : Nat) (y : MethodName) (bytes : ByteArray) (maxL : Nat) (ret : Option FieldType) (hh : List (Nat × Nat × Nat × Nat)) (ws : List Cond) (rm : Room) (mc ms n : Nat) : Prop :=
  (rm.cells = mc ∧ rm.slots = ms ∧ rm.frames + 1 ≤ R.frames ∧ 8 + (maxL + 11) + rm.locals ≤ R.locals ∧ (∀ w ∈ ws, ∀ (a' : Array Value) (U : State), s.WarmedH U.vm → w.before a' U = true) ∧ Cond.codeWith y bytes maxL ret hh ∈ ws) ∧
  (Cond.codeWith y bytes maxL ret hh).before args s = true ∧ (Cond.initialized y.cls).before args s = true ∧ (y.cls ≠ "java/lang/invoke/MethodHandle" ∧ y.cls ≠ "java/lang/invoke/VarHandle") ∧
  (∀ sig, parseMethodDescriptor y.desc = some sig → n = sig.parameters.length) ∧ (Cond.methodLink own index y).before args s = true ∧ (Cond.instanceMethod y).before args s = true ∧ (Cond.selects C y y).before args s = true
theorem vx_cwVW {own C : String} {index maxL mc ms : Nat} {y : MethodName} {bytes : ByteArray} {ret : Option FieldType} {hh : List (Nat × Nat × Nat × Nat)} {Ts ws ws' : List Cond} {rm : Room} (n : Nat) (ht : ∀ w ∈ Ts, w.before args s = true) (hT : GoodIn Ts (wsV own index C y ws)) (hw : ws = Cond.codeWith y bytes maxL ret hh :: ws') (hrc : rm.cells = mc) (hrs : rm.slots = ms)
    (hd : y.cls = C ∧ y.cls ≠ "java/lang/invoke/MethodHandle" ∧ y.cls ≠ "java/lang/invoke/VarHandle" ∧ (parseMethodDescriptor y.desc).map (fun d => d.parameters.length) = some n) (hR : rm.frames + 1 ≤ R.frames ∧ 8 + (maxL + 11) + rm.locals ≤ R.locals) :
    vx_CVW R s args own C index y bytes maxL ret hh ws rm mc ms n := by
  obtain ⟨hC, hd⟩ := hd
  subst hC
  have ok : ∀ w ∈ wsV own index y.cls y ws, w.before args s = true := fun w h => ht w (hT w h).1
  have hG : GoodIn Ts ws := fun w h => hT w (by unfold wsV; exact List.mem_append_right _ h)
  have hc : Cond.codeWith y bytes maxL ret hh ∈ ws := by rw [hw]; exact List.mem_cons_self
  refine ⟨⟨hrc, hrs, hR.1, hR.2, pay_in ht hG, hc⟩, ht _ (hG _ hc).1, ok _ (by simp [wsV]), ⟨hd.1, hd.2.1⟩, fun sig h => ?_, ok _ (by simp [wsV]), ok _ (by simp [wsV]), ok _ (by simp [wsV])⟩
  have h2 := hd.2.2
  rw [h] at h2
  exact (Option.some.inj h2).symm
theorem vx_runVW {y : MethodName} {bytes cc : ByteArray} {maxL nL mc ms n index : Nat} {ret : Option FieldType} {hh : List (Nat × Nat × Nat × Nat)} {ws : List Cond} {rm : Room} {Pc : Array Value → State → Prop} {Qc : Array Value → State → Outcome → State → Prop} {free : Addr → Prop} {Ts : List Cond} {own C : String} {b : Addr} {As rest : List Value} {g : JFrame}
    (S : CallFix p m c cc nL s args Ts own) (hM : Met l y ws rm Pc Qc mc ms free) (cw : vx_CVW R s args own C index y bytes maxL ret hh ws rm mc ms n) (hp : PreV s H C b Pc As)
    (hg : g.method = m) (hn : As.length = n) (hsize : g.locals.size = nL) (hstack : g.stack = As.reverse ++ .ref b :: rest) (hW : 2 * g.monitorRoom + (rest.map fun v => v.category).sum ≤ 8) (hdg : decode cc g.pc = .ok (.invokevirtual index, 3)) (hf : cells + mc ≤ R.cells ∧ slots + ms ≤ R.slots) :
    va_Run p l e R s m args below meth c H locs cells slots mc ms g rest (Qc (Value.ref b :: As).toArray) free := by
  obtain ⟨⟨hrc, hrs, hfr, hlo, hws, hcw⟩, hcode, hini, hy, hlen, hl, hin, hse⟩ := cw
  have hK : Back l R p e below s args y 3 8 (PreOf R mc ms Pc) (PostOf Qc mc ms free) := va_backW (hh := hh) (bytes := bytes) (maxL := maxL) (ret := ret) hM hp.1 hrc hrs hfr hlo hws hcw (fun a' U hW => word_at hW (Or.inl (by first | rfl | simp [Cond.onTables, Cond.keeps, Cond.steady])) hini)
  obtain ⟨hx, hb, hml, ho, -⟩ := S
  obtain ⟨-, ⟨cellB, hcB, hoB, hclB⟩, hPc⟩ := hp
  intro T hT X
  obtain ⟨v, vm₁, ⟨U', l2, c2, s2⟩, hW₁, X', ⟨g', mk, t, L, e1, e2, hq, h1, hL, h2, h3⟩, st⟩ := vx_callVW X hx (C := C) (hh := hh) (bytes := bytes) (maxL := maxL) (ret := ret) ho hl hin hse hcode hy hK (by rw [hT]; exact hcB) hoB hclB hg (hsize.trans hml.symm) (argsL := As) (rest := rest) (fun sig h => hn.trans (hlen sig h)) hstack hW (by rw [hb]; exact hdg)
    (fun vm₁ hW₁ => ⟨hf.1, hf.2, hPc (T.setVm vm₁) hT hW₁⟩)
  dsimp only [Pt.U, Pt.locs, Pt.cells, Pt.slots] at X' e1 e2 h1 h2 h3 st
  subst h1; subst h2; subst h3
  exact ⟨v, (T.setVm vm₁).calling g' mk (Value.ref b :: As).toArray, t, U', L, hT, X', hL, e1, e2, hq, st⟩
section
variable {y : MethodName} {bytes cc : ByteArray} {maxL nL mc ms n index : Nat} {ret : Option FieldType} {ws : List Cond} {rm : Room} {Pc : Array Value → State → Prop} {Qc : Array Value → State → Outcome → State → Prop} {XC : String → State → State → Prop} {free : Addr → Prop} {Ts : List Cond} {own C : String} {b : Addr} {As rest : List Value} {g : JFrame}
theorem vx_runVX {hh : List (Nat × Nat × Nat × Nat)} (S : CallFix p m c cc nL s args Ts own) (hM : vx_Met l y ws rm Pc Qc XC mc ms free) (cw : vx_CVW R s args own C index y bytes maxL ret hh ws rm mc ms n) (hp : PreV s H C b Pc As)
    (hg : g.method = m) (hn : As.length = n) (hsize : g.locals.size = nL) (hstack : g.stack = As.reverse ++ .ref b :: rest) (hW : 2 * g.monitorRoom + (rest.map fun v => v.category).sum ≤ 8) (hdg : decode cc g.pc = .ok (.invokevirtual index, 3)) (hf : cells + mc ≤ R.cells ∧ slots + ms ≤ R.slots) :
    vx_Run p l e R s m args below meth c H locs cells slots mc ms g rest (Qc (Value.ref b :: As).toArray) XC free := by
  obtain ⟨⟨hrc, hrs, hfr, hlo, hws, hcw⟩, hcode, hini, hy, hlen, hl, hin, hse⟩ := cw
  have hK : vx_Back l R p e below s args y 3 8 (PreOf R mc ms Pc) (PostOf Qc mc ms free) (vx_Post XC mc ms free) := vx_backW (hh := hh) (bytes := bytes) (maxL := maxL) (ret := ret) hM hp.1 hrc hrs hfr hlo hws hcw (fun a' U hW => word_at hW (Or.inl (by first | rfl | simp [Cond.onTables, Cond.keeps, Cond.steady])) hini)
  obtain ⟨hx, hb, hml, ho, -⟩ := S
  obtain ⟨-, ⟨cellB, hcB, hoB, hclB⟩, hPc⟩ := hp
  intro T hT X
  rcases vx_callVX X hx (C := C) (hh := hh) (bytes := bytes) (maxL := maxL) (ret := ret) ho hl hin hse hcode hy hK (by rw [hT]; exact hcB) hoB hclB hg (hsize.trans hml.symm) (argsL := As) (rest := rest) (fun sig h => hn.trans (hlen sig h)) hstack hW (by rw [hb]; exact hdg)
    (fun vm₁ hW₁ => ⟨hf.1, hf.2, hPc (T.setVm vm₁) hT hW₁⟩) with ⟨v, vm₁, ⟨U', l2, c2, s2⟩, hW₁, X', ⟨g', mk, t, L, e1, e2, hq, h1, hL, h2, h3⟩, st⟩ | ⟨q, vm₁, ⟨U', l2, c2, s2⟩, hW₁, X', ⟨g', mk, t, L, E, ce, e1, e2, hq, hce, hcv, hcl, h1, hL, h2, h3⟩, st⟩
  · dsimp only [Pt.U, Pt.locs, Pt.cells, Pt.slots] at X' e1 e2 h1 h2 h3 st
    subst h1; subst h2; subst h3
    exact Or.inl ⟨v, (T.setVm vm₁).calling g' mk (Value.ref b :: As).toArray, t, U', L, hT, X', hL, e1, e2, hq, st⟩
  · dsimp only [Pt.U, Pt.locs, Pt.cells, Pt.slots] at X' e1 e2 h1 h2 h3 st hcl
    subst h1; subst h2; subst h3
    exact Or.inr ⟨q, (T.setVm vm₁).calling g' mk (Value.ref b :: As).toArray, t, U', L, E, ce, hT, X', hL, e1, e2, hq, hce, hcv, vx_cls hW₁ hcl, st⟩
theorem vx_runSX {hh : List (Nat × Nat × Nat × Nat)} (S : CallFix p m c cc nL s args Ts own) (hM : vx_Met l y ws rm Pc Qc XC mc ms free) (cw : vx_CSW R s args own index y bytes maxL ret hh ws rm mc ms n) (hp : PreS s H Pc As)
    (hg : g.method = m) (hn : As.length = n) (hsize : g.locals.size = nL) (hstack : g.stack = As.reverse ++ rest) (hW : 2 * g.monitorRoom + (rest.map fun v => v.category).sum ≤ 8) (hdg : decode cc g.pc = .ok (.invokestatic index, 3)) (hf : cells + mc ≤ R.cells ∧ slots + ms ≤ R.slots) :
    vx_Run p l e R s m args below meth c H locs cells slots mc ms g rest (Qc As.toArray) XC free := by
  obtain ⟨⟨hrc, hrs, hfr, hlo, hws, hcw⟩, hcode, hini, hy, hlen, hl, hstt⟩ := cw
  have hK : vx_Back l R p e below s args y 3 8 (PreOf R mc ms Pc) (PostOf Qc mc ms free) (vx_Post XC mc ms free) := vx_backW (hh := hh) (bytes := bytes) (maxL := maxL) (ret := ret) hM hp.1 hrc hrs hfr hlo hws hcw (fun a' U hW => word_at hW (Or.inl (by first | rfl | simp [Cond.onTables, Cond.keeps, Cond.steady])) hini)
  obtain ⟨hx, hb, hml, ho, -⟩ := S
  intro T hT X
  rcases vx_callSX X hx (hh := hh) (bytes := bytes) (maxL := maxL) (ret := ret) ho hl hstt hini hcode hy hK hg (hsize.trans hml.symm) (argsL := As) (rest := rest) (fun sig h => hn.trans (hlen sig h)) hstack hW (by rw [hb]; exact hdg)
    (fun vm₁ hW₁ => ⟨hf.1, hf.2, hp.2 (T.setVm vm₁) hT hW₁⟩) with ⟨v, vm₁, ⟨U', l2, c2, s2⟩, hW₁, X', ⟨g', mk, t, L, e1, e2, hq, h1, hL, h2, h3⟩, st⟩ | ⟨q, vm₁, ⟨U', l2, c2, s2⟩, hW₁, X', ⟨g', mk, t, L, E, ce, e1, e2, hq, hce, hcv, hcl, h1, hL, h2, h3⟩, st⟩
  · dsimp only [Pt.U, Pt.locs, Pt.cells, Pt.slots] at X' e1 e2 h1 h2 h3 st
    subst h1; subst h2; subst h3
    exact Or.inl ⟨v, (T.setVm vm₁).calling g' mk As.toArray, t, U', L, hT, X', hL, e1, e2, hq, st⟩
  · dsimp only [Pt.U, Pt.locs, Pt.cells, Pt.slots] at X' e1 e2 h1 h2 h3 st hcl
    subst h1; subst h2; subst h3
    exact Or.inr ⟨q, (T.setVm vm₁).calling g' mk As.toArray, t, U', L, E, ce, hT, X', hL, e1, e2, hq, hce, hcv, vx_cls hW₁ hcl, st⟩
end
end VXH
theorem vx_ofWH {l : Launch} {y : MethodName} {ws ws' : List Cond} {rm : Room} {Pc : Array Value → State → Prop} {Qc : Array Value → State → Outcome → State → Prop} {XC : String → State → State → Prop} {mc ms : Nat} {free : Addr → Prop} {cc : ByteArray} {maxL : Nat} {ret : Option FieldType} {hh : List (Nat × Nat × Nat × Nat)}
    (hy : plainName y.cls = true) (hw : ws = Cond.codeWith y cc maxL ret hh :: ws')
    (body : ∀ p e s m args below meth c s₁, BodyLoose p l y (headSpec ws rm) cc maxL ret e s m args below meth c s₁ → c.maxLocals = maxL → Pc args s →
      W p l e (headSpec ws rm).room s m args below meth c s.heap [] 0 0 (vx_MQ below Qc XC args s mc ms free) (entryFrame m args maxL)) : vx_Met l y ws rm Pc Qc XC mc ms free := by
  refine MetFree.of_bodyS (code := cc) (maxLocals := maxL) (ret := ret) hy ?_ ?_
  · intro args s m h hn
    obtain ⟨m9, meth, c, hn9, h1, h2, h3, h4, -, h5, h6, -⟩ := Cond.codeWith_spec (atoms_spec (ws := ws) h _ (by rw [hw]; exact List.mem_cons_self))
    cases hn.symm.trans hn9
    exact ⟨meth, c, h1, h2, h3, h4, h5, h6⟩
  · intro p e s m args below meth c s₁ B hml hP _
    have hh0 : s₁.heap = s.heap := by rw [B.state]; rfl
    obtain ⟨t, a1, o, b1, b2, b3⟩ := body p e s m args below meth c s₁ B hml hP s₁ hh0 (Stand.of_body B)
    exact ⟨t, o, a1, b1, b2, b3⟩
/-! ===== END ===== -/
end
section
/-! Names of the classes and methods, by my own program out of the claim's tables. -/
def R_BS : String := "SpillQueue$BlockSet"
def R_DK : String := "SpillQueue$Disk"
def R_ME : String := "SpillQueue$Memory"
def R_RU : String := "SpillQueue$Runs"
def R_SB : String := "SpillQueue$Superblocks"
def R_SQ : String := "SpillQueue"
def R_MO : String := "SpillQueueModel"
def R_KE : String := "SpillQueue$Keys"
def R_AR : String := "java/util/Arrays"
def R_LA : String := "SpillQueueLaw"
def T_BS : u_T := fun k => match k with
  | _ => ("SpillQueue$BlockSet", "in", "[Z", true)
def ty_BS : Nat → FieldType := fun k => match k with
  | _ => .array .boolean
theorem nm_BS : ∀ a, a < 1 → ∀ b, b < 1 → a ≠ b → (T_BS a).2.1 ≠ (T_BS b).2.1 := by decide +kernel
theorem tyok_BS : ∀ k, k < 1 → parseFieldDescriptor (T_BS k).2.2.1 = some (ty_BS k) := by decide +kernel
def T_DK : u_T := fun k => match k with
  | 0 => ("SpillQueue$Disk", "cells", "[I", true)
  | 1 => ("SpillQueue$Disk", "row", "[I", true)
  | 2 => ("SpillQueue$Disk", "blocks", "I", false)
  | 3 => ("SpillQueue$Disk", "words", "I", false)
  | 4 => ("SpillQueue$Disk", "writes", "I", false)
  | _ => ("SpillQueue$Disk", "cutIn", "I", false)
def ty_DK : Nat → FieldType := fun k => match k with
  | 0 => .array .int
  | 1 => .array .int
  | 2 => .int
  | 3 => .int
  | 4 => .int
  | _ => .int
theorem nm_DK : ∀ a, a < 6 → ∀ b, b < 6 → a ≠ b → (T_DK a).2.1 ≠ (T_DK b).2.1 := by decide +kernel
theorem tyok_DK : ∀ k, k < 6 → parseFieldDescriptor (T_DK k).2.2.1 = some (ty_DK k) := by decide +kernel
def T_ME : u_T := fun k => match k with
  | 0 => ("SpillQueue$Memory", "keys", "[I", true)
  | 1 => ("SpillQueue$Memory", "count", "I", false)
  | _ => ("SpillQueue$Memory", "most", "I", false)
def ty_ME : Nat → FieldType := fun k => match k with
  | 0 => .array .int
  | 1 => .int
  | _ => .int
theorem nm_ME : ∀ a, a < 3 → ∀ b, b < 3 → a ≠ b → (T_ME a).2.1 ≠ (T_ME b).2.1 := by decide +kernel
theorem tyok_ME : ∀ k, k < 3 → parseFieldDescriptor (T_ME k).2.2.1 = some (ty_ME k) := by decide +kernel
def T_RU : u_T := fun k => match k with
  | 0 => ("SpillQueue$Runs", "disk", "LSpillQueue$Disk;", true)
  | 1 => ("SpillQueue$Runs", "first", "[I", true)
  | 2 => ("SpillQueue$Runs", "begin", "[I", true)
  | 3 => ("SpillQueue$Runs", "count", "[I", true)
  | 4 => ("SpillQueue$Runs", "level", "[I", true)
  | 5 => ("SpillQueue$Runs", "head", "[I", true)
  | 6 => ("SpillQueue$Runs", "chosen", "[Z", true)
  | _ => ("SpillQueue$Runs", "number", "I", false)
def ty_RU : Nat → FieldType := fun k => match k with
  | 0 => .object "SpillQueue$Disk"
  | 1 => .array .int
  | 2 => .array .int
  | 3 => .array .int
  | 4 => .array .int
  | 5 => .array .int
  | 6 => .array .boolean
  | _ => .int
theorem nm_RU : ∀ a, a < 8 → ∀ b, b < 8 → a ≠ b → (T_RU a).2.1 ≠ (T_RU b).2.1 := by decide +kernel
theorem tyok_RU : ∀ k, k < 8 → parseFieldDescriptor (T_RU k).2.2.1 = some (ty_RU k) := by decide +kernel
def T_SB : u_T := fun k => match k with
  | 0 => ("SpillQueue$Superblocks", "disk", "LSpillQueue$Disk;", true)
  | _ => ("SpillQueue$Superblocks", "seen", "LSpillQueue$BlockSet;", true)
def ty_SB : Nat → FieldType := fun k => match k with
  | 0 => .object "SpillQueue$Disk"
  | _ => .object "SpillQueue$BlockSet"
theorem nm_SB : ∀ a, a < 2 → ∀ b, b < 2 → a ≠ b → (T_SB a).2.1 ≠ (T_SB b).2.1 := by decide +kernel
theorem tyok_SB : ∀ k, k < 2 → parseFieldDescriptor (T_SB k).2.2.1 = some (ty_SB k) := by decide +kernel
def T_SQ : u_T := fun k => match k with
  | 0 => ("SpillQueue", "disk", "LSpillQueue$Disk;", true)
  | 1 => ("SpillQueue", "memory", "LSpillQueue$Memory;", true)
  | 2 => ("SpillQueue", "runs", "LSpillQueue$Runs;", true)
  | 3 => ("SpillQueue", "superblocks", "LSpillQueue$Superblocks;", true)
  | 4 => ("SpillQueue", "synced", "LSpillQueue$BlockSet;", true)
  | 5 => ("SpillQueue", "used", "LSpillQueue$BlockSet;", true)
  | 6 => ("SpillQueue", "free", "[I", true)
  | 7 => ("SpillQueue", "fan", "I", false)
  | 8 => ("SpillQueue", "epoch", "I", false)
  | _ => ("SpillQueue", "live", "Z", false)
def ty_SQ : Nat → FieldType := fun k => match k with
  | 0 => .object "SpillQueue$Disk"
  | 1 => .object "SpillQueue$Memory"
  | 2 => .object "SpillQueue$Runs"
  | 3 => .object "SpillQueue$Superblocks"
  | 4 => .object "SpillQueue$BlockSet"
  | 5 => .object "SpillQueue$BlockSet"
  | 6 => .array .int
  | 7 => .int
  | 8 => .int
  | _ => .boolean
theorem nm_SQ : ∀ a, a < 10 → ∀ b, b < 10 → a ≠ b → (T_SQ a).2.1 ≠ (T_SQ b).2.1 := by decide +kernel
theorem tyok_SQ : ∀ k, k < 10 → parseFieldDescriptor (T_SQ k).2.2.1 = some (ty_SQ k) := by decide +kernel
def T_MO : u_T := fun k => match k with
  | 0 => ("SpillQueueModel", "thrown", "I", false)
  | 1 => ("SpillQueueModel", "isDisk", "Z", false)
  | 2 => ("SpillQueueModel", "blocks", "I", false)
  | 3 => ("SpillQueueModel", "words", "I", false)
  | 4 => ("SpillQueueModel", "mem", "I", false)
  | 5 => ("SpillQueueModel", "fan", "I", false)
  | 6 => ("SpillQueueModel", "disk", "[I", true)
  | 7 => ("SpillQueueModel", "writes", "I", false)
  | 8 => ("SpillQueueModel", "left", "I", false)
  | 9 => ("SpillQueueModel", "live", "Z", false)
  | 10 => ("SpillQueueModel", "off", "Z", false)
  | 11 => ("SpillQueueModel", "memory", "I", false)
  | 12 => ("SpillQueueModel", "keys", "[I", true)
  | 13 => ("SpillQueueModel", "epoch", "I", false)
  | 14 => ("SpillQueueModel", "runs", "I", false)
  | 15 => ("SpillQueueModel", "first", "[I", true)
  | 16 => ("SpillQueueModel", "begin", "[I", true)
  | 17 => ("SpillQueueModel", "count", "[I", true)
  | 18 => ("SpillQueueModel", "level", "[I", true)
  | 19 => ("SpillQueueModel", "synced", "[Z", true)
  | 20 => ("SpillQueueModel", "taken", "[Z", true)
  | 21 => ("SpillQueueModel", "row", "[I", true)
  | 22 => ("SpillQueueModel", "chosen", "[I", true)
  | 23 => ("SpillQueueModel", "atBlock", "[I", true)
  | 24 => ("SpillQueueModel", "atPlace", "[I", true)
  | 25 => ("SpillQueueModel", "keysLeft", "[I", true)
  | _ => ("SpillQueueModel", "merged", "[Z", true)
def ty_MO : Nat → FieldType := fun k => match k with
  | 0 => .int
  | 1 => .boolean
  | 2 => .int
  | 3 => .int
  | 4 => .int
  | 5 => .int
  | 6 => .array .int
  | 7 => .int
  | 8 => .int
  | 9 => .boolean
  | 10 => .boolean
  | 11 => .int
  | 12 => .array .int
  | 13 => .int
  | 14 => .int
  | 15 => .array .int
  | 16 => .array .int
  | 17 => .array .int
  | 18 => .array .int
  | 19 => .array .boolean
  | 20 => .array .boolean
  | 21 => .array .int
  | 22 => .array .int
  | 23 => .array .int
  | 24 => .array .int
  | 25 => .array .int
  | _ => .array .boolean
theorem nm_MO : ∀ a, a < 27 → ∀ b, b < 27 → a ≠ b → (T_MO a).2.1 ≠ (T_MO b).2.1 := by decide +kernel
theorem tyok_MO : ∀ k, k < 27 → parseFieldDescriptor (T_MO k).2.2.1 = some (ty_MO k) := by decide +kernel
abbrev vwCl : List vw_C := [(R_BS, T_BS, 1), (R_DK, T_DK, 6), (R_ME, T_ME, 3), (R_RU, T_RU, 8), (R_SB, T_SB, 2), (R_SQ, T_SQ, 10), (R_MO, T_MO, 27)]
def gTs : List Cond := lw_tbl.filter goodWord
def gNok : Cond → Bool
  | .fieldLinkNest .. => true
  | .methodLinkNest .. => true
  | .declares .. => true
  | _ => false
def gNl : List Cond := lw_tbl.filter gNok
theorem gt {w : Cond} (i : Nat) (h : lw_tbl[i]? = some w) (hg : goodWord w = true) : w ∈ gTs := List.mem_filter.mpr ⟨List.mem_of_getElem? h, hg⟩
theorem gn {w : Cond} (i : Nat) (h : lw_tbl[i]? = some w) (hg : gNok w = true) : w ∈ gNl := List.mem_filter.mpr ⟨List.mem_of_getElem? h, hg⟩
theorem gTs_good : ∀ w ∈ gTs, ((w.onTables && w.keeps) = true ∨ ∃ ty, w = .arrayClass ty) := fun w h => good_of_word (List.mem_filter.mp h).2
theorem gNl_ok : ∀ w ∈ gNl, gNok w = true := fun w h => (List.mem_filter.mp h).2
theorem iw_BS : ∀ w ∈ u_ws R_BS T_BS 1, w ∈ gTs := by
  intro w h
  simp only [u_ws, List.mem_map, List.mem_range] at h
  obtain ⟨k, hk, rfl⟩ := h
  match k, hk with
  | 0, _ => exact gt 217 (by decide +kernel) (by decide +kernel)
  | k + 1, hk => exact absurd hk (by omega)
theorem iw_DK : ∀ w ∈ u_ws R_DK T_DK 6, w ∈ gTs := by
  intro w h
  simp only [u_ws, List.mem_map, List.mem_range] at h
  obtain ⟨k, hk, rfl⟩ := h
  match k, hk with
  | 0, _ => exact gt 128 (by decide +kernel) (by decide +kernel)
  | 1, _ => exact gt 130 (by decide +kernel) (by decide +kernel)
  | 2, _ => exact gt 132 (by decide +kernel) (by decide +kernel)
  | 3, _ => exact gt 134 (by decide +kernel) (by decide +kernel)
  | 4, _ => exact gt 136 (by decide +kernel) (by decide +kernel)
  | 5, _ => exact gt 138 (by decide +kernel) (by decide +kernel)
  | k + 6, hk => exact absurd hk (by omega)
theorem iw_ME : ∀ w ∈ u_ws R_ME T_ME 3, w ∈ gTs := by
  intro w h
  simp only [u_ws, List.mem_map, List.mem_range] at h
  obtain ⟨k, hk, rfl⟩ := h
  match k, hk with
  | 0, _ => exact gt 155 (by decide +kernel) (by decide +kernel)
  | 1, _ => exact gt 157 (by decide +kernel) (by decide +kernel)
  | 2, _ => exact gt 159 (by decide +kernel) (by decide +kernel)
  | k + 3, hk => exact absurd hk (by omega)
theorem iw_RU : ∀ w ∈ u_ws R_RU T_RU 8, w ∈ gTs := by
  intro w h
  simp only [u_ws, List.mem_map, List.mem_range] at h
  obtain ⟨k, hk, rfl⟩ := h
  match k, hk with
  | 0, _ => exact gt 186 (by decide +kernel) (by decide +kernel)
  | 1, _ => exact gt 188 (by decide +kernel) (by decide +kernel)
  | 2, _ => exact gt 190 (by decide +kernel) (by decide +kernel)
  | 3, _ => exact gt 192 (by decide +kernel) (by decide +kernel)
  | 4, _ => exact gt 194 (by decide +kernel) (by decide +kernel)
  | 5, _ => exact gt 196 (by decide +kernel) (by decide +kernel)
  | 6, _ => exact gt 198 (by decide +kernel) (by decide +kernel)
  | 7, _ => exact gt 200 (by decide +kernel) (by decide +kernel)
  | k + 8, hk => exact absurd hk (by omega)
theorem iw_SB : ∀ w ∈ u_ws R_SB T_SB 2, w ∈ gTs := by
  intro w h
  simp only [u_ws, List.mem_map, List.mem_range] at h
  obtain ⟨k, hk, rfl⟩ := h
  match k, hk with
  | 0, _ => exact gt 222 (by decide +kernel) (by decide +kernel)
  | 1, _ => exact gt 224 (by decide +kernel) (by decide +kernel)
  | k + 2, hk => exact absurd hk (by omega)
theorem iw_SQ : ∀ w ∈ u_ws R_SQ T_SQ 10, w ∈ gTs := by
  intro w h
  simp only [u_ws, List.mem_map, List.mem_range] at h
  obtain ⟨k, hk, rfl⟩ := h
  match k, hk with
  | 0, _ => exact gt 239 (by decide +kernel) (by decide +kernel)
  | 1, _ => exact gt 241 (by decide +kernel) (by decide +kernel)
  | 2, _ => exact gt 243 (by decide +kernel) (by decide +kernel)
  | 3, _ => exact gt 245 (by decide +kernel) (by decide +kernel)
  | 4, _ => exact gt 247 (by decide +kernel) (by decide +kernel)
  | 5, _ => exact gt 249 (by decide +kernel) (by decide +kernel)
  | 6, _ => exact gt 251 (by decide +kernel) (by decide +kernel)
  | 7, _ => exact gt 253 (by decide +kernel) (by decide +kernel)
  | 8, _ => exact gt 255 (by decide +kernel) (by decide +kernel)
  | 9, _ => exact gt 257 (by decide +kernel) (by decide +kernel)
  | k + 10, hk => exact absurd hk (by omega)
theorem iw_MO : ∀ w ∈ u_ws R_MO T_MO 27, w ∈ gTs := by
  intro w h
  simp only [u_ws, List.mem_map, List.mem_range] at h
  obtain ⟨k, hk, rfl⟩ := h
  match k, hk with
  | 0, _ => exact gt 758 (by decide +kernel) (by decide +kernel)
  | 1, _ => exact gt 760 (by decide +kernel) (by decide +kernel)
  | 2, _ => exact gt 762 (by decide +kernel) (by decide +kernel)
  | 3, _ => exact gt 764 (by decide +kernel) (by decide +kernel)
  | 4, _ => exact gt 766 (by decide +kernel) (by decide +kernel)
  | 5, _ => exact gt 768 (by decide +kernel) (by decide +kernel)
  | 6, _ => exact gt 770 (by decide +kernel) (by decide +kernel)
  | 7, _ => exact gt 772 (by decide +kernel) (by decide +kernel)
  | 8, _ => exact gt 774 (by decide +kernel) (by decide +kernel)
  | 9, _ => exact gt 776 (by decide +kernel) (by decide +kernel)
  | 10, _ => exact gt 778 (by decide +kernel) (by decide +kernel)
  | 11, _ => exact gt 780 (by decide +kernel) (by decide +kernel)
  | 12, _ => exact gt 782 (by decide +kernel) (by decide +kernel)
  | 13, _ => exact gt 784 (by decide +kernel) (by decide +kernel)
  | 14, _ => exact gt 786 (by decide +kernel) (by decide +kernel)
  | 15, _ => exact gt 788 (by decide +kernel) (by decide +kernel)
  | 16, _ => exact gt 790 (by decide +kernel) (by decide +kernel)
  | 17, _ => exact gt 792 (by decide +kernel) (by decide +kernel)
  | 18, _ => exact gt 794 (by decide +kernel) (by decide +kernel)
  | 19, _ => exact gt 796 (by decide +kernel) (by decide +kernel)
  | 20, _ => exact gt 798 (by decide +kernel) (by decide +kernel)
  | 21, _ => exact gt 800 (by decide +kernel) (by decide +kernel)
  | 22, _ => exact gt 802 (by decide +kernel) (by decide +kernel)
  | 23, _ => exact gt 804 (by decide +kernel) (by decide +kernel)
  | 24, _ => exact gt 806 (by decide +kernel) (by decide +kernel)
  | 25, _ => exact gt 808 (by decide +kernel) (by decide +kernel)
  | 26, _ => exact gt 810 (by decide +kernel) (by decide +kernel)
  | k + 27, hk => exact absurd hk (by omega)
/-- what a call asks of the callee's words -/
def gCb (y : MethodName) (C0 : String) (bytes : ByteArray) (maxL : Nat) (ret : Option FieldType) (n : Nat) : Prop := (Cond.instanceMethod y ∈ gTs ∧ Cond.selects C0 y y ∈ gTs ∧ Cond.initialized y.cls ∈ gTs ∧ Cond.code y bytes maxL ret ∈ gTs) ∧ (y.cls ≠ "java/lang/invoke/MethodHandle" ∧ y.cls ≠ "java/lang/invoke/VarHandle" ∧ (parseMethodDescriptor y.desc).map (fun d => d.parameters.length) = some n)
def gSb (y : MethodName) (bytes : ByteArray) (maxL : Nat) (ret : Option FieldType) (n : Nat) : Prop := (Cond.static y ∈ gTs ∧ Cond.initialized y.cls ∈ gTs ∧ Cond.code y bytes maxL ret ∈ gTs) ∧ (y.cls ≠ "java/lang/invoke/MethodHandle" ∧ y.cls ≠ "java/lang/invoke/VarHandle" ∧ (parseMethodDescriptor y.desc).map (fun d => d.parameters.length) = some n)
abbrev b_BS_init : ByteArray := prog_2_method_1_code
def y_BS_init : MethodName := ⟨R_BS, "<init>", "()V"⟩
abbrev b_BS_clear : ByteArray := prog_2_method_2_code
def y_BS_clear : MethodName := ⟨R_BS, "clear", "()V"⟩
set_option maxRecDepth 20000 in
theorem cb_BS_clear : gCb y_BS_clear R_BS b_BS_clear 2 none 0 := ⟨⟨gt 365 (by decide +kernel) rfl, gt 5 (by decide +kernel) rfl, gt 93 (by decide +kernel) rfl, gt 366 rfl rfl⟩, by decide +kernel⟩
abbrev b_BS_copyOf : ByteArray := prog_2_method_3_code
def y_BS_copyOf : MethodName := ⟨R_BS, "copyOf", "(LSpillQueue$BlockSet;)V"⟩
set_option maxRecDepth 20000 in
theorem cb_BS_copyOf : gCb y_BS_copyOf R_BS b_BS_copyOf 3 none 1 := ⟨⟨gt 490 (by decide +kernel) rfl, gt 26 (by decide +kernel) rfl, gt 93 (by decide +kernel) rfl, gt 491 rfl rfl⟩, by decide +kernel⟩
abbrev b_BS_add : ByteArray := prog_2_method_4_code
def y_BS_add : MethodName := ⟨R_BS, "add", "(I)V"⟩
set_option maxRecDepth 20000 in
theorem cb_BS_add : gCb y_BS_add R_BS b_BS_add 2 none 1 := ⟨⟨gt 407 (by decide +kernel) rfl, gt 14 (by decide +kernel) rfl, gt 93 (by decide +kernel) rfl, gt 408 rfl rfl⟩, by decide +kernel⟩
abbrev b_BS_has : ByteArray := prog_2_method_5_code
def y_BS_has : MethodName := ⟨R_BS, "has", "(I)Z"⟩
set_option maxRecDepth 20000 in
theorem cb_BS_has : gCb y_BS_has R_BS b_BS_has 2 (some .boolean) 1 := ⟨⟨gt 494 (by decide +kernel) rfl, gt 27 (by decide +kernel) rfl, gt 93 (by decide +kernel) rfl, gt 495 rfl rfl⟩, by decide +kernel⟩
abbrev b_DK_init : ByteArray := prog_3_method_1_code
def y_DK_init : MethodName := ⟨R_DK, "<init>", "()V"⟩
abbrev b_DK_renew : ByteArray := prog_3_method_2_code
def y_DK_renew : MethodName := ⟨R_DK, "renew", "(II)V"⟩
set_option maxRecDepth 20000 in
theorem cb_DK_renew : gCb y_DK_renew R_DK b_DK_renew 3 none 2 := ⟨⟨gt 369 (by decide +kernel) rfl, gt 6 (by decide +kernel) rfl, gt 88 (by decide +kernel) rfl, gt 370 rfl rfl⟩, by decide +kernel⟩
abbrev b_DK_has : ByteArray := prog_3_method_3_code
def y_DK_has : MethodName := ⟨R_DK, "has", "(II)Z"⟩
set_option maxRecDepth 20000 in
theorem cb_DK_has : gCb y_DK_has R_DK b_DK_has 3 (some .boolean) 2 := ⟨⟨gt 708 (by decide +kernel) rfl, gt 51 (by decide +kernel) rfl, gt 88 (by decide +kernel) rfl, gt 709 rfl rfl⟩, by decide +kernel⟩
abbrev b_DK_get : ByteArray := prog_3_method_4_code
def y_DK_get : MethodName := ⟨R_DK, "get", "(II)I"⟩
set_option maxRecDepth 20000 in
theorem cb_DK_get : gCb y_DK_get R_DK b_DK_get 3 (some .int) 2 := ⟨⟨gt 411 (by decide +kernel) rfl, gt 15 (by decide +kernel) rfl, gt 88 (by decide +kernel) rfl, gt 412 rfl rfl⟩, by decide +kernel⟩
abbrev b_DK_turnOver : ByteArray := prog_3_method_5_code
def y_DK_turnOver : MethodName := ⟨R_DK, "turnOver", "(III)V"⟩
set_option maxRecDepth 20000 in
theorem cb_DK_turnOver : gCb y_DK_turnOver R_DK b_DK_turnOver 4 none 3 := ⟨⟨gt 722 (by decide +kernel) rfl, gt 52 (by decide +kernel) rfl, gt 88 (by decide +kernel) rfl, gt 723 rfl rfl⟩, by decide +kernel⟩
abbrev b_DK_keysPerBlock : ByteArray := prog_3_method_6_code
def y_DK_keysPerBlock : MethodName := ⟨R_DK, "keysPerBlock", "()I"⟩
set_option maxRecDepth 20000 in
theorem cb_DK_keysPerBlock : gCb y_DK_keysPerBlock R_DK b_DK_keysPerBlock 1 (some .int) 0 := ⟨⟨gt 482 (by decide +kernel) rfl, gt 24 (by decide +kernel) rfl, gt 88 (by decide +kernel) rfl, gt 483 rfl rfl⟩, by decide +kernel⟩
abbrev b_DK_mostRuns : ByteArray := prog_3_method_7_code
def y_DK_mostRuns : MethodName := ⟨R_DK, "mostRuns", "()I"⟩
set_option maxRecDepth 20000 in
theorem cb_DK_mostRuns : gCb y_DK_mostRuns R_DK b_DK_mostRuns 1 (some .int) 0 := ⟨⟨gt 452 (by decide +kernel) rfl, gt 19 (by decide +kernel) rfl, gt 88 (by decide +kernel) rfl, gt 453 rfl rfl⟩, by decide +kernel⟩
abbrev b_DK_blocksFor : ByteArray := prog_3_method_8_code
def y_DK_blocksFor : MethodName := ⟨R_DK, "blocksFor", "(I)I"⟩
set_option maxRecDepth 20000 in
theorem cb_DK_blocksFor : gCb y_DK_blocksFor R_DK b_DK_blocksFor 3 (some .int) 1 := ⟨⟨gt 478 (by decide +kernel) rfl, gt 23 (by decide +kernel) rfl, gt 88 (by decide +kernel) rfl, gt 479 rfl rfl⟩, by decide +kernel⟩
abbrev b_DK_clearRow : ByteArray := prog_3_method_9_code
def y_DK_clearRow : MethodName := ⟨R_DK, "clearRow", "()V"⟩
set_option maxRecDepth 20000 in
theorem cb_DK_clearRow : gCb y_DK_clearRow R_DK b_DK_clearRow 1 none 0 := ⟨⟨gt 384 (by decide +kernel) rfl, gt 9 (by decide +kernel) rfl, gt 88 (by decide +kernel) rfl, gt 385 rfl rfl⟩, by decide +kernel⟩
abbrev b_DK_setRow : ByteArray := prog_3_method_10_code
def y_DK_setRow : MethodName := ⟨R_DK, "setRow", "(II)V"⟩
set_option maxRecDepth 20000 in
theorem cb_DK_setRow : gCb y_DK_setRow R_DK b_DK_setRow 3 none 2 := ⟨⟨gt 388 (by decide +kernel) rfl, gt 10 (by decide +kernel) rfl, gt 88 (by decide +kernel) rfl, gt 389 rfl rfl⟩, by decide +kernel⟩
abbrev b_DK_writeRow : ByteArray := prog_3_method_11_code
def y_DK_writeRow : MethodName := ⟨R_DK, "writeRow", "(I)Z"⟩
set_option maxRecDepth 20000 in
theorem cb_DK_writeRow : gCb y_DK_writeRow R_DK b_DK_writeRow 2 (some .boolean) 1 := ⟨⟨gt 392 (by decide +kernel) rfl, gt 11 (by decide +kernel) rfl, gt 88 (by decide +kernel) rfl, gt 393 rfl rfl⟩, by decide +kernel⟩
abbrev b_DK_sumOf : ByteArray := prog_3_method_12_code
def y_DK_sumOf : MethodName := ⟨R_DK, "sumOf", "(I)I"⟩
set_option maxRecDepth 20000 in
theorem cb_DK_sumOf : gCb y_DK_sumOf R_DK b_DK_sumOf 5 (some .int) 1 := ⟨⟨gt 399 (by decide +kernel) rfl, gt 12 (by decide +kernel) rfl, gt 88 (by decide +kernel) rfl, gt 400 rfl rfl⟩, by decide +kernel⟩
abbrev b_ME_init : ByteArray := prog_5_method_1_code
def y_ME_init : MethodName := ⟨R_ME, "<init>", "()V"⟩
abbrev b_ME_clear : ByteArray := prog_5_method_2_code
def y_ME_clear : MethodName := ⟨R_ME, "clear", "()V"⟩
set_option maxRecDepth 20000 in
theorem cb_ME_clear : gCb y_ME_clear R_ME b_ME_clear 1 none 0 := ⟨⟨gt 357 (by decide +kernel) rfl, gt 3 (by decide +kernel) rfl, gt 90 (by decide +kernel) rfl, gt 358 rfl rfl⟩, by decide +kernel⟩
abbrev b_ME_isFull : ByteArray := prog_5_method_3_code
def y_ME_isFull : MethodName := ⟨R_ME, "isFull", "()Z"⟩
set_option maxRecDepth 20000 in
theorem cb_ME_isFull : gCb y_ME_isFull R_ME b_ME_isFull 1 (some .boolean) 0 := ⟨⟨gt 444 (by decide +kernel) rfl, gt 17 (by decide +kernel) rfl, gt 90 (by decide +kernel) rfl, gt 445 rfl rfl⟩, by decide +kernel⟩
abbrev b_ME_add : ByteArray := prog_5_method_4_code
def y_ME_add : MethodName := ⟨R_ME, "add", "(I)V"⟩
set_option maxRecDepth 20000 in
theorem cb_ME_add : gCb y_ME_add R_ME b_ME_add 3 none 1 := ⟨⟨gt 556 (by decide +kernel) rfl, gt 38 (by decide +kernel) rfl, gt 90 (by decide +kernel) rfl, gt 557 rfl rfl⟩, by decide +kernel⟩
abbrev b_ME_least : ByteArray := prog_5_method_5_code
def y_ME_least : MethodName := ⟨R_ME, "least", "()I"⟩
set_option maxRecDepth 20000 in
theorem cb_ME_least : gCb y_ME_least R_ME b_ME_least 1 (some .int) 0 := ⟨⟨gt 511 (by decide +kernel) rfl, gt 28 (by decide +kernel) rfl, gt 90 (by decide +kernel) rfl, gt 512 rfl rfl⟩, by decide +kernel⟩
abbrev b_ME_howMany : ByteArray := prog_5_method_6_code
def y_ME_howMany : MethodName := ⟨R_ME, "howMany", "()I"⟩
set_option maxRecDepth 20000 in
theorem cb_ME_howMany : gCb y_ME_howMany R_ME b_ME_howMany 1 (some .int) 0 := ⟨⟨gt 265 (by decide +kernel) rfl, gt 266 (by decide +kernel) rfl, gt 90 (by decide +kernel) rfl, gt 267 rfl rfl⟩, by decide +kernel⟩
abbrev b_ME_takeLeast : ByteArray := prog_5_method_7_code
def y_ME_takeLeast : MethodName := ⟨R_ME, "takeLeast", "()I"⟩
set_option maxRecDepth 20000 in
theorem cb_ME_takeLeast : gCb y_ME_takeLeast R_ME b_ME_takeLeast 2 (some .int) 0 := ⟨⟨gt 507 (by decide +kernel) rfl, gt 1006 (by decide +kernel) rfl, gt 90 (by decide +kernel) rfl, gt 508 rfl rfl⟩, by decide +kernel⟩
abbrev b_RU_init : ByteArray := prog_6_method_1_code
def y_RU_init : MethodName := ⟨R_RU, "<init>", "(LSpillQueue$Disk;)V"⟩
abbrev b_RU_clear : ByteArray := prog_6_method_2_code
def y_RU_clear : MethodName := ⟨R_RU, "clear", "()V"⟩
set_option maxRecDepth 20000 in
theorem cb_RU_clear : gCb y_RU_clear R_RU b_RU_clear 1 none 0 := ⟨⟨gt 361 (by decide +kernel) rfl, gt 4 (by decide +kernel) rfl, gt 91 (by decide +kernel) rfl, gt 362 rfl rfl⟩, by decide +kernel⟩
abbrev b_RU_has : ByteArray := prog_6_method_3_code
def y_RU_has : MethodName := ⟨R_RU, "has", "(I)Z"⟩
set_option maxRecDepth 20000 in
theorem cb_RU_has : gCb y_RU_has R_RU b_RU_has 2 (some .boolean) 1 := ⟨⟨gt 526 (by decide +kernel) rfl, gt 31 (by decide +kernel) rfl, gt 91 (by decide +kernel) rfl, gt 527 rfl rfl⟩, by decide +kernel⟩
abbrev b_RU_add : ByteArray := prog_6_method_4_code
def y_RU_add : MethodName := ⟨R_RU, "add", "(IIII)V"⟩
set_option maxRecDepth 20000 in
theorem cb_RU_add : gCb y_RU_add R_RU b_RU_add 5 none 4 := ⟨⟨gt 536 (by decide +kernel) rfl, gt 33 (by decide +kernel) rfl, gt 91 (by decide +kernel) rfl, gt 537 rfl rfl⟩, by decide +kernel⟩
abbrev b_RU_dropEmpty : ByteArray := prog_6_method_5_code
def y_RU_dropEmpty : MethodName := ⟨R_RU, "dropEmpty", "()V"⟩
set_option maxRecDepth 20000 in
theorem cb_RU_dropEmpty : gCb y_RU_dropEmpty R_RU b_RU_dropEmpty 3 none 0 := ⟨⟨gt 532 (by decide +kernel) rfl, gt 32 (by decide +kernel) rfl, gt 91 (by decide +kernel) rfl, gt 533 rfl rfl⟩, by decide +kernel⟩
abbrev b_RU_headOf : ByteArray := prog_6_method_6_code
def y_RU_headOf : MethodName := ⟨R_RU, "headOf", "(I)I"⟩
set_option maxRecDepth 20000 in
theorem cb_RU_headOf : gCb y_RU_headOf R_RU b_RU_headOf 2 (some .int) 1 := ⟨⟨gt 573 (by decide +kernel) rfl, gt 40 (by decide +kernel) rfl, gt 91 (by decide +kernel) rfl, gt 574 rfl rfl⟩, by decide +kernel⟩
abbrev b_RU_leastAt : ByteArray := prog_6_method_7_code
def y_RU_leastAt : MethodName := ⟨R_RU, "leastAt", "(Z)I"⟩
set_option maxRecDepth 20000 in
theorem cb_RU_leastAt : gCb y_RU_leastAt R_RU b_RU_leastAt 5 (some .int) 1 := ⟨⟨gt 518 (by decide +kernel) rfl, gt 29 (by decide +kernel) rfl, gt 91 (by decide +kernel) rfl, gt 519 rfl rfl⟩, by decide +kernel⟩
abbrev b_RU_takeFrom : ByteArray := prog_6_method_8_code
def y_RU_takeFrom : MethodName := ⟨R_RU, "takeFrom", "(I)I"⟩
set_option maxRecDepth 20000 in
theorem cb_RU_takeFrom : gCb y_RU_takeFrom R_RU b_RU_takeFrom 3 (some .int) 1 := ⟨⟨gt 522 (by decide +kernel) rfl, gt 30 (by decide +kernel) rfl, gt 91 (by decide +kernel) rfl, gt 523 rfl rfl⟩, by decide +kernel⟩
abbrev b_RU_keysInAll : ByteArray := prog_6_method_9_code
def y_RU_keysInAll : MethodName := ⟨R_RU, "keysInAll", "()I"⟩
set_option maxRecDepth 20000 in
theorem cb_RU_keysInAll : gCb y_RU_keysInAll R_RU b_RU_keysInAll 3 (some .int) 0 := ⟨⟨gt 270 (by decide +kernel) rfl, gt 0 (by decide +kernel) rfl, gt 91 (by decide +kernel) rfl, gt 271 rfl rfl⟩, by decide +kernel⟩
abbrev b_RU_markBlocks : ByteArray := prog_6_method_10_code
def y_RU_markBlocks : MethodName := ⟨R_RU, "markBlocks", "(LSpillQueue$BlockSet;)V"⟩
set_option maxRecDepth 20000 in
theorem cb_RU_markBlocks : gCb y_RU_markBlocks R_RU b_RU_markBlocks 5 none 1 := ⟨⟨gt 403 (by decide +kernel) rfl, gt 13 (by decide +kernel) rfl, gt 91 (by decide +kernel) rfl, gt 404 rfl rfl⟩, by decide +kernel⟩
abbrev b_RU_greatestLevel : ByteArray := prog_6_method_11_code
def y_RU_greatestLevel : MethodName := ⟨R_RU, "greatestLevel", "()I"⟩
set_option maxRecDepth 20000 in
theorem cb_RU_greatestLevel : gCb y_RU_greatestLevel R_RU b_RU_greatestLevel 3 (some .int) 0 := ⟨⟨gt 460 (by decide +kernel) rfl, gt 21 (by decide +kernel) rfl, gt 91 (by decide +kernel) rfl, gt 461 rfl rfl⟩, by decide +kernel⟩
abbrev b_RU_crowdedAt : ByteArray := prog_6_method_12_code
def y_RU_crowdedAt : MethodName := ⟨R_RU, "crowdedAt", "(I)I"⟩
set_option maxRecDepth 20000 in
theorem cb_RU_crowdedAt : gCb y_RU_crowdedAt R_RU b_RU_crowdedAt 4 (some .int) 1 := ⟨⟨gt 544 (by decide +kernel) rfl, gt 35 (by decide +kernel) rfl, gt 91 (by decide +kernel) rfl, gt 545 rfl rfl⟩, by decide +kernel⟩
abbrev b_RU_runsAtLevelOf : ByteArray := prog_6_method_13_code
def y_RU_runsAtLevelOf : MethodName := ⟨R_RU, "runsAtLevelOf", "(I)I"⟩
set_option maxRecDepth 20000 in
theorem cb_RU_runsAtLevelOf : gCb y_RU_runsAtLevelOf R_RU b_RU_runsAtLevelOf 4 (some .int) 1 := ⟨⟨gt 548 (by decide +kernel) rfl, gt 36 (by decide +kernel) rfl, gt 91 (by decide +kernel) rfl, gt 549 rfl rfl⟩, by decide +kernel⟩
abbrev b_RU_chooseAll : ByteArray := prog_6_method_14_code
def y_RU_chooseAll : MethodName := ⟨R_RU, "chooseAll", "()V"⟩
set_option maxRecDepth 20000 in
theorem cb_RU_chooseAll : gCb y_RU_chooseAll R_RU b_RU_chooseAll 2 none 0 := ⟨⟨gt 456 (by decide +kernel) rfl, gt 20 (by decide +kernel) rfl, gt 91 (by decide +kernel) rfl, gt 457 rfl rfl⟩, by decide +kernel⟩
abbrev b_RU_chooseLevel : ByteArray := prog_6_method_15_code
def y_RU_chooseLevel : MethodName := ⟨R_RU, "chooseLevel", "(I)V"⟩
set_option maxRecDepth 20000 in
theorem cb_RU_chooseLevel : gCb y_RU_chooseLevel R_RU b_RU_chooseLevel 3 none 1 := ⟨⟨gt 552 (by decide +kernel) rfl, gt 37 (by decide +kernel) rfl, gt 91 (by decide +kernel) rfl, gt 553 rfl rfl⟩, by decide +kernel⟩
abbrev b_RU_howMany : ByteArray := prog_6_method_16_code
def y_RU_howMany : MethodName := ⟨R_RU, "howMany", "()I"⟩
abbrev b_RU_takeLeast : ByteArray := prog_6_method_17_code
def y_RU_takeLeast : MethodName := ⟨R_RU, "takeLeast", "()I"⟩
abbrev b_SB_init : ByteArray := prog_7_method_1_code
def y_SB_init : MethodName := ⟨R_SB, "<init>", "(LSpillQueue$Disk;)V"⟩
abbrev b_SB_store : ByteArray := prog_7_method_2_code
def y_SB_store : MethodName := ⟨R_SB, "store", "(ILSpillQueue$Runs;)Z"⟩
set_option maxRecDepth 20000 in
theorem cb_SB_store : gCb y_SB_store R_SB b_SB_store 5 (some .boolean) 2 := ⟨⟨gt 380 (by decide +kernel) rfl, gt 8 (by decide +kernel) rfl, gt 92 (by decide +kernel) rfl, gt 381 rfl rfl⟩, by decide +kernel⟩
abbrev b_SB_load : ByteArray := prog_7_method_3_code
def y_SB_load : MethodName := ⟨R_SB, "load", "(ILSpillQueue$Runs;)V"⟩
set_option maxRecDepth 20000 in
theorem cb_SB_load : gCb y_SB_load R_SB b_SB_load 6 none 2 := ⟨⟨gt 657 (by decide +kernel) rfl, gt 49 (by decide +kernel) rfl, gt 92 (by decide +kernel) rfl, gt 658 rfl rfl⟩, by decide +kernel⟩
abbrev b_SB_epochOf : ByteArray := prog_7_method_4_code
def y_SB_epochOf : MethodName := ⟨R_SB, "epochOf", "(I)I"⟩
set_option maxRecDepth 20000 in
theorem cb_SB_epochOf : gCb y_SB_epochOf R_SB b_SB_epochOf 2 (some .int) 1 := ⟨⟨gt 628 (by decide +kernel) rfl, gt 44 (by decide +kernel) rfl, gt 92 (by decide +kernel) rfl, gt 629 rfl rfl⟩, by decide +kernel⟩
abbrev b_SB_newestGood : ByteArray := prog_7_method_5_code
def y_SB_newestGood : MethodName := ⟨R_SB, "newestGood", "()I"⟩
set_option maxRecDepth 20000 in
theorem cb_SB_newestGood : gCb y_SB_newestGood R_SB b_SB_newestGood 3 (some .int) 0 := ⟨⟨gt 620 (by decide +kernel) rfl, gt 42 (by decide +kernel) rfl, gt 92 (by decide +kernel) rfl, gt 621 rfl rfl⟩, by decide +kernel⟩
abbrev b_SB_isGood : ByteArray := prog_7_method_6_code
def y_SB_isGood : MethodName := ⟨R_SB, "isGood", "(I)Z"⟩
set_option maxRecDepth 20000 in
theorem cb_SB_isGood : gCb y_SB_isGood R_SB b_SB_isGood 5 (some .boolean) 1 := ⟨⟨gt 624 (by decide +kernel) rfl, gt 43 (by decide +kernel) rfl, gt 92 (by decide +kernel) rfl, gt 625 rfl rfl⟩, by decide +kernel⟩
abbrev b_SB_isRunRight : ByteArray := prog_7_method_7_code
def y_SB_isRunRight : MethodName := ⟨R_SB, "isRunRight", "(II)Z"⟩
set_option maxRecDepth 20000 in
theorem cb_SB_isRunRight : gCb y_SB_isRunRight R_SB b_SB_isRunRight 6 (some .boolean) 2 := ⟨⟨gt 636 (by decide +kernel) rfl, gt 45 (by decide +kernel) rfl, gt 92 (by decide +kernel) rfl, gt 637 rfl rfl⟩, by decide +kernel⟩
abbrev b_SB_isChainRight : ByteArray := prog_7_method_8_code
def y_SB_isChainRight : MethodName := ⟨R_SB, "isChainRight", "(III)Z"⟩
set_option maxRecDepth 20000 in
theorem cb_SB_isChainRight : gCb y_SB_isChainRight R_SB b_SB_isChainRight 10 (some .boolean) 3 := ⟨⟨gt 641 (by decide +kernel) rfl, gt 46 (by decide +kernel) rfl, gt 92 (by decide +kernel) rfl, gt 642 rfl rfl⟩, by decide +kernel⟩
abbrev b_SB_isNewRightBlock : ByteArray := prog_7_method_9_code
def y_SB_isNewRightBlock : MethodName := ⟨R_SB, "isNewRightBlock", "(I)Z"⟩
set_option maxRecDepth 20000 in
theorem cb_SB_isNewRightBlock : gCb y_SB_isNewRightBlock R_SB b_SB_isNewRightBlock 2 (some .boolean) 1 := ⟨⟨gt 646 (by decide +kernel) rfl, gt 47 (by decide +kernel) rfl, gt 92 (by decide +kernel) rfl, gt 647 rfl rfl⟩, by decide +kernel⟩
abbrev b_SB_lastOfRising : ByteArray := prog_7_method_10_code
def y_SB_lastOfRising : MethodName := ⟨R_SB, "lastOfRising", "(IIII)I"⟩
set_option maxRecDepth 20000 in
theorem cb_SB_lastOfRising : gCb y_SB_lastOfRising R_SB b_SB_lastOfRising 8 (some .int) 4 := ⟨⟨gt 653 (by decide +kernel) rfl, gt 48 (by decide +kernel) rfl, gt 92 (by decide +kernel) rfl, gt 654 rfl rfl⟩, by decide +kernel⟩
abbrev b_SQ_init : ByteArray := prog_1_method_1_code
def y_SQ_init : MethodName := ⟨R_SQ, "<init>", "()V"⟩
abbrev b_SQ_format : ByteArray := prog_1_method_2_code
def y_SQ_format : MethodName := ⟨R_SQ, "format", "(IIII)V"⟩
set_option maxRecDepth 20000 in
theorem cb_SQ_format : gCb y_SQ_format R_SQ b_SQ_format 5 none 4 := ⟨⟨gt 277 (by decide +kernel) rfl, gt 278 (by decide +kernel) rfl, gt 87 (by decide +kernel) rfl, gt 279 rfl rfl⟩, by decide +kernel⟩
abbrev b_SQ_insert : ByteArray := prog_1_method_3_code
def y_SQ_insert : MethodName := ⟨R_SQ, "insert", "(I)I"⟩
set_option maxRecDepth 20000 in
theorem cb_SQ_insert : gCb y_SQ_insert R_SQ b_SQ_insert 3 (some .int) 1 := ⟨⟨gt 418 (by decide +kernel) rfl, gt 419 (by decide +kernel) rfl, gt 87 (by decide +kernel) rfl, gt 420 rfl rfl⟩, by decide +kernel⟩
abbrev b_SQ_min : ByteArray := prog_1_method_4_code
def y_SQ_min : MethodName := ⟨R_SQ, "min", "()I"⟩
set_option maxRecDepth 20000 in
theorem cb_SQ_min : gCb y_SQ_min R_SQ b_SQ_min 2 (some .int) 0 := ⟨⟨gt 562 (by decide +kernel) rfl, gt 563 (by decide +kernel) rfl, gt 87 (by decide +kernel) rfl, gt 564 rfl rfl⟩, by decide +kernel⟩
abbrev b_SQ_take : ByteArray := prog_1_method_5_code
def y_SQ_take : MethodName := ⟨R_SQ, "take", "()I"⟩
set_option maxRecDepth 20000 in
theorem cb_SQ_take : gCb y_SQ_take R_SQ b_SQ_take 3 (some .int) 0 := ⟨⟨gt 579 (by decide +kernel) rfl, gt 580 (by decide +kernel) rfl, gt 87 (by decide +kernel) rfl, gt 581 rfl rfl⟩, by decide +kernel⟩
abbrev b_SQ_sync : ByteArray := prog_1_method_6_code
def y_SQ_sync : MethodName := ⟨R_SQ, "sync", "()I"⟩
set_option maxRecDepth 20000 in
theorem cb_SQ_sync : gCb y_SQ_sync R_SQ b_SQ_sync 2 (some .int) 0 := ⟨⟨gt 588 (by decide +kernel) rfl, gt 589 (by decide +kernel) rfl, gt 87 (by decide +kernel) rfl, gt 590 rfl rfl⟩, by decide +kernel⟩
abbrev b_SQ_cutAt : ByteArray := prog_1_method_7_code
def y_SQ_cutAt : MethodName := ⟨R_SQ, "cutAt", "(I)V"⟩
set_option maxRecDepth 20000 in
theorem cb_SQ_cutAt : gCb y_SQ_cutAt R_SQ b_SQ_cutAt 2 none 1 := ⟨⟨gt 595 (by decide +kernel) rfl, gt 596 (by decide +kernel) rfl, gt 87 (by decide +kernel) rfl, gt 597 rfl rfl⟩, by decide +kernel⟩
abbrev b_SQ_cut : ByteArray := prog_1_method_8_code
def y_SQ_cut : MethodName := ⟨R_SQ, "cut", "()V"⟩
set_option maxRecDepth 20000 in
theorem cb_SQ_cut : gCb y_SQ_cut R_SQ b_SQ_cut 1 none 0 := ⟨⟨gt 603 (by decide +kernel) rfl, gt 604 (by decide +kernel) rfl, gt 87 (by decide +kernel) rfl, gt 605 rfl rfl⟩, by decide +kernel⟩
abbrev b_SQ_recover : ByteArray := prog_1_method_9_code
def y_SQ_recover : MethodName := ⟨R_SQ, "recover", "()I"⟩
set_option maxRecDepth 20000 in
theorem cb_SQ_recover : gCb y_SQ_recover R_SQ b_SQ_recover 2 (some .int) 0 := ⟨⟨gt 615 (by decide +kernel) rfl, gt 616 (by decide +kernel) rfl, gt 87 (by decide +kernel) rfl, gt 617 rfl rfl⟩, by decide +kernel⟩
abbrev b_SQ_size : ByteArray := prog_1_method_10_code
def y_SQ_size : MethodName := ⟨R_SQ, "size", "()I"⟩
set_option maxRecDepth 20000 in
theorem cb_SQ_size : gCb y_SQ_size R_SQ b_SQ_size 1 (some .int) 0 := ⟨⟨gt 261 (by decide +kernel) rfl, gt 262 (by decide +kernel) rfl, gt 87 (by decide +kernel) rfl, gt 263 rfl rfl⟩, by decide +kernel⟩
abbrev b_SQ_run : ByteArray := prog_1_method_11_code
def y_SQ_run : MethodName := ⟨R_SQ, "run", "(II)I"⟩
set_option maxRecDepth 20000 in
theorem cb_SQ_run : gCb y_SQ_run R_SQ b_SQ_run 3 (some .int) 2 := ⟨⟨gt 666 (by decide +kernel) rfl, gt 667 (by decide +kernel) rfl, gt 87 (by decide +kernel) rfl, gt 668 rfl rfl⟩, by decide +kernel⟩
abbrev b_SQ_about : ByteArray := prog_1_method_12_code
def y_SQ_about : MethodName := ⟨R_SQ, "about", "(I)I"⟩
set_option maxRecDepth 20000 in
theorem cb_SQ_about : gCb y_SQ_about R_SQ b_SQ_about 2 (some .int) 1 := ⟨⟨gt 691 (by decide +kernel) rfl, gt 692 (by decide +kernel) rfl, gt 87 (by decide +kernel) rfl, gt 693 rfl rfl⟩, by decide +kernel⟩
abbrev b_SQ_word : ByteArray := prog_1_method_13_code
def y_SQ_word : MethodName := ⟨R_SQ, "word", "(II)I"⟩
set_option maxRecDepth 20000 in
theorem cb_SQ_word : gCb y_SQ_word R_SQ b_SQ_word 3 (some .int) 2 := ⟨⟨gt 699 (by decide +kernel) rfl, gt 700 (by decide +kernel) rfl, gt 87 (by decide +kernel) rfl, gt 701 rfl rfl⟩, by decide +kernel⟩
abbrev b_SQ_spoil : ByteArray := prog_1_method_14_code
def y_SQ_spoil : MethodName := ⟨R_SQ, "spoil", "(III)V"⟩
set_option maxRecDepth 20000 in
theorem cb_SQ_spoil : gCb y_SQ_spoil R_SQ b_SQ_spoil 4 none 3 := ⟨⟨gt 716 (by decide +kernel) rfl, gt 717 (by decide +kernel) rfl, gt 87 (by decide +kernel) rfl, gt 718 rfl rfl⟩, by decide +kernel⟩
abbrev b_SQ_requireLive : ByteArray := prog_1_method_15_code
def y_SQ_requireLive : MethodName := ⟨R_SQ, "requireLive", "()V"⟩
set_option maxRecDepth 20000 in
theorem cb_SQ_requireLive : gCb y_SQ_requireLive R_SQ b_SQ_requireLive 1 none 0 := ⟨⟨gt 423 (by decide +kernel) rfl, gt 16 (by decide +kernel) rfl, gt 87 (by decide +kernel) rfl, gt 424 rfl rfl⟩, by decide +kernel⟩
abbrev b_SQ_requireDisk : ByteArray := prog_1_method_16_code
def y_SQ_requireDisk : MethodName := ⟨R_SQ, "requireDisk", "()V"⟩
set_option maxRecDepth 20000 in
theorem cb_SQ_requireDisk : gCb y_SQ_requireDisk R_SQ b_SQ_requireDisk 1 none 0 := ⟨⟨gt 608 (by decide +kernel) rfl, gt 41 (by decide +kernel) rfl, gt 87 (by decide +kernel) rfl, gt 609 rfl rfl⟩, by decide +kernel⟩
abbrev b_SQ_requireWord : ByteArray := prog_1_method_17_code
def y_SQ_requireWord : MethodName := ⟨R_SQ, "requireWord", "(II)V"⟩
set_option maxRecDepth 20000 in
theorem cb_SQ_requireWord : gCb y_SQ_requireWord R_SQ b_SQ_requireWord 3 none 2 := ⟨⟨gt 704 (by decide +kernel) rfl, gt 50 (by decide +kernel) rfl, gt 87 (by decide +kernel) rfl, gt 705 rfl rfl⟩, by decide +kernel⟩
abbrev b_SQ_powerOff : ByteArray := prog_1_method_18_code
def y_SQ_powerOff : MethodName := ⟨R_SQ, "powerOff", "()V"⟩
set_option maxRecDepth 20000 in
theorem cb_SQ_powerOff : gCb y_SQ_powerOff R_SQ b_SQ_powerOff 1 none 0 := ⟨⟨gt 353 (by decide +kernel) rfl, gt 2 (by decide +kernel) rfl, gt 87 (by decide +kernel) rfl, gt 354 rfl rfl⟩, by decide +kernel⟩
abbrev b_SQ_isLeastInMemory : ByteArray := prog_1_method_19_code
def y_SQ_isLeastInMemory : MethodName := ⟨R_SQ, "isLeastInMemory", "(I)Z"⟩
set_option maxRecDepth 20000 in
theorem cb_SQ_isLeastInMemory : gCb y_SQ_isLeastInMemory R_SQ b_SQ_isLeastInMemory 2 (some .boolean) 1 := ⟨⟨gt 568 (by decide +kernel) rfl, gt 39 (by decide +kernel) rfl, gt 87 (by decide +kernel) rfl, gt 569 rfl rfl⟩, by decide +kernel⟩
abbrev b_SQ_spill : ByteArray := prog_1_method_20_code
def y_SQ_spill : MethodName := ⟨R_SQ, "spill", "()I"⟩
set_option maxRecDepth 20000 in
theorem cb_SQ_spill : gCb y_SQ_spill R_SQ b_SQ_spill 2 (some .int) 0 := ⟨⟨gt 448 (by decide +kernel) rfl, gt 18 (by decide +kernel) rfl, gt 87 (by decide +kernel) rfl, gt 449 rfl rfl⟩, by decide +kernel⟩
abbrev b_SQ_mergeCrowdedLevels : ByteArray := prog_1_method_21_code
def y_SQ_mergeCrowdedLevels : MethodName := ⟨R_SQ, "mergeCrowdedLevels", "()I"⟩
set_option maxRecDepth 20000 in
theorem cb_SQ_mergeCrowdedLevels : gCb y_SQ_mergeCrowdedLevels R_SQ b_SQ_mergeCrowdedLevels 5 (some .int) 0 := ⟨⟨gt 540 (by decide +kernel) rfl, gt 34 (by decide +kernel) rfl, gt 87 (by decide +kernel) rfl, gt 541 rfl rfl⟩, by decide +kernel⟩
abbrev b_SQ_makeRun : ByteArray := prog_1_method_22_code
def y_SQ_makeRun : MethodName := ⟨R_SQ, "makeRun", "(LSpillQueue$Keys;I)I"⟩
set_option maxRecDepth 20000 in
theorem cb_SQ_makeRun : gCb y_SQ_makeRun R_SQ b_SQ_makeRun 9 (some .int) 2 := ⟨⟨gt 467 (by decide +kernel) rfl, gt 22 (by decide +kernel) rfl, gt 87 (by decide +kernel) rfl, gt 468 rfl rfl⟩, by decide +kernel⟩
abbrev b_SQ_gatherFree : ByteArray := prog_1_method_23_code
def y_SQ_gatherFree : MethodName := ⟨R_SQ, "gatherFree", "()I"⟩
set_option maxRecDepth 20000 in
theorem cb_SQ_gatherFree : gCb y_SQ_gatherFree R_SQ b_SQ_gatherFree 3 (some .int) 0 := ⟨⟨gt 486 (by decide +kernel) rfl, gt 25 (by decide +kernel) rfl, gt 87 (by decide +kernel) rfl, gt 487 rfl rfl⟩, by decide +kernel⟩
abbrev b_SQ_writeNextEpoch : ByteArray := prog_1_method_24_code
def y_SQ_writeNextEpoch : MethodName := ⟨R_SQ, "writeNextEpoch", "()I"⟩
set_option maxRecDepth 20000 in
theorem cb_SQ_writeNextEpoch : gCb y_SQ_writeNextEpoch R_SQ b_SQ_writeNextEpoch 1 (some .int) 0 := ⟨⟨gt 376 (by decide +kernel) rfl, gt 7 (by decide +kernel) rfl, gt 87 (by decide +kernel) rfl, gt 377 rfl rfl⟩, by decide +kernel⟩
abbrev b_MO_init : ByteArray := prog_9_method_1_code
def y_MO_init : MethodName := ⟨R_MO, "<init>", "()V"⟩
abbrev b_MO_thrown : ByteArray := prog_9_method_2_code
def y_MO_thrown : MethodName := ⟨R_MO, "thrown", "()I"⟩
set_option maxRecDepth 20000 in
theorem cb_MO_thrown : gCb y_MO_thrown R_MO b_MO_thrown 1 (some .int) 0 := ⟨⟨gt 814 (by decide +kernel) rfl, gt 815 (by decide +kernel) rfl, gt 94 (by decide +kernel) rfl, gt 816 rfl rfl⟩, by decide +kernel⟩
abbrev b_MO_within : ByteArray := prog_9_method_3_code
def y_MO_within : MethodName := ⟨R_MO, "within", "(III)Z"⟩
set_option maxRecDepth 20000 in
theorem cb_MO_within : gSb y_MO_within b_MO_within 3 (some .boolean) 3 := ⟨⟨gt 822 (by decide +kernel) rfl, gt 94 (by decide +kernel) rfl, gt 823 rfl rfl⟩, by decide +kernel⟩
abbrev b_MO_at : ByteArray := prog_9_method_4_code
def y_MO_at : MethodName := ⟨R_MO, "at", "(II)I"⟩
set_option maxRecDepth 20000 in
theorem cb_MO_at : gCb y_MO_at R_MO b_MO_at 3 (some .int) 2 := ⟨⟨gt 842 (by decide +kernel) rfl, gt 57 (by decide +kernel) rfl, gt 94 (by decide +kernel) rfl, gt 843 rfl rfl⟩, by decide +kernel⟩
abbrev b_MO_room : ByteArray := prog_9_method_5_code
def y_MO_room : MethodName := ⟨R_MO, "room", "()I"⟩
set_option maxRecDepth 20000 in
theorem cb_MO_room : gCb y_MO_room R_MO b_MO_room 1 (some .int) 0 := ⟨⟨gt 854 (by decide +kernel) rfl, gt 60 (by decide +kernel) rfl, gt 94 (by decide +kernel) rfl, gt 855 rfl rfl⟩, by decide +kernel⟩
abbrev b_MO_most : ByteArray := prog_9_method_6_code
def y_MO_most : MethodName := ⟨R_MO, "most", "()I"⟩
set_option maxRecDepth 20000 in
theorem cb_MO_most : gCb y_MO_most R_MO b_MO_most 1 (some .int) 0 := ⟨⟨gt 866 (by decide +kernel) rfl, gt 62 (by decide +kernel) rfl, gt 94 (by decide +kernel) rfl, gt 867 rfl rfl⟩, by decide +kernel⟩
abbrev b_MO_sumOf : ByteArray := prog_9_method_7_code
def y_MO_sumOf : MethodName := ⟨R_MO, "sumOf", "(I)I"⟩
set_option maxRecDepth 20000 in
theorem cb_MO_sumOf : gCb y_MO_sumOf R_MO b_MO_sumOf 4 (some .int) 1 := ⟨⟨gt 838 (by decide +kernel) rfl, gt 56 (by decide +kernel) rfl, gt 94 (by decide +kernel) rfl, gt 839 rfl rfl⟩, by decide +kernel⟩
abbrev b_MO_clearRow : ByteArray := prog_9_method_8_code
def y_MO_clearRow : MethodName := ⟨R_MO, "clearRow", "()V"⟩
set_option maxRecDepth 20000 in
theorem cb_MO_clearRow : gCb y_MO_clearRow R_MO b_MO_clearRow 2 none 0 := ⟨⟨gt 830 (by decide +kernel) rfl, gt 54 (by decide +kernel) rfl, gt 94 (by decide +kernel) rfl, gt 831 rfl rfl⟩, by decide +kernel⟩
abbrev b_MO_write : ByteArray := prog_9_method_9_code
def y_MO_write : MethodName := ⟨R_MO, "write", "(I)V"⟩
set_option maxRecDepth 20000 in
theorem cb_MO_write : gCb y_MO_write R_MO b_MO_write 3 none 1 := ⟨⟨gt 834 (by decide +kernel) rfl, gt 55 (by decide +kernel) rfl, gt 94 (by decide +kernel) rfl, gt 835 rfl rfl⟩, by decide +kernel⟩
abbrev b_MO_blocksOf : ByteArray := prog_9_method_10_code
def y_MO_blocksOf : MethodName := ⟨R_MO, "blocksOf", "(II)I"⟩
set_option maxRecDepth 20000 in
theorem cb_MO_blocksOf : gCb y_MO_blocksOf R_MO b_MO_blocksOf 3 (some .int) 2 := ⟨⟨gt 850 (by decide +kernel) rfl, gt 59 (by decide +kernel) rfl, gt 94 (by decide +kernel) rfl, gt 851 rfl rfl⟩, by decide +kernel⟩
abbrev b_MO_markTaken : ByteArray := prog_9_method_11_code
def y_MO_markTaken : MethodName := ⟨R_MO, "markTaken", "()V"⟩
set_option maxRecDepth 20000 in
theorem cb_MO_markTaken : gCb y_MO_markTaken R_MO b_MO_markTaken 5 none 0 := ⟨⟨gt 846 (by decide +kernel) rfl, gt 58 (by decide +kernel) rfl, gt 94 (by decide +kernel) rfl, gt 847 rfl rfl⟩, by decide +kernel⟩
abbrev b_MO_isFree : ByteArray := prog_9_method_12_code
def y_MO_isFree : MethodName := ⟨R_MO, "isFree", "(I)Z"⟩
set_option maxRecDepth 20000 in
theorem cb_MO_isFree : gCb y_MO_isFree R_MO b_MO_isFree 2 (some .boolean) 1 := ⟨⟨gt 886 (by decide +kernel) rfl, gt 67 (by decide +kernel) rfl, gt 94 (by decide +kernel) rfl, gt 887 rfl rfl⟩, by decide +kernel⟩
abbrev b_MO_free : ByteArray := prog_9_method_13_code
def y_MO_free : MethodName := ⟨R_MO, "free", "()I"⟩
set_option maxRecDepth 20000 in
theorem cb_MO_free : gCb y_MO_free R_MO b_MO_free 3 (some .int) 0 := ⟨⟨gt 882 (by decide +kernel) rfl, gt 66 (by decide +kernel) rfl, gt 94 (by decide +kernel) rfl, gt 883 rfl rfl⟩, by decide +kernel⟩
abbrev b_MO_least : ByteArray := prog_9_method_14_code
def y_MO_least : MethodName := ⟨R_MO, "least", "(I)I"⟩
set_option maxRecDepth 20000 in
theorem cb_MO_least : gCb y_MO_least R_MO b_MO_least 2 (some .int) 1 := ⟨⟨gt 942 (by decide +kernel) rfl, gt 80 (by decide +kernel) rfl, gt 94 (by decide +kernel) rfl, gt 943 rfl rfl⟩, by decide +kernel⟩
abbrev b_MO_dropRun : ByteArray := prog_9_method_15_code
def y_MO_dropRun : MethodName := ⟨R_MO, "dropRun", "(I)V"⟩
set_option maxRecDepth 20000 in
theorem cb_MO_dropRun : gCb y_MO_dropRun R_MO b_MO_dropRun 3 none 1 := ⟨⟨gt 906 (by decide +kernel) rfl, gt 72 (by decide +kernel) rfl, gt 94 (by decide +kernel) rfl, gt 907 rfl rfl⟩, by decide +kernel⟩
abbrev b_MO_addRun : ByteArray := prog_9_method_16_code
def y_MO_addRun : MethodName := ⟨R_MO, "addRun", "(III)V"⟩
set_option maxRecDepth 20000 in
theorem cb_MO_addRun : gCb y_MO_addRun R_MO b_MO_addRun 4 none 3 := ⟨⟨gt 910 (by decide +kernel) rfl, gt 73 (by decide +kernel) rfl, gt 94 (by decide +kernel) rfl, gt 911 rfl rfl⟩, by decide +kernel⟩
abbrev b_MO_choose : ByteArray := prog_9_method_17_code
def y_MO_choose : MethodName := ⟨R_MO, "choose", "(I)Z"⟩
set_option maxRecDepth 20000 in
theorem cb_MO_choose : gCb y_MO_choose R_MO b_MO_choose 5 (some .boolean) 1 := ⟨⟨gt 878 (by decide +kernel) rfl, gt 65 (by decide +kernel) rfl, gt 94 (by decide +kernel) rfl, gt 879 rfl rfl⟩, by decide +kernel⟩
abbrev b_MO_takeFromMemory : ByteArray := prog_9_method_18_code
def y_MO_takeFromMemory : MethodName := ⟨R_MO, "takeFromMemory", "()I"⟩
set_option maxRecDepth 20000 in
theorem cb_MO_takeFromMemory : gCb y_MO_takeFromMemory R_MO b_MO_takeFromMemory 3 (some .int) 0 := ⟨⟨gt 894 (by decide +kernel) rfl, gt 69 (by decide +kernel) rfl, gt 94 (by decide +kernel) rfl, gt 895 rfl rfl⟩, by decide +kernel⟩
abbrev b_MO_headOf : ByteArray := prog_9_method_19_code
def y_MO_headOf : MethodName := ⟨R_MO, "headOf", "(I)I"⟩
set_option maxRecDepth 20000 in
theorem cb_MO_headOf : gCb y_MO_headOf R_MO b_MO_headOf 2 (some .int) 1 := ⟨⟨gt 902 (by decide +kernel) rfl, gt 71 (by decide +kernel) rfl, gt 94 (by decide +kernel) rfl, gt 903 rfl rfl⟩, by decide +kernel⟩
abbrev b_MO_takeFromRuns : ByteArray := prog_9_method_20_code
def y_MO_takeFromRuns : MethodName := ⟨R_MO, "takeFromRuns", "()I"⟩
set_option maxRecDepth 20000 in
theorem cb_MO_takeFromRuns : gCb y_MO_takeFromRuns R_MO b_MO_takeFromRuns 3 (some .int) 0 := ⟨⟨gt 898 (by decide +kernel) rfl, gt 70 (by decide +kernel) rfl, gt 94 (by decide +kernel) rfl, gt 899 rfl rfl⟩, by decide +kernel⟩
abbrev b_MO_writeKeys : ByteArray := prog_9_method_21_code
def y_MO_writeKeys : MethodName := ⟨R_MO, "writeKeys", "(IZ)V"⟩
set_option maxRecDepth 20000 in
theorem cb_MO_writeKeys : gCb y_MO_writeKeys R_MO b_MO_writeKeys 7 none 2 := ⟨⟨gt 890 (by decide +kernel) rfl, gt 68 (by decide +kernel) rfl, gt 94 (by decide +kernel) rfl, gt 891 rfl rfl⟩, by decide +kernel⟩
abbrev b_MO_merge : ByteArray := prog_9_method_22_code
def y_MO_merge : MethodName := ⟨R_MO, "merge", "(ZII)Z"⟩
set_option maxRecDepth 20000 in
theorem cb_MO_merge : gCb y_MO_merge R_MO b_MO_merge 7 (some .boolean) 3 := ⟨⟨gt 874 (by decide +kernel) rfl, gt 64 (by decide +kernel) rfl, gt 94 (by decide +kernel) rfl, gt 875 rfl rfl⟩, by decide +kernel⟩
abbrev b_MO_mergeAll : ByteArray := prog_9_method_23_code
def y_MO_mergeAll : MethodName := ⟨R_MO, "mergeAll", "()Z"⟩
set_option maxRecDepth 20000 in
theorem cb_MO_mergeAll : gCb y_MO_mergeAll R_MO b_MO_mergeAll 3 (some .boolean) 0 := ⟨⟨gt 870 (by decide +kernel) rfl, gt 63 (by decide +kernel) rfl, gt 94 (by decide +kernel) rfl, gt 871 rfl rfl⟩, by decide +kernel⟩
abbrev b_MO_runsOf : ByteArray := prog_9_method_24_code
def y_MO_runsOf : MethodName := ⟨R_MO, "runsOf", "(I)I"⟩
set_option maxRecDepth 20000 in
theorem cb_MO_runsOf : gCb y_MO_runsOf R_MO b_MO_runsOf 4 (some .int) 1 := ⟨⟨gt 918 (by decide +kernel) rfl, gt 75 (by decide +kernel) rfl, gt 94 (by decide +kernel) rfl, gt 919 rfl rfl⟩, by decide +kernel⟩
abbrev b_MO_crowded : ByteArray := prog_9_method_25_code
def y_MO_crowded : MethodName := ⟨R_MO, "crowded", "()I"⟩
set_option maxRecDepth 20000 in
theorem cb_MO_crowded : gCb y_MO_crowded R_MO b_MO_crowded 3 (some .int) 0 := ⟨⟨gt 914 (by decide +kernel) rfl, gt 74 (by decide +kernel) rfl, gt 94 (by decide +kernel) rfl, gt 915 rfl rfl⟩, by decide +kernel⟩
abbrev b_MO_spill : ByteArray := prog_9_method_26_code
def y_MO_spill : MethodName := ⟨R_MO, "spill", "()Z"⟩
set_option maxRecDepth 20000 in
theorem cb_MO_spill : gCb y_MO_spill R_MO b_MO_spill 4 (some .boolean) 0 := ⟨⟨gt 862 (by decide +kernel) rfl, gt 61 (by decide +kernel) rfl, gt 94 (by decide +kernel) rfl, gt 863 rfl rfl⟩, by decide +kernel⟩
abbrev b_MO_writeSuper : ByteArray := prog_9_method_27_code
def y_MO_writeSuper : MethodName := ⟨R_MO, "writeSuper", "()V"⟩
set_option maxRecDepth 20000 in
theorem cb_MO_writeSuper : gCb y_MO_writeSuper R_MO b_MO_writeSuper 2 none 0 := ⟨⟨gt 826 (by decide +kernel) rfl, gt 53 (by decide +kernel) rfl, gt 94 (by decide +kernel) rfl, gt 827 rfl rfl⟩, by decide +kernel⟩
abbrev b_MO_die : ByteArray := prog_9_method_28_code
def y_MO_die : MethodName := ⟨R_MO, "die", "()V"⟩
set_option maxRecDepth 20000 in
theorem cb_MO_die : gCb y_MO_die R_MO b_MO_die 1 none 0 := ⟨⟨gt 926 (by decide +kernel) rfl, gt 77 (by decide +kernel) rfl, gt 94 (by decide +kernel) rfl, gt 927 rfl rfl⟩, by decide +kernel⟩
abbrev b_MO_after : ByteArray := prog_9_method_29_code
def y_MO_after : MethodName := ⟨R_MO, "after", "(I)I"⟩
set_option maxRecDepth 20000 in
theorem cb_MO_after : gCb y_MO_after R_MO b_MO_after 2 (some .int) 1 := ⟨⟨gt 922 (by decide +kernel) rfl, gt 76 (by decide +kernel) rfl, gt 94 (by decide +kernel) rfl, gt 923 rfl rfl⟩, by decide +kernel⟩
abbrev b_MO_format : ByteArray := prog_9_method_30_code
def y_MO_format : MethodName := ⟨R_MO, "format", "(IIII)V"⟩
set_option maxRecDepth 20000 in
theorem cb_MO_format : gCb y_MO_format R_MO b_MO_format 6 none 4 := ⟨⟨gt 818 (by decide +kernel) rfl, gt 819 (by decide +kernel) rfl, gt 94 (by decide +kernel) rfl, gt 820 rfl rfl⟩, by decide +kernel⟩
abbrev b_MO_insert : ByteArray := prog_9_method_31_code
def y_MO_insert : MethodName := ⟨R_MO, "insert", "(I)I"⟩
set_option maxRecDepth 20000 in
theorem cb_MO_insert : gCb y_MO_insert R_MO b_MO_insert 3 (some .int) 1 := ⟨⟨gt 857 (by decide +kernel) rfl, gt 858 (by decide +kernel) rfl, gt 94 (by decide +kernel) rfl, gt 859 rfl rfl⟩, by decide +kernel⟩
abbrev b_MO_leastRun : ByteArray := prog_9_method_32_code
def y_MO_leastRun : MethodName := ⟨R_MO, "leastRun", "()I"⟩
set_option maxRecDepth 20000 in
theorem cb_MO_leastRun : gCb y_MO_leastRun R_MO b_MO_leastRun 3 (some .int) 0 := ⟨⟨gt 938 (by decide +kernel) rfl, gt 79 (by decide +kernel) rfl, gt 94 (by decide +kernel) rfl, gt 939 rfl rfl⟩, by decide +kernel⟩
abbrev b_MO_leastInMemory : ByteArray := prog_9_method_33_code
def y_MO_leastInMemory : MethodName := ⟨R_MO, "leastInMemory", "()I"⟩
set_option maxRecDepth 20000 in
theorem cb_MO_leastInMemory : gCb y_MO_leastInMemory R_MO b_MO_leastInMemory 3 (some .int) 0 := ⟨⟨gt 946 (by decide +kernel) rfl, gt 81 (by decide +kernel) rfl, gt 94 (by decide +kernel) rfl, gt 947 rfl rfl⟩, by decide +kernel⟩
abbrev b_MO_leastKey : ByteArray := prog_9_method_34_code
def y_MO_leastKey : MethodName := ⟨R_MO, "leastKey", "()I"⟩
set_option maxRecDepth 20000 in
theorem cb_MO_leastKey : gCb y_MO_leastKey R_MO b_MO_leastKey 3 (some .int) 0 := ⟨⟨gt 934 (by decide +kernel) rfl, gt 78 (by decide +kernel) rfl, gt 94 (by decide +kernel) rfl, gt 935 rfl rfl⟩, by decide +kernel⟩
abbrev b_MO_min : ByteArray := prog_9_method_35_code
def y_MO_min : MethodName := ⟨R_MO, "min", "()I"⟩
set_option maxRecDepth 20000 in
theorem cb_MO_min : gCb y_MO_min R_MO b_MO_min 1 (some .int) 0 := ⟨⟨gt 929 (by decide +kernel) rfl, gt 930 (by decide +kernel) rfl, gt 94 (by decide +kernel) rfl, gt 931 rfl rfl⟩, by decide +kernel⟩
abbrev b_MO_take : ByteArray := prog_9_method_36_code
def y_MO_take : MethodName := ⟨R_MO, "take", "()I"⟩
set_option maxRecDepth 20000 in
theorem cb_MO_take : gCb y_MO_take R_MO b_MO_take 3 (some .int) 0 := ⟨⟨gt 949 (by decide +kernel) rfl, gt 950 (by decide +kernel) rfl, gt 94 (by decide +kernel) rfl, gt 951 rfl rfl⟩, by decide +kernel⟩
abbrev b_MO_sync : ByteArray := prog_9_method_37_code
def y_MO_sync : MethodName := ⟨R_MO, "sync", "()I"⟩
set_option maxRecDepth 20000 in
theorem cb_MO_sync : gCb y_MO_sync R_MO b_MO_sync 1 (some .int) 0 := ⟨⟨gt 953 (by decide +kernel) rfl, gt 954 (by decide +kernel) rfl, gt 94 (by decide +kernel) rfl, gt 955 rfl rfl⟩, by decide +kernel⟩
abbrev b_MO_cutAt : ByteArray := prog_9_method_38_code
def y_MO_cutAt : MethodName := ⟨R_MO, "cutAt", "(I)V"⟩
set_option maxRecDepth 20000 in
theorem cb_MO_cutAt : gCb y_MO_cutAt R_MO b_MO_cutAt 2 none 1 := ⟨⟨gt 957 (by decide +kernel) rfl, gt 958 (by decide +kernel) rfl, gt 94 (by decide +kernel) rfl, gt 959 rfl rfl⟩, by decide +kernel⟩
abbrev b_MO_cut : ByteArray := prog_9_method_39_code
def y_MO_cut : MethodName := ⟨R_MO, "cut", "()V"⟩
set_option maxRecDepth 20000 in
theorem cb_MO_cut : gCb y_MO_cut R_MO b_MO_cut 1 none 0 := ⟨⟨gt 961 (by decide +kernel) rfl, gt 962 (by decide +kernel) rfl, gt 94 (by decide +kernel) rfl, gt 963 rfl rfl⟩, by decide +kernel⟩
abbrev b_MO_readRun : ByteArray := prog_9_method_40_code
def y_MO_readRun : MethodName := ⟨R_MO, "readRun", "(II)Z"⟩
set_option maxRecDepth 20000 in
theorem cb_MO_readRun : gCb y_MO_readRun R_MO b_MO_readRun 10 (some .boolean) 2 := ⟨⟨gt 974 (by decide +kernel) rfl, gt 83 (by decide +kernel) rfl, gt 94 (by decide +kernel) rfl, gt 975 rfl rfl⟩, by decide +kernel⟩
abbrev b_MO_readSuper : ByteArray := prog_9_method_41_code
def y_MO_readSuper : MethodName := ⟨R_MO, "readSuper", "(I)Z"⟩
set_option maxRecDepth 20000 in
theorem cb_MO_readSuper : gCb y_MO_readSuper R_MO b_MO_readSuper 6 (some .boolean) 1 := ⟨⟨gt 970 (by decide +kernel) rfl, gt 82 (by decide +kernel) rfl, gt 94 (by decide +kernel) rfl, gt 971 rfl rfl⟩, by decide +kernel⟩
abbrev b_MO_size0 : ByteArray := prog_9_method_42_code
def y_MO_size0 : MethodName := ⟨R_MO, "size0", "()I"⟩
set_option maxRecDepth 20000 in
theorem cb_MO_size0 : gCb y_MO_size0 R_MO b_MO_size0 3 (some .int) 0 := ⟨⟨gt 978 (by decide +kernel) rfl, gt 84 (by decide +kernel) rfl, gt 94 (by decide +kernel) rfl, gt 979 rfl rfl⟩, by decide +kernel⟩
abbrev b_MO_recover : ByteArray := prog_9_method_43_code
def y_MO_recover : MethodName := ⟨R_MO, "recover", "()I"⟩
set_option maxRecDepth 20000 in
theorem cb_MO_recover : gCb y_MO_recover R_MO b_MO_recover 5 (some .int) 0 := ⟨⟨gt 965 (by decide +kernel) rfl, gt 966 (by decide +kernel) rfl, gt 94 (by decide +kernel) rfl, gt 967 rfl rfl⟩, by decide +kernel⟩
abbrev b_MO_size : ByteArray := prog_9_method_44_code
def y_MO_size : MethodName := ⟨R_MO, "size", "()I"⟩
set_option maxRecDepth 20000 in
theorem cb_MO_size : gCb y_MO_size R_MO b_MO_size 1 (some .int) 0 := ⟨⟨gt 981 (by decide +kernel) rfl, gt 982 (by decide +kernel) rfl, gt 94 (by decide +kernel) rfl, gt 983 rfl rfl⟩, by decide +kernel⟩
abbrev b_MO_run : ByteArray := prog_9_method_45_code
def y_MO_run : MethodName := ⟨R_MO, "run", "(II)I"⟩
set_option maxRecDepth 20000 in
theorem cb_MO_run : gCb y_MO_run R_MO b_MO_run 3 (some .int) 2 := ⟨⟨gt 985 (by decide +kernel) rfl, gt 986 (by decide +kernel) rfl, gt 94 (by decide +kernel) rfl, gt 987 rfl rfl⟩, by decide +kernel⟩
abbrev b_MO_about : ByteArray := prog_9_method_46_code
def y_MO_about : MethodName := ⟨R_MO, "about", "(I)I"⟩
set_option maxRecDepth 20000 in
theorem cb_MO_about : gCb y_MO_about R_MO b_MO_about 2 (some .int) 1 := ⟨⟨gt 989 (by decide +kernel) rfl, gt 990 (by decide +kernel) rfl, gt 94 (by decide +kernel) rfl, gt 991 rfl rfl⟩, by decide +kernel⟩
abbrev b_MO_isWord : ByteArray := prog_9_method_47_code
def y_MO_isWord : MethodName := ⟨R_MO, "isWord", "(II)Z"⟩
set_option maxRecDepth 20000 in
theorem cb_MO_isWord : gCb y_MO_isWord R_MO b_MO_isWord 3 (some .boolean) 2 := ⟨⟨gt 998 (by decide +kernel) rfl, gt 85 (by decide +kernel) rfl, gt 94 (by decide +kernel) rfl, gt 999 rfl rfl⟩, by decide +kernel⟩
abbrev b_MO_word : ByteArray := prog_9_method_48_code
def y_MO_word : MethodName := ⟨R_MO, "word", "(II)I"⟩
set_option maxRecDepth 20000 in
theorem cb_MO_word : gCb y_MO_word R_MO b_MO_word 3 (some .int) 2 := ⟨⟨gt 993 (by decide +kernel) rfl, gt 994 (by decide +kernel) rfl, gt 94 (by decide +kernel) rfl, gt 995 rfl rfl⟩, by decide +kernel⟩
abbrev b_MO_spoil : ByteArray := prog_9_method_49_code
def y_MO_spoil : MethodName := ⟨R_MO, "spoil", "(III)V"⟩
set_option maxRecDepth 20000 in
theorem cb_MO_spoil : gCb y_MO_spoil R_MO b_MO_spoil 4 none 3 := ⟨⟨gt 1001 (by decide +kernel) rfl, gt 1002 (by decide +kernel) rfl, gt 94 (by decide +kernel) rfl, gt 1003 rfl rfl⟩, by decide +kernel⟩
abbrev b_KE_init : ByteArray := prog_4_method_1_code
def y_KE_init : MethodName := ⟨R_KE, "<init>", "()V"⟩
abbrev b_AR_fill : ByteArray := prog_19_method_103_code
def y_AR_fill : MethodName := ⟨R_AR, "fill", "([II)V"⟩
set_option maxRecDepth 20000 in
theorem cb_AR_fill : gSb y_AR_fill b_AR_fill 4 none 2 := ⟨⟨gt 372 (by decide +kernel) rfl, gt 99 (by decide +kernel) rfl, gt 373 rfl rfl⟩, by decide +kernel⟩
abbrev b_LA_format : ByteArray := method_3_code
def y_LA_format : MethodName := ⟨R_LA, "format", "(LSpillQueue;IIII)I"⟩
abbrev b_LA_insert : ByteArray := method_4_code
def y_LA_insert : MethodName := ⟨R_LA, "insert", "(LSpillQueue;I[J)I"⟩
abbrev b_LA_min : ByteArray := method_5_code
def y_LA_min : MethodName := ⟨R_LA, "min", "(LSpillQueue;[J)I"⟩
abbrev b_LA_take : ByteArray := method_6_code
def y_LA_take : MethodName := ⟨R_LA, "take", "(LSpillQueue;[J)I"⟩
abbrev b_LA_sync : ByteArray := method_7_code
def y_LA_sync : MethodName := ⟨R_LA, "sync", "(LSpillQueue;[J)I"⟩
abbrev b_LA_cutAt : ByteArray := method_8_code
def y_LA_cutAt : MethodName := ⟨R_LA, "cutAt", "(LSpillQueue;I)I"⟩
abbrev b_LA_cut : ByteArray := method_9_code
def y_LA_cut : MethodName := ⟨R_LA, "cut", "(LSpillQueue;)I"⟩
abbrev b_LA_recover : ByteArray := method_10_code
def y_LA_recover : MethodName := ⟨R_LA, "recover", "(LSpillQueue;[J)I"⟩
abbrev b_LA_run : ByteArray := method_11_code
def y_LA_run : MethodName := ⟨R_LA, "run", "(LSpillQueue;II[J)I"⟩
abbrev b_LA_about : ByteArray := method_12_code
def y_LA_about : MethodName := ⟨R_LA, "about", "(LSpillQueue;I[J)I"⟩
abbrev b_LA_word : ByteArray := method_13_code
def y_LA_word : MethodName := ⟨R_LA, "word", "(LSpillQueue;II[J)I"⟩
abbrev b_LA_spoil : ByteArray := method_14_code
def y_LA_spoil : MethodName := ⟨R_LA, "spoil", "(LSpillQueue;III)I"⟩
end
section
/-! The walk's judgement over worlds and lists of locals alone: heap, written places and slots are hidden. -/
abbrev gX := va_G × ClassId × ClassId × ClassId
def gT (X : gX) : List (ClassId × FieldType) := [(X.2.1, .int), (X.2.2.1, .boolean), (X.2.2.2, .long)]
abbrev gE := ((Program × Launch × Env × Room) × (State × MethodId × Array Value × List Frame × Method × Code)) × ((State → Prop) × (Nat → Prop) × Heap × Nat)
def gW (X : gX) (E : gE) (cells slots : Nat) (ws : va_W) (lv : List (Nat × Value)) (pc : Nat) (st : List Value) : Prop := match E with
  | (((p, l, e, R), (s, m, args, below, meth, c)), (Q, A, H0, nL)) => ∀ (H : Heap) (locs : List Loc) (ls : Array Slot), va_P X.1 vwCl ws H → va_D A ws → va_S A H0 H locs → lv_has ls nL lv → W p l e R s m args below meth c H locs cells slots Q (F0 m pc ls st)
/-- what a walk stands on: the machine, the code, the words and the nest's words, the classes -/
def gC (X : gX) (E : gE) (cc : ByteArray) (nL0 : Nat) (own : String) : Prop := match E with
  | (((p, _, _, _), (s, m, args, _, _, c)), (_, A, H0, nL)) => (p.tables.exec = Jvm.exec ∧ c.code = cc ∧ c.maxLocals = nL ∧ s.vm.findClass own = some m.cls ∧ ∀ w ∈ gTs, w.before args s = true) ∧ va_K X.1 vwCl (gT X) s ∧ (∀ w ∈ gNl, va_Nw w s) ∧ (∀ q, H0.size ≤ q → A q) ∧ nL = nL0
/-- a place of a list -/
theorem gm {α : Type} {l : List α} {a : α} (i : Nat) (h : l[i]? = some a) : a ∈ l := List.mem_of_getElem? h
/-- locals in the order of their numbers -/
def lins : List (Nat × Value) → Nat → Value → List (Nat × Value)
  | [], i, v => [(i, v)]
  | (j, x) :: t, i, v => bif Nat.blt i j then (i, v) :: (j, x) :: t else (j, x) :: lins t i v
theorem lins_mem : ∀ (l : List (Nat × Value)) (i : Nat) (v : Value) (q : Nat × Value), q ∈ lins l i v → q = (i, v) ∨ q ∈ l
  | [], i, v, q, h => Or.inl (by simpa [lins] using h)
  | (j, x) :: t, i, v, q, h => by
    unfold lins at h
    cases hb : Nat.blt i j with
    | true =>
      rw [hb] at h
      rcases List.mem_cons.mp h with h | h
      · exact Or.inl h
      · exact Or.inr h
    | false =>
      rw [hb] at h
      rcases List.mem_cons.mp h with h | h
      · exact Or.inr (by rw [h]; exact List.mem_cons_self)
      · rcases lins_mem t i v q h with h | h
        · exact Or.inl h
        · exact Or.inr (List.mem_cons_of_mem _ h)
def lset (lv : List (Nat × Value)) (i : Nat) (v : Value) : List (Nat × Value) := lins (lv.filter (fun q => !(q.1 == i) && !(q.1 + 1 == i && q.2.category == 2))) i v
theorem lset_has {ls : Array Slot} {nL i : Nat} {v : Value} {lv lv' : List (Nat × Value)} (h : lv_has ls nL ((i, v) :: lv.filter (fun q => !(q.1 == i) && !(q.1 + 1 == i && q.2.category == 2)))) (e : lset lv i v = lv') : lv_has ls nL lv' := by
  subst e
  refine ⟨h.1, h.2.1, fun q hq => h.2.2 q ?_⟩
  rcases lins_mem _ _ _ _ hq with h | h
  · rw [h]; exact List.mem_cons_self
  · exact List.mem_cons_of_mem _ h
section GW
variable {X : gX} {E : gE} {cc : ByteArray} {nL0 : Nat} {own : String} {cells slots pc : Nat} {ws : va_W} {lv : List (Nat × Value)} {st : List Value}
theorem g_iconst (C : gC X E cc nL0 own) {n : Int} (v : Int32) (hdg : decode cc pc = .ok (.iconst n, 1)) (hv : Int32.ofInt n = v) (kk : gW X E cells slots ws lv (pc + 1) (.int v :: st)) : gW X E cells slots ws lv pc st := by
  obtain ⟨⟨⟨p, l, e, R⟩, s, m, args, below, meth, c⟩, Q, A, H0, nL⟩ := E
  obtain ⟨⟨hx, hb, hml, hown, hts⟩, hK, hN, hA, hn0⟩ := C
  intro H locs ls hP hD hS hl
  exact lv_iconst hx hb hdg hv (kk H locs ls hP hD hS hl)
theorem g_bipush (C : gC X E cc nL0 own) {n : Int} (v : Int32) (hdg : decode cc pc = .ok (.bipush n, 2)) (hv : (Int8.ofInt n).toInt32 = v) (kk : gW X E cells slots ws lv (pc + 2) (.int v :: st)) : gW X E cells slots ws lv pc st := by
  obtain ⟨⟨⟨p, l, e, R⟩, s, m, args, below, meth, c⟩, Q, A, H0, nL⟩ := E
  obtain ⟨⟨hx, hb, hml, hown, hts⟩, hK, hN, hA, hn0⟩ := C
  intro H locs ls hP hD hS hl
  exact lv_bipush hx hb hdg hv (kk H locs ls hP hD hS hl)
theorem g_sipush (C : gC X E cc nL0 own) {n : Int} (v : Int32) (hdg : decode cc pc = .ok (.sipush n, 3)) (hv : (Int16.ofInt n).toInt32 = v) (kk : gW X E cells slots ws lv (pc + 3) (.int v :: st)) : gW X E cells slots ws lv pc st := by
  obtain ⟨⟨⟨p, l, e, R⟩, s, m, args, below, meth, c⟩, Q, A, H0, nL⟩ := E
  obtain ⟨⟨hx, hb, hml, hown, hts⟩, hK, hN, hA, hn0⟩ := C
  intro H locs ls hP hD hS hl
  exact lv_sipush hx hb hdg hv (kk H locs ls hP hD hS hl)
theorem g_ldc (C : gC X E cc nL0 own) {index : Nat} (v : Int32) (hc : Jvm.Cond.constant own index v ∈ gTs) (hdg : decode cc pc = .ok (.ldc index, 2)) (kk : gW X E cells slots ws lv (pc + 2) (.int v :: st)) : gW X E cells slots ws lv pc st := by
  obtain ⟨⟨⟨p, l, e, R⟩, s, m, args, below, meth, c⟩, Q, A, H0, nL⟩ := E
  obtain ⟨⟨hx, hb, hml, hown, hts⟩, hK, hN, hA, hn0⟩ := C
  intro H locs ls hP hD hS hl
  exact lv_ldc hx hb hown (hts _ hc) hdg (kk H locs ls hP hD hS hl)
theorem g_iload_n (C : gC X E cc nL0 own) {k : Fin 4} {i : Nat} {x : Int32} (hdg : decode cc pc = .ok (.iload_n k, 1)) (hi : (k : Nat) = i) (j : Nat) (hj : lv[j]? = some (i, .int x)) (kk : gW X E cells slots ws lv (pc + 1) (.int x :: st)) : gW X E cells slots ws lv pc st := by
  obtain ⟨⟨⟨p, l, e, R⟩, s, m, args, below, meth, c⟩, Q, A, H0, nL⟩ := E
  obtain ⟨⟨hx, hb, hml, hown, hts⟩, hK, hN, hA, hn0⟩ := C
  intro H locs ls hP hD hS hl
  exact lv_iload_n hx hb hdg hi (lv_at hl j hj) (kk H locs ls hP hD hS hl)
theorem g_iload (C : gC X E cc nL0 own) {i : Nat} {x : Int32} (hdg : decode cc pc = .ok (.iload i, 2)) (j : Nat) (hj : lv[j]? = some (i, .int x)) (kk : gW X E cells slots ws lv (pc + 2) (.int x :: st)) : gW X E cells slots ws lv pc st := by
  obtain ⟨⟨⟨p, l, e, R⟩, s, m, args, below, meth, c⟩, Q, A, H0, nL⟩ := E
  obtain ⟨⟨hx, hb, hml, hown, hts⟩, hK, hN, hA, hn0⟩ := C
  intro H locs ls hP hD hS hl
  exact lv_iload hx hb hdg (lv_at hl j hj) (kk H locs ls hP hD hS hl)
theorem g_istore_n (C : gC X E cc nL0 own) {k : Fin 4} {i : Nat} {x : Int32} {lv2 : List (Nat × Value)} (hdg : decode cc pc = .ok (.istore_n k, 1)) (hi : (k : Nat) = i) (hn : i < nL0) (e2 : lset lv i (.int x) = lv2) (kk : gW X E cells slots ws lv2 (pc + 1) st) : gW X E cells slots ws lv pc (.int x :: st) := by
  obtain ⟨⟨⟨p, l, e, R⟩, s, m, args, below, meth, c⟩, Q, A, H0, nL⟩ := E
  obtain ⟨⟨hx, hb, hml, hown, hts⟩, hK, hN, hA, hn0⟩ := C
  intro H locs ls hP hD hS hl
  subst hn0
  exact lv_istore_n hx hb hdg hi hl hn rfl (fun ls2 hl2 => kk H locs ls2 hP hD hS (lset_has hl2 e2))
theorem g_istore (C : gC X E cc nL0 own) {i : Nat} {x : Int32} {lv2 : List (Nat × Value)} (hdg : decode cc pc = .ok (.istore i, 2)) (hn : i < nL0) (e2 : lset lv i (.int x) = lv2) (kk : gW X E cells slots ws lv2 (pc + 2) st) : gW X E cells slots ws lv pc (.int x :: st) := by
  obtain ⟨⟨⟨p, l, e, R⟩, s, m, args, below, meth, c⟩, Q, A, H0, nL⟩ := E
  obtain ⟨⟨hx, hb, hml, hown, hts⟩, hK, hN, hA, hn0⟩ := C
  intro H locs ls hP hD hS hl
  subst hn0
  exact lv_istore hx hb hdg hl hn rfl (fun ls2 hl2 => kk H locs ls2 hP hD hS (lset_has hl2 e2))
theorem g_aload_n (C : gC X E cc nL0 own) {k : Fin 4} {i : Nat} {x : Nat} (hdg : decode cc pc = .ok (.aload_n k, 1)) (hi : (k : Nat) = i) (j : Nat) (hj : lv[j]? = some (i, .ref x)) (kk : gW X E cells slots ws lv (pc + 1) (.ref x :: st)) : gW X E cells slots ws lv pc st := by
  obtain ⟨⟨⟨p, l, e, R⟩, s, m, args, below, meth, c⟩, Q, A, H0, nL⟩ := E
  obtain ⟨⟨hx, hb, hml, hown, hts⟩, hK, hN, hA, hn0⟩ := C
  intro H locs ls hP hD hS hl
  exact lv_aload_n hx hb hdg hi (lv_at hl j hj) (kk H locs ls hP hD hS hl)
theorem g_aload (C : gC X E cc nL0 own) {i : Nat} {x : Nat} (hdg : decode cc pc = .ok (.aload i, 2)) (j : Nat) (hj : lv[j]? = some (i, .ref x)) (kk : gW X E cells slots ws lv (pc + 2) (.ref x :: st)) : gW X E cells slots ws lv pc st := by
  obtain ⟨⟨⟨p, l, e, R⟩, s, m, args, below, meth, c⟩, Q, A, H0, nL⟩ := E
  obtain ⟨⟨hx, hb, hml, hown, hts⟩, hK, hN, hA, hn0⟩ := C
  intro H locs ls hP hD hS hl
  exact lv_aload hx hb hdg (lv_at hl j hj) (kk H locs ls hP hD hS hl)
theorem g_astore_n (C : gC X E cc nL0 own) {k : Fin 4} {i : Nat} {x : Nat} {lv2 : List (Nat × Value)} (hdg : decode cc pc = .ok (.astore_n k, 1)) (hi : (k : Nat) = i) (hn : i < nL0) (e2 : lset lv i (.ref x) = lv2) (kk : gW X E cells slots ws lv2 (pc + 1) st) : gW X E cells slots ws lv pc (.ref x :: st) := by
  obtain ⟨⟨⟨p, l, e, R⟩, s, m, args, below, meth, c⟩, Q, A, H0, nL⟩ := E
  obtain ⟨⟨hx, hb, hml, hown, hts⟩, hK, hN, hA, hn0⟩ := C
  intro H locs ls hP hD hS hl
  subst hn0
  exact lv_astore_n hx hb hdg hi hl hn rfl (fun ls2 hl2 => kk H locs ls2 hP hD hS (lset_has hl2 e2))
theorem g_astore (C : gC X E cc nL0 own) {i : Nat} {x : Nat} {lv2 : List (Nat × Value)} (hdg : decode cc pc = .ok (.astore i, 2)) (hn : i < nL0) (e2 : lset lv i (.ref x) = lv2) (kk : gW X E cells slots ws lv2 (pc + 2) st) : gW X E cells slots ws lv pc (.ref x :: st) := by
  obtain ⟨⟨⟨p, l, e, R⟩, s, m, args, below, meth, c⟩, Q, A, H0, nL⟩ := E
  obtain ⟨⟨hx, hb, hml, hown, hts⟩, hK, hN, hA, hn0⟩ := C
  intro H locs ls hP hD hS hl
  subst hn0
  exact lv_astore hx hb hdg hl hn rfl (fun ls2 hl2 => kk H locs ls2 hP hD hS (lset_has hl2 e2))
theorem g_iinc (C : gC X E cc nL0 own) {i : Nat} {n : Int} {x v : Int32} {lv2 : List (Nat × Value)} (hdg : decode cc pc = .ok (.iinc i n, 3)) (j : Nat) (hj : lv[j]? = some (i, .int x)) (hv : x + Int32.ofInt n = v) (hn : i < nL0) (e2 : lset lv i (.int v) = lv2) (kk : gW X E cells slots ws lv2 (pc + 3) st) : gW X E cells slots ws lv pc st := by
  obtain ⟨⟨⟨p, l, e, R⟩, s, m, args, below, meth, c⟩, Q, A, H0, nL⟩ := E
  obtain ⟨⟨hx, hb, hml, hown, hts⟩, hK, hN, hA, hn0⟩ := C
  intro H locs ls hP hD hS hl
  subst hn0
  exact lv_iinc hx hb hdg hl hj hv hn rfl (fun ls2 hl2 => kk H locs ls2 hP hD hS (lset_has hl2 e2))
theorem g_iadd (C : gC X E cc nL0 own) {x y : Int32} (hdg : decode cc pc = .ok (.iadd, 1)) (kk : gW X E cells slots ws lv (pc + 1) (.int (x + y) :: st)) : gW X E cells slots ws lv pc (.int y :: .int x :: st) := by
  obtain ⟨⟨⟨p, l, e, R⟩, s, m, args, below, meth, c⟩, Q, A, H0, nL⟩ := E
  obtain ⟨⟨hx, hb, hml, hown, hts⟩, hK, hN, hA, hn0⟩ := C
  intro H locs ls hP hD hS hl
  exact lv_iadd hx hb hdg  (kk H locs ls hP hD hS hl)
theorem g_isub (C : gC X E cc nL0 own) {x y : Int32} (hdg : decode cc pc = .ok (.isub, 1)) (kk : gW X E cells slots ws lv (pc + 1) (.int (x - y) :: st)) : gW X E cells slots ws lv pc (.int y :: .int x :: st) := by
  obtain ⟨⟨⟨p, l, e, R⟩, s, m, args, below, meth, c⟩, Q, A, H0, nL⟩ := E
  obtain ⟨⟨hx, hb, hml, hown, hts⟩, hK, hN, hA, hn0⟩ := C
  intro H locs ls hP hD hS hl
  exact lv_isub hx hb hdg  (kk H locs ls hP hD hS hl)
theorem g_imul (C : gC X E cc nL0 own) {x y : Int32} (hdg : decode cc pc = .ok (.imul, 1)) (kk : gW X E cells slots ws lv (pc + 1) (.int (x * y) :: st)) : gW X E cells slots ws lv pc (.int y :: .int x :: st) := by
  obtain ⟨⟨⟨p, l, e, R⟩, s, m, args, below, meth, c⟩, Q, A, H0, nL⟩ := E
  obtain ⟨⟨hx, hb, hml, hown, hts⟩, hK, hN, hA, hn0⟩ := C
  intro H locs ls hP hD hS hl
  exact lv_imul hx hb hdg  (kk H locs ls hP hD hS hl)
theorem g_iand (C : gC X E cc nL0 own) {x y : Int32} (hdg : decode cc pc = .ok (.iand, 1)) (kk : gW X E cells slots ws lv (pc + 1) (.int (x &&& y) :: st)) : gW X E cells slots ws lv pc (.int y :: .int x :: st) := by
  obtain ⟨⟨⟨p, l, e, R⟩, s, m, args, below, meth, c⟩, Q, A, H0, nL⟩ := E
  obtain ⟨⟨hx, hb, hml, hown, hts⟩, hK, hN, hA, hn0⟩ := C
  intro H locs ls hP hD hS hl
  exact lv_iand hx hb hdg  (kk H locs ls hP hD hS hl)
theorem g_ior (C : gC X E cc nL0 own) {x y : Int32} (hdg : decode cc pc = .ok (.ior, 1)) (kk : gW X E cells slots ws lv (pc + 1) (.int (x ||| y) :: st)) : gW X E cells slots ws lv pc (.int y :: .int x :: st) := by
  obtain ⟨⟨⟨p, l, e, R⟩, s, m, args, below, meth, c⟩, Q, A, H0, nL⟩ := E
  obtain ⟨⟨hx, hb, hml, hown, hts⟩, hK, hN, hA, hn0⟩ := C
  intro H locs ls hP hD hS hl
  exact lv_ior hx hb hdg  (kk H locs ls hP hD hS hl)
theorem g_ixor (C : gC X E cc nL0 own) {x y : Int32} (hdg : decode cc pc = .ok (.ixor, 1)) (kk : gW X E cells slots ws lv (pc + 1) (.int (x ^^^ y) :: st)) : gW X E cells slots ws lv pc (.int y :: .int x :: st) := by
  obtain ⟨⟨⟨p, l, e, R⟩, s, m, args, below, meth, c⟩, Q, A, H0, nL⟩ := E
  obtain ⟨⟨hx, hb, hml, hown, hts⟩, hK, hN, hA, hn0⟩ := C
  intro H locs ls hP hD hS hl
  exact lv_ixor hx hb hdg  (kk H locs ls hP hD hS hl)
theorem g_idiv (C : gC X E cc nL0 own) {x y : Int32} (hne : ¬ y = 0) (hdg : decode cc pc = .ok (.idiv, 1)) (kk : gW X E cells slots ws lv (pc + 1) (.int (x / y) :: st)) : gW X E cells slots ws lv pc (.int y :: .int x :: st) := by
  obtain ⟨⟨⟨p, l, e, R⟩, s, m, args, below, meth, c⟩, Q, A, H0, nL⟩ := E
  obtain ⟨⟨hx, hb, hml, hown, hts⟩, hK, hN, hA, hn0⟩ := C
  intro H locs ls hP hD hS hl
  exact lv_idiv hx hb hdg hne (kk H locs ls hP hD hS hl)
theorem g_irem (C : gC X E cc nL0 own) {x y : Int32} (hne : ¬ y = 0) (hdg : decode cc pc = .ok (.irem, 1)) (kk : gW X E cells slots ws lv (pc + 1) (.int (x - x / y * y) :: st)) : gW X E cells slots ws lv pc (.int y :: .int x :: st) := by
  obtain ⟨⟨⟨p, l, e, R⟩, s, m, args, below, meth, c⟩, Q, A, H0, nL⟩ := E
  obtain ⟨⟨hx, hb, hml, hown, hts⟩, hK, hN, hA, hn0⟩ := C
  intro H locs ls hP hD hS hl
  exact lv_irem hx hb hdg hne (kk H locs ls hP hD hS hl)
theorem g_dup (C : gC X E cc nL0 own) {a : Value} (ha : a.category = 1) (hdg : decode cc pc = .ok (.dup, 1)) (kk : gW X E cells slots ws lv (pc + 1) (a :: a :: st)) : gW X E cells slots ws lv pc (a :: st) := by
  obtain ⟨⟨⟨p, l, e, R⟩, s, m, args, below, meth, c⟩, Q, A, H0, nL⟩ := E
  obtain ⟨⟨hx, hb, hml, hown, hts⟩, hK, hN, hA, hn0⟩ := C
  intro H locs ls hP hD hS hl
  exact lv_dup hx hb hdg ha (kk H locs ls hP hD hS hl)
theorem g_pop (C : gC X E cc nL0 own) {a : Value} (ha : a.category = 1) (hdg : decode cc pc = .ok (.pop, 1)) (kk : gW X E cells slots ws lv (pc + 1) st) : gW X E cells slots ws lv pc (a :: st) := by
  obtain ⟨⟨⟨p, l, e, R⟩, s, m, args, below, meth, c⟩, Q, A, H0, nL⟩ := E
  obtain ⟨⟨hx, hb, hml, hown, hts⟩, hK, hN, hA, hn0⟩ := C
  intro H locs ls hP hD hS hl
  exact lv_pop hx hb hdg ha (kk H locs ls hP hD hS hl)
theorem g_dup_x1 (C : gC X E cc nL0 own) {a b : Value} (ha : a.category = 1) (h2 : b.category = 1) (hdg : decode cc pc = .ok (.dup_x1, 1)) (kk : gW X E cells slots ws lv (pc + 1) (a :: b :: a :: st)) : gW X E cells slots ws lv pc (a :: b :: st) := by
  obtain ⟨⟨⟨p, l, e, R⟩, s, m, args, below, meth, c⟩, Q, A, H0, nL⟩ := E
  obtain ⟨⟨hx, hb, hml, hown, hts⟩, hK, hN, hA, hn0⟩ := C
  intro H locs ls hP hD hS hl
  exact lv_dup_x1 hx hb hdg ha h2 (kk H locs ls hP hD hS hl)
theorem g_dup2 (C : gC X E cc nL0 own) {a b : Value} (ha : a.category = 1) (h2 : b.category = 1) (hdg : decode cc pc = .ok (.dup2, 1)) (kk : gW X E cells slots ws lv (pc + 1) (a :: b :: a :: b :: st)) : gW X E cells slots ws lv pc (a :: b :: st) := by
  obtain ⟨⟨⟨p, l, e, R⟩, s, m, args, below, meth, c⟩, Q, A, H0, nL⟩ := E
  obtain ⟨⟨hx, hb, hml, hown, hts⟩, hK, hN, hA, hn0⟩ := C
  intro H locs ls hP hD hS hl
  exact lv_dup2_11 hx hb hdg ha h2 (kk H locs ls hP hD hS hl)
theorem g_goto (C : gC X E cc nL0 own) {off : Int} (tgt : Nat) (hdg : decode cc pc = .ok (.goto off, 3)) (ht : (pc : Int) + off = (tgt : Int)) (kk : gW X E cells slots ws lv tgt st) : gW X E cells slots ws lv pc st := by
  obtain ⟨⟨⟨p, l, e, R⟩, s, m, args, below, meth, c⟩, Q, A, H0, nL⟩ := E
  obtain ⟨⟨hx, hb, hml, hown, hts⟩, hK, hN, hA, hn0⟩ := C
  intro H locs ls hP hD hS hl
  exact lv_goto hx hb hdg ht (kk H locs ls hP hD hS hl)
theorem g_if_eq (C : gC X E cc nL0 own) {x : Int32} {off : Int} (tgt : Nat) (hdg : decode cc pc = .ok (.ifCond .eq off, 3)) (ht : (pc : Int) + off = (tgt : Int)) (kt : x = 0 → gW X E cells slots ws lv tgt st) (kf : ¬ x = 0 → gW X E cells slots ws lv (pc + 3) st) : gW X E cells slots ws lv pc (.int x :: st) := by
  obtain ⟨⟨⟨p, l, e, R⟩, s, m, args, below, meth, c⟩, Q, A, H0, nL⟩ := E
  obtain ⟨⟨hx, hb, hml, hown, hts⟩, hK, hN, hA, hn0⟩ := C
  intro H locs ls hP hD hS hl
  exact lv_if_eq hx hb hdg ht (fun h => kt h H locs ls hP hD hS hl) (fun h => kf h H locs ls hP hD hS hl)
theorem g_icmp_eq (C : gC X E cc nL0 own) {x y : Int32} {off : Int} (tgt : Nat) (hdg : decode cc pc = .ok (.if_icmp .eq off, 3)) (ht : (pc : Int) + off = (tgt : Int)) (kt : x = y → gW X E cells slots ws lv tgt st) (kf : ¬ x = y → gW X E cells slots ws lv (pc + 3) st) : gW X E cells slots ws lv pc (.int y :: .int x :: st) := by
  obtain ⟨⟨⟨p, l, e, R⟩, s, m, args, below, meth, c⟩, Q, A, H0, nL⟩ := E
  obtain ⟨⟨hx, hb, hml, hown, hts⟩, hK, hN, hA, hn0⟩ := C
  intro H locs ls hP hD hS hl
  exact lv_icmp_eq hx hb hdg ht (fun h => kt h H locs ls hP hD hS hl) (fun h => kf h H locs ls hP hD hS hl)
theorem g_if_ne (C : gC X E cc nL0 own) {x : Int32} {off : Int} (tgt : Nat) (hdg : decode cc pc = .ok (.ifCond .ne off, 3)) (ht : (pc : Int) + off = (tgt : Int)) (kt : ¬ x = 0 → gW X E cells slots ws lv tgt st) (kf : x = 0 → gW X E cells slots ws lv (pc + 3) st) : gW X E cells slots ws lv pc (.int x :: st) := by
  obtain ⟨⟨⟨p, l, e, R⟩, s, m, args, below, meth, c⟩, Q, A, H0, nL⟩ := E
  obtain ⟨⟨hx, hb, hml, hown, hts⟩, hK, hN, hA, hn0⟩ := C
  intro H locs ls hP hD hS hl
  exact lv_if_ne hx hb hdg ht (fun h => kt h H locs ls hP hD hS hl) (fun h => kf h H locs ls hP hD hS hl)
theorem g_icmp_ne (C : gC X E cc nL0 own) {x y : Int32} {off : Int} (tgt : Nat) (hdg : decode cc pc = .ok (.if_icmp .ne off, 3)) (ht : (pc : Int) + off = (tgt : Int)) (kt : ¬ x = y → gW X E cells slots ws lv tgt st) (kf : x = y → gW X E cells slots ws lv (pc + 3) st) : gW X E cells slots ws lv pc (.int y :: .int x :: st) := by
  obtain ⟨⟨⟨p, l, e, R⟩, s, m, args, below, meth, c⟩, Q, A, H0, nL⟩ := E
  obtain ⟨⟨hx, hb, hml, hown, hts⟩, hK, hN, hA, hn0⟩ := C
  intro H locs ls hP hD hS hl
  exact lv_icmp_ne hx hb hdg ht (fun h => kt h H locs ls hP hD hS hl) (fun h => kf h H locs ls hP hD hS hl)
theorem g_if_lt (C : gC X E cc nL0 own) {x : Int32} {off : Int} (tgt : Nat) (hdg : decode cc pc = .ok (.ifCond .lt off, 3)) (ht : (pc : Int) + off = (tgt : Int)) (kt : x < 0 → gW X E cells slots ws lv tgt st) (kf : ¬ x < 0 → gW X E cells slots ws lv (pc + 3) st) : gW X E cells slots ws lv pc (.int x :: st) := by
  obtain ⟨⟨⟨p, l, e, R⟩, s, m, args, below, meth, c⟩, Q, A, H0, nL⟩ := E
  obtain ⟨⟨hx, hb, hml, hown, hts⟩, hK, hN, hA, hn0⟩ := C
  intro H locs ls hP hD hS hl
  exact lv_if_lt hx hb hdg ht (fun h => kt h H locs ls hP hD hS hl) (fun h => kf h H locs ls hP hD hS hl)
theorem g_icmp_lt (C : gC X E cc nL0 own) {x y : Int32} {off : Int} (tgt : Nat) (hdg : decode cc pc = .ok (.if_icmp .lt off, 3)) (ht : (pc : Int) + off = (tgt : Int)) (kt : x < y → gW X E cells slots ws lv tgt st) (kf : ¬ x < y → gW X E cells slots ws lv (pc + 3) st) : gW X E cells slots ws lv pc (.int y :: .int x :: st) := by
  obtain ⟨⟨⟨p, l, e, R⟩, s, m, args, below, meth, c⟩, Q, A, H0, nL⟩ := E
  obtain ⟨⟨hx, hb, hml, hown, hts⟩, hK, hN, hA, hn0⟩ := C
  intro H locs ls hP hD hS hl
  exact lv_icmp_lt hx hb hdg ht (fun h => kt h H locs ls hP hD hS hl) (fun h => kf h H locs ls hP hD hS hl)
theorem g_if_ge (C : gC X E cc nL0 own) {x : Int32} {off : Int} (tgt : Nat) (hdg : decode cc pc = .ok (.ifCond .ge off, 3)) (ht : (pc : Int) + off = (tgt : Int)) (kt : 0 ≤ x → gW X E cells slots ws lv tgt st) (kf : ¬ 0 ≤ x → gW X E cells slots ws lv (pc + 3) st) : gW X E cells slots ws lv pc (.int x :: st) := by
  obtain ⟨⟨⟨p, l, e, R⟩, s, m, args, below, meth, c⟩, Q, A, H0, nL⟩ := E
  obtain ⟨⟨hx, hb, hml, hown, hts⟩, hK, hN, hA, hn0⟩ := C
  intro H locs ls hP hD hS hl
  exact lv_if_ge hx hb hdg ht (fun h => kt h H locs ls hP hD hS hl) (fun h => kf h H locs ls hP hD hS hl)
theorem g_icmp_ge (C : gC X E cc nL0 own) {x y : Int32} {off : Int} (tgt : Nat) (hdg : decode cc pc = .ok (.if_icmp .ge off, 3)) (ht : (pc : Int) + off = (tgt : Int)) (kt : y ≤ x → gW X E cells slots ws lv tgt st) (kf : ¬ y ≤ x → gW X E cells slots ws lv (pc + 3) st) : gW X E cells slots ws lv pc (.int y :: .int x :: st) := by
  obtain ⟨⟨⟨p, l, e, R⟩, s, m, args, below, meth, c⟩, Q, A, H0, nL⟩ := E
  obtain ⟨⟨hx, hb, hml, hown, hts⟩, hK, hN, hA, hn0⟩ := C
  intro H locs ls hP hD hS hl
  exact lv_icmp_ge hx hb hdg ht (fun h => kt h H locs ls hP hD hS hl) (fun h => kf h H locs ls hP hD hS hl)
theorem g_if_gt (C : gC X E cc nL0 own) {x : Int32} {off : Int} (tgt : Nat) (hdg : decode cc pc = .ok (.ifCond .gt off, 3)) (ht : (pc : Int) + off = (tgt : Int)) (kt : 0 < x → gW X E cells slots ws lv tgt st) (kf : ¬ 0 < x → gW X E cells slots ws lv (pc + 3) st) : gW X E cells slots ws lv pc (.int x :: st) := by
  obtain ⟨⟨⟨p, l, e, R⟩, s, m, args, below, meth, c⟩, Q, A, H0, nL⟩ := E
  obtain ⟨⟨hx, hb, hml, hown, hts⟩, hK, hN, hA, hn0⟩ := C
  intro H locs ls hP hD hS hl
  exact lv_if_gt hx hb hdg ht (fun h => kt h H locs ls hP hD hS hl) (fun h => kf h H locs ls hP hD hS hl)
theorem g_icmp_gt (C : gC X E cc nL0 own) {x y : Int32} {off : Int} (tgt : Nat) (hdg : decode cc pc = .ok (.if_icmp .gt off, 3)) (ht : (pc : Int) + off = (tgt : Int)) (kt : y < x → gW X E cells slots ws lv tgt st) (kf : ¬ y < x → gW X E cells slots ws lv (pc + 3) st) : gW X E cells slots ws lv pc (.int y :: .int x :: st) := by
  obtain ⟨⟨⟨p, l, e, R⟩, s, m, args, below, meth, c⟩, Q, A, H0, nL⟩ := E
  obtain ⟨⟨hx, hb, hml, hown, hts⟩, hK, hN, hA, hn0⟩ := C
  intro H locs ls hP hD hS hl
  exact lv_icmp_gt hx hb hdg ht (fun h => kt h H locs ls hP hD hS hl) (fun h => kf h H locs ls hP hD hS hl)
theorem g_if_le (C : gC X E cc nL0 own) {x : Int32} {off : Int} (tgt : Nat) (hdg : decode cc pc = .ok (.ifCond .le off, 3)) (ht : (pc : Int) + off = (tgt : Int)) (kt : x ≤ 0 → gW X E cells slots ws lv tgt st) (kf : ¬ x ≤ 0 → gW X E cells slots ws lv (pc + 3) st) : gW X E cells slots ws lv pc (.int x :: st) := by
  obtain ⟨⟨⟨p, l, e, R⟩, s, m, args, below, meth, c⟩, Q, A, H0, nL⟩ := E
  obtain ⟨⟨hx, hb, hml, hown, hts⟩, hK, hN, hA, hn0⟩ := C
  intro H locs ls hP hD hS hl
  exact lv_if_le hx hb hdg ht (fun h => kt h H locs ls hP hD hS hl) (fun h => kf h H locs ls hP hD hS hl)
theorem g_icmp_le (C : gC X E cc nL0 own) {x y : Int32} {off : Int} (tgt : Nat) (hdg : decode cc pc = .ok (.if_icmp .le off, 3)) (ht : (pc : Int) + off = (tgt : Int)) (kt : x ≤ y → gW X E cells slots ws lv tgt st) (kf : ¬ x ≤ y → gW X E cells slots ws lv (pc + 3) st) : gW X E cells slots ws lv pc (.int y :: .int x :: st) := by
  obtain ⟨⟨⟨p, l, e, R⟩, s, m, args, below, meth, c⟩, Q, A, H0, nL⟩ := E
  obtain ⟨⟨hx, hb, hml, hown, hts⟩, hK, hN, hA, hn0⟩ := C
  intro H locs ls hP hD hS hl
  exact lv_icmp_le hx hb hdg ht (fun h => kt h H locs ls hP hD hS hl) (fun h => kf h H locs ls hP hD hS hl)
/-- a value on the stack gets a name -/
theorem g_topi {x : Int32} (kk : ∀ y : Int32, y = x → gW X E cells slots ws lv pc (.int y :: st)) : gW X E cells slots ws lv pc (.int x :: st) := kk x rfl
/-- the world in other words -/
theorem g_w {ws2 : va_W} (h : ws = ws2) (kk : gW X E cells slots ws2 lv pc st) : gW X E cells slots ws lv pc st := by rw [h]; exact kk
/-- fewer locals -/
theorem g_lv (C : gC X E cc nL0 own) {lv2 : List (Nat × Value)} (ks : List Nat) (h : lv_pick lv ks = lv2) (kk : gW X E cells slots ws lv2 pc st) : gW X E cells slots ws lv pc st := by
  obtain ⟨⟨⟨p, l, e, R⟩, s, m, args, below, meth, c⟩, Q, A, H0, nL⟩ := E
  obtain ⟨⟨hx, hb, hml, hown, hts⟩, hK, hN, hA, hn0⟩ := C
  intro H locs ls hP hD hS hl
  exact kk H locs ls hP hD hS (lv_sub hl ks h)
theorem g_get (C : gC X E cc nL0 own) (q0 k : Nat) {ref C0 : String} {T : u_T} {N ci index a : Nat} {fs : List Value} {v : Value} (hin : ∀ w ∈ u_ws C0 T N, w ∈ gTs) (he : ws[q0]? = some (a, .inr (ci, fs))) (hc : vwCl[ci]? = some (C0, T, N)) (hk : k < N) (hlink : Cond.fieldLink own index ref (T k).2.1 (T k).2.2.1 ∈ gTs) (href : (T k).1 = ref) (hv : fs[k]? = some v) (hdg : decode cc pc = .ok (.getfield index, 3)) (kk : gW X E cells slots ws lv (pc + 3) (v :: st)) : gW X E cells slots ws lv pc (.ref a :: st) := by
  obtain ⟨⟨⟨p, l, e, R⟩, s, m, args, below, meth, c⟩, Q, A, H0, nL⟩ := E
  obtain ⟨⟨hx, hb, hml, hown, hts⟩, hK, hN, hA, hn0⟩ := C
  intro H locs ls hP hD hS hl
  exact va_get hx hb hts hin hown hK hP q0 he hc k hk (hts _ hlink) (fun x h => by rw [← href]; exact h) hv hdg (kk H locs ls hP hD hS hl)
theorem g_put (C : gC X E cc nL0 own) (q0 k : Nat) {ref C0 : String} {T : u_T} {N ci index a : Nat} {fs : List Value} {v : Value} {ws2 : va_W} (hin : ∀ w ∈ u_ws C0 T N, w ∈ gTs) (ty0 : Nat → FieldType) (hty : ∀ k, k < N → parseFieldDescriptor (T k).2.2.1 = some (ty0 k)) (hnm : ∀ a, a < N → ∀ b, b < N → a ≠ b → (T a).2.1 ≠ (T b).2.1) (he : ws[q0]? = some (a, .inr (ci, fs))) (hc : vwCl[ci]? = some (C0, T, N)) (hk : k < N) (hlink : Cond.fieldLink own index ref (T k).2.1 (T k).2.2.1 ∈ gTs) (href : (T k).1 = ref) (hfin : (T k).2.2.2 = false) (hn : narrow (ty0 k) v = v) (hfit : fits (ty0 k) v = true) (hlen : k < fs.length) (e2 : ws.set q0 (a, .inr (ci, fs.set k v)) = ws2) (hdg : decode cc pc = .ok (.putfield index, 3)) (kk : gW X E cells slots ws2 lv (pc + 3) st) : gW X E cells slots ws lv pc (v :: .ref a :: st) := by
  obtain ⟨⟨⟨p, l, e, R⟩, s, m, args, below, meth, c⟩, Q, A, H0, nL⟩ := E
  obtain ⟨⟨hx, hb, hml, hown, hts⟩, hK, hN, hA, hn0⟩ := C
  intro H locs ls hP hD hS hl
  exact va_put hx hb hts hin ty0 hty hnm hown hK hP hD hS q0 he hc k hk (hts _ hlink) (fun x h => by rw [← href]; exact h) hfin (hty k hk) hn hfit hlen hdg (fun H1 locs1 hP1 hD1 hS1 => kk H1 locs1 ls (e2 ▸ hP1) (e2 ▸ hD1) hS1 hl)
theorem g_getN (C : gC X E cc nL0 own) (q0 k : Nat) {ref C0 host : String} {T : u_T} {N ci index a : Nat} {fs : List Value} {v : Value} (hin : ∀ w ∈ u_ws C0 T N, w ∈ gTs) (he : ws[q0]? = some (a, .inr (ci, fs))) (hc : vwCl[ci]? = some (C0, T, N)) (hk : k < N) (hlink : Cond.fieldLinkNest own index ref (T k).2.1 (T k).2.2.1 host ∈ gNl) (href : (T k).1 = ref) (hv : fs[k]? = some v) (hdg : decode cc pc = .ok (.getfield index, 3)) (kk : gW X E cells slots ws lv (pc + 3) (v :: st)) : gW X E cells slots ws lv pc (.ref a :: st) := by
  obtain ⟨⟨⟨p, l, e, R⟩, s, m, args, below, meth, c⟩, Q, A, H0, nL⟩ := E
  obtain ⟨⟨hx, hb, hml, hown, hts⟩, hK, hN, hA, hn0⟩ := C
  intro H locs ls hP hD hS hl
  exact va_getN hx hb hts hin hown hK hP q0 he hc k hk (va_Nw.use rfl (hN _ hlink)) (fun x h => by rw [← href]; exact h) hv hdg (kk H locs ls hP hD hS hl)
theorem g_putN (C : gC X E cc nL0 own) (q0 k : Nat) {ref C0 host : String} {T : u_T} {N ci index a : Nat} {fs : List Value} {v : Value} {ws2 : va_W} (hin : ∀ w ∈ u_ws C0 T N, w ∈ gTs) (ty0 : Nat → FieldType) (hty : ∀ k, k < N → parseFieldDescriptor (T k).2.2.1 = some (ty0 k)) (hnm : ∀ a, a < N → ∀ b, b < N → a ≠ b → (T a).2.1 ≠ (T b).2.1) (he : ws[q0]? = some (a, .inr (ci, fs))) (hc : vwCl[ci]? = some (C0, T, N)) (hk : k < N) (hlink : Cond.fieldLinkNest own index ref (T k).2.1 (T k).2.2.1 host ∈ gNl) (href : (T k).1 = ref) (hfin : (T k).2.2.2 = false) (hn : narrow (ty0 k) v = v) (hfit : fits (ty0 k) v = true) (hlen : k < fs.length) (e2 : ws.set q0 (a, .inr (ci, fs.set k v)) = ws2) (hdg : decode cc pc = .ok (.putfield index, 3)) (kk : gW X E cells slots ws2 lv (pc + 3) st) : gW X E cells slots ws lv pc (v :: .ref a :: st) := by
  obtain ⟨⟨⟨p, l, e, R⟩, s, m, args, below, meth, c⟩, Q, A, H0, nL⟩ := E
  obtain ⟨⟨hx, hb, hml, hown, hts⟩, hK, hN, hA, hn0⟩ := C
  intro H locs ls hP hD hS hl
  exact va_putN hx hb hts hin ty0 hty hnm hown hK hP hD hS q0 he hc k hk (va_Nw.use rfl (hN _ hlink)) (fun x h => by rw [← href]; exact h) hfin (hty k hk) hn hfit hlen hdg (fun H1 locs1 hP1 hD1 hS1 => kk H1 locs1 ls (e2 ▸ hP1) (e2 ▸ hD1) hS1 hl)
theorem g_iald (C : gC X E cc nL0 own) (q0 t0 : Nat) {cA : ClassId} {n a : Nat} {f : Nat → Int32} {i : Int32} (ha : ws[q0]? = some (a, .inl (cA, n, .inl f))) (ht : (gT X)[t0]? = some (cA, .int)) (hin : vp_in i n) (hdg : decode cc pc = .ok (.iaload, 1)) (kk : gW X E cells slots ws lv (pc + 1) (.int (f i.toNatClampNeg) :: st)) : gW X E cells slots ws lv pc (.int i :: .ref a :: st) := by
  obtain ⟨⟨⟨p, l, e, R⟩, s, m, args, below, meth, c⟩, Q, A, H0, nL⟩ := E
  obtain ⟨⟨hx, hb, hml, hown, hts⟩, hK, hN, hA, hn0⟩ := C
  intro H locs ls hP hD hS hl
  exact va_iald hx hb hK hP q0 t0 ha ht hin hdg (kk H locs ls hP hD hS hl)
theorem g_zald (C : gC X E cc nL0 own) (q0 t0 : Nat) {cA : ClassId} {n a : Nat} {f : Nat → Int32} {i : Int32} (ha : ws[q0]? = some (a, .inl (cA, n, .inl f))) (ht : (gT X)[t0]? = some (cA, .boolean)) (hin : vp_in i n) (hdg : decode cc pc = .ok (.baload, 1)) (kk : gW X E cells slots ws lv (pc + 1) (.int (f i.toNatClampNeg) :: st)) : gW X E cells slots ws lv pc (.int i :: .ref a :: st) := by
  obtain ⟨⟨⟨p, l, e, R⟩, s, m, args, below, meth, c⟩, Q, A, H0, nL⟩ := E
  obtain ⟨⟨hx, hb, hml, hown, hts⟩, hK, hN, hA, hn0⟩ := C
  intro H locs ls hP hD hS hl
  exact va_zald hx hb hK hP q0 t0 ha ht hin hdg (kk H locs ls hP hD hS hl)
theorem g_iast (C : gC X E cc nL0 own) (q0 t0 : Nat) {cA : ClassId} {n a : Nat} {f : Nat → Int32} {i x : Int32} {ws2 : va_W} (ha : ws[q0]? = some (a, .inl (cA, n, .inl f))) (ht : (gT X)[t0]? = some (cA, .int)) (hin : vp_in i n) (e2 : ws.set q0 (a, .inl (cA, n, .inl (upd f i.toNatClampNeg x))) = ws2) (hdg : decode cc pc = .ok (.iastore, 1)) (kk : gW X E cells slots ws2 lv (pc + 1) st) : gW X E cells slots ws lv pc (.int x :: .int i :: .ref a :: st) := by
  obtain ⟨⟨⟨p, l, e, R⟩, s, m, args, below, meth, c⟩, Q, A, H0, nL⟩ := E
  obtain ⟨⟨hx, hb, hml, hown, hts⟩, hK, hN, hA, hn0⟩ := C
  intro H locs ls hP hD hS hl
  exact va_iast hx hb hK hP hD hS q0 t0 ha ht hin hdg (fun H1 locs1 hP1 hD1 hS1 => kk H1 locs1 ls (e2 ▸ hP1) (e2 ▸ hD1) hS1 hl)
theorem g_zast (C : gC X E cc nL0 own) (q0 t0 : Nat) {cA : ClassId} {n a : Nat} {f : Nat → Int32} {i x : Int32} {ws2 : va_W} (ha : ws[q0]? = some (a, .inl (cA, n, .inl f))) (ht : (gT X)[t0]? = some (cA, .boolean)) (hin : vp_in i n) (e2 : ws.set q0 (a, .inl (cA, n, .inl (upd f i.toNatClampNeg (vp_nar .boolean x)))) = ws2) (hdg : decode cc pc = .ok (.bastore, 1)) (kk : gW X E cells slots ws2 lv (pc + 1) st) : gW X E cells slots ws lv pc (.int x :: .int i :: .ref a :: st) := by
  obtain ⟨⟨⟨p, l, e, R⟩, s, m, args, below, meth, c⟩, Q, A, H0, nL⟩ := E
  obtain ⟨⟨hx, hb, hml, hown, hts⟩, hK, hN, hA, hn0⟩ := C
  intro H locs ls hP hD hS hl
  exact va_zast hx hb hK hP hD hS q0 t0 ha ht hin hdg (fun H1 locs1 hP1 hD1 hS1 => kk H1 locs1 ls (e2 ▸ hP1) (e2 ▸ hD1) hS1 hl)
theorem g_alen (C : gC X E cc nL0 own) (q0 t0 : Nat) {cA : ClassId} {a : Nat} {x : vp_A} {ty : FieldType} (v : Int32) (ha : ws[q0]? = some (a, .inl (cA, x))) (ht : (gT X)[t0]? = some (cA, ty)) (hv : Int32.ofNat x.1 = v) (hdg : decode cc pc = .ok (.arraylength, 1)) (kk : gW X E cells slots ws lv (pc + 1) (.int v :: st)) : gW X E cells slots ws lv pc (.ref a :: st) := by
  obtain ⟨⟨⟨p, l, e, R⟩, s, m, args, below, meth, c⟩, Q, A, H0, nL⟩ := E
  obtain ⟨⟨hx, hb, hml, hown, hts⟩, hK, hN, hA, hn0⟩ := C
  intro H locs ls hP hD hS hl
  exact va_alen hx hb hK hP q0 t0 ha ht hv hdg (kk H locs ls hP hD hS hl)
theorem g_tableOut (C : gC X E cc nL0 own) {dflt lo hi : Int} {offs : Array Int} {len : Nat} {x : Int32} (tgt : Nat) (hdg : decode cc pc = .ok (.tableswitch dflt lo hi offs, len)) (h : x.toInt < lo ∨ hi < x.toInt) (ht : (pc : Int) + dflt = (tgt : Int)) (kk : gW X E cells slots ws lv tgt st) : gW X E cells slots ws lv pc (.int x :: st) := by
  obtain ⟨⟨⟨p, l, e, R⟩, s, m, args, below, meth, c⟩, Q, A, H0, nL⟩ := E
  obtain ⟨⟨hx, hb, hml, hown, hts⟩, hK, hN, hA, hn0⟩ := C
  intro H locs ls hP hD hS hl
  exact lv_tableOut hx hb hdg h ht (kk H locs ls hP hD hS hl)
theorem g_tableIn (C : gC X E cc nL0 own) {dflt lo hi : Int} {offs : Array Int} {len : Nat} {x : Int32} {off : Int} (tgt : Nat) (hdg : decode cc pc = .ok (.tableswitch dflt lo hi offs, len)) (h1 : ¬ x.toInt < lo) (h2 : ¬ hi < x.toInt) (ho : offs[(x.toInt - lo).toNat]? = some off) (ht : (pc : Int) + off = (tgt : Int)) (kk : gW X E cells slots ws lv tgt st) : gW X E cells slots ws lv pc (.int x :: st) := by
  obtain ⟨⟨⟨p, l, e, R⟩, s, m, args, below, meth, c⟩, Q, A, H0, nL⟩ := E
  obtain ⟨⟨hx, hb, hml, hown, hts⟩, hK, hN, hA, hn0⟩ := C
  intro H locs ls hP hD hS hl
  exact lv_tableIn hx hb hdg h1 h2 ho ht (kk H locs ls hP hD hS hl)
end GW
end
section
/-! Contracts over worlds, and calls. -/
def gPc (X : gX) (av : List Value) (w : va_W) (sz : Nat) : Array Value → State → Prop := va_Pc av (fun U => U.heap.size = sz ∧ va_P X.1 vwCl w U.heap ∧ va_K X.1 vwCl (gT X) U ∧ va_D (fun _ => True) w ∧ ∀ x ∈ gNl, va_Nw x U)
def gQc (X : gX) (w : va_W) (B : Option Value → va_W → Prop) (sz : Nat) : Array Value → State → Outcome → State → Prop := fun _ st oc t => (∃ (v : Option Value) (u : va_W), oc = .returned v ∧ B v u ∧ va_P X.1 vwCl u t.heap ∧ va_D (va_A w sz) u) ∧ va_F (va_A w sz) st t
/-- the contract of a method that makes no cell -/
def gM (l : Launch) (X : gX) (y : MethodName) (cc : ByteArray) (nL : Nat) (ret : Option FieldType) (rm : Room) (av : List Value) (w : va_W) (B : Option Value → va_W → Prop) : Prop := ∀ sz : Nat, Met l y (.code y cc nL ret :: gTs) rm (gPc X av w sz) (gQc X w B sz) 0 0 (va_A w sz)
/-- how a walk may end: with this answer, in this world -/
def gR (X : gX) (E : gE) (cc : ByteArray) (ret : Option FieldType) (B : Option Value → va_W → Prop) : Prop := ∀ (v : Option Value) (u : va_W) (lv : List (Nat × Value)) (pc : Nat), B v u → ((v = none ∧ ret = none ∧ decode cc pc = .ok (.return_, 1)) ∨ ∃ (x : Int32) (ty : FieldType), v = some (.int x) ∧ ret = some ty ∧ narrow ty (.int x) = .int x ∧ decode cc pc = .ok (.ireturn, 1)) → gW X E 0 0 u lv pc v.toList
theorem g_vret {X : gX} {E : gE} {cc : ByteArray} {B : Option Value → va_W → Prop} {ws : va_W} {lv : List (Nat × Value)} {pc : Nat} (r : gR X E cc none B) (hdg : decode cc pc = .ok (.return_, 1)) (h : B none ws) : gW X E 0 0 ws lv pc [] := r none ws lv pc h (Or.inl ⟨rfl, rfl, hdg⟩)
theorem g_iret {X : gX} {E : gE} {cc : ByteArray} {ty : FieldType} {B : Option Value → va_W → Prop} {ws : va_W} {lv : List (Nat × Value)} {pc : Nat} {x : Int32} (r : gR X E cc (some ty) B) (hn : narrow ty (.int x) = .int x) (hdg : decode cc pc = .ok (.ireturn, 1)) (h : B (some (.int x)) ws) : gW X E 0 0 ws lv pc [.int x] := r (some (.int x)) ws lv pc h (Or.inr ⟨x, ty, rfl, rfl, hn, hdg⟩)
def gRm (E : gE) : Room := E.1.1.2.2.2
theorem gM_of {l : Launch} {X : gX} {y : MethodName} {cc : ByteArray} {nL : Nat} {ret : Option FieldType} {rm : Room} {av : List Value} {w : va_W} {B : Option Value → va_W → Prop} {own : String} {lv0 : List (Nat × Value)} (hy : plainName y.cls = true) (ho : y.cls = own) (hav : (lg_sl av).length ≤ nL) (hlv : lv_args 0 av = lv0)
    (body : ∀ E : gE, gC X E cc nL own → gRm E = rm → gR X E cc ret B → gW X E 0 0 w lv0 0 []) : gM l X y cc nL ret rm av w B := by
  intro sz
  refine Met.ofW (cc := cc) (maxL := nL) (ret := ret) hy rfl ?_
  intro p e s m args below meth c s₁ Bd hml hv
  obtain ⟨rfl, hsz, hP, hK, hD0, hN⟩ := hv
  have hx := Bd.exec
  have hb := Bd.bytes
  have hr := Bd.returns
  have hlocks := Bd.notSynchronized
  have hts := atoms_spec (ws := Cond.code y cc nL ret :: gTs) Bd.pre
  have hown : s.vm.findClass own = some m.cls := by rw [← ho]; exact findClass_of_methodNamed Bd.named
  subst hsz
  have hD := hD0.self (sz := s.heap.size)
  have hS : va_S (va_A w s.heap.size) s.heap s.heap [] := va_S.rf
  have hl := lv_entry av (n := nL) hav
  rw [lg_entry_eq]
  generalize (lg_sl av ++ List.replicate (nL - (lg_sl av).length) Slot.unset).toArray = ls at hl ⊢
  rw [hlv] at hl
  refine body (((p, l, e, (headSpec (Cond.code y cc nL ret :: gTs) rm).room), (s, m, av.toArray, below, meth, c)), (MQ below (gQc X w B s.heap.size) av.toArray s 0 0 (va_A w s.heap.size), va_A w s.heap.size, s.heap, nL)) ⟨⟨hx, hb, hml, hown, fun w h => hts w (List.mem_cons_of_mem _ h)⟩, hK, hN, fun q h => Or.inr h, rfl⟩ rfl ?_ s.heap [] ls hP hD hS hl
  intro v u lv pc hB hi H locs ls2 hP2 hD2 hS2 hl2
  rcases hi with ⟨rfl, rfl, hdg⟩ | ⟨x, ty, rfl, rfl, hn, hdg⟩
  · exact W.vret hx hb hr (fun t ht hW => ⟨⟨none, u, rfl, hB, by rw [ht]; exact hP2, hD2⟩, hS2.F ht⟩) hS2.2.2 hdg hlocks
  · exact W.zret hx hb hr hn (fun t ht hW => ⟨⟨some (.int x), u, rfl, hB, by rw [ht]; exact hP2, hD2⟩, hS2.F ht⟩) hS2.2.2 hdg hlocks
theorem gNw_warm {w : Cond} (h : gNok w = true) {s U : State} (hW : s.WarmedH U.vm) (hz : va_Nw w s) : va_Nw w U := by
  cases w <;> first | (simp [gNok] at h; done) | exact va_Nw.warmF hW hz | exact va_Nw.warmM hW hz | exact va_Nw.warmD hW hz
theorem gNw_same {w : Cond} (h : gNok w = true) {s U : State} (e : s.vm = U.vm) (hz : va_Nw w s) : va_Nw w U := by
  cases w <;> first | (simp [gNok] at h; done) | exact va_Nw.same rfl e hz
theorem gPc_blind {X : gX} {av : List Value} {w : va_W} {sz : Nat} : FrameBlind (gPc X av w sz) := by
  intro a U g mk q
  obtain ⟨q0, q1, qP, qK, qD, qN⟩ := q
  exact ⟨q0, q1, qP, va_K.moved (u := U) (U := U.calling g mk a) (Vm.Alike.refl U.vm) qK, qD, fun x hx => gNw_same (s := U) (U := U.calling g mk a) (gNl_ok x hx) rfl (qN x hx)⟩
section GCALL
variable {p : Program} {l : Launch} {e : Env} {R : Room} {s : State} {m : MethodId} {args : Array Value} {below : List Frame} {meth : Method} {c : Code} {H : Heap} {locs : List Loc} {cells slots : Nat} {Q : State → Prop} {X : gX}
theorem gPc_at {av : List Value} {w : va_W} (hP : va_P X.1 vwCl w H) (hK : va_K X.1 vwCl (gT X) s) {A : Nat → Prop} (hD : va_D A w) (hN : ∀ x ∈ gNl, va_Nw x s) : ∀ U : State, U.heap = H → s.WarmedH U.vm → gPc X av w H.size av.toArray U := fun U hU hW => ⟨rfl, by rw [hU], by rw [hU]; exact hP, va_K.moved hW.alike hK, hD.weaken (fun _ _ _ _ => trivial), fun x hx => gNw_warm (gNl_ok x hx) hW (hN x hx)⟩
/-- behind a call on the whole world -/
theorem gx_call {A0 : Nat → Prop} {H0 : Heap} {w : va_W} {B : Option Value → va_W → Prop} {a : Array Value} {pc : Nat} {ls : Array Slot} {st0 rest : List Value} (hr : va_Run p l e R s m args below meth c H locs cells slots 0 0 (F0 m pc ls st0) rest (gQc X w B H.size a) (va_A w H.size)) (hD : va_D A0 w) (hS : va_S A0 H0 H locs) (hA : ∀ q, H0.size ≤ q → A0 q)
    (kk : ∀ (v : Option Value) (u : va_W) (H1 : Heap) (locs1 : List Loc), B v u → va_P X.1 vwCl u H1 → va_D A0 u → va_S A0 H0 H1 locs1 → W p l e R s m args below meth c H1 locs1 cells slots Q (F0 m (pc + 3) ls (v.toList ++ rest))) : W p l e R s m args below meth c H locs cells slots Q (F0 m pc ls st0) := by
  have hF : ∀ q, va_A w H.size q → A0 q := by
    intro q h
    rcases h with ⟨k, e, h⟩ | h
    · exact hD.2 k (q, e) h
    · exact hA q (Nat.le_trans hS.1 h)
  intro T hT Y
  obtain ⟨v, st₀, t, T', L, h0, Y', hL, e1, e2, ⟨⟨v2, u, hv, hB, hP1, hD1⟩, hz, hk⟩, st⟩ := hr T hT Y
  cases hv
  rw [h0] at hz hk
  obtain ⟨t2, a1, b1⟩ := kk v u T'.heap (locs ++ L) hB (by rw [e1]; exact hP1) (hD1.weaken (fun k q _ h => hF q.1 h))
    ⟨Nat.le_trans hS.1 (by rw [e1]; exact hz), fun q h1 h2 => by rw [e1, hk q (Nat.lt_of_lt_of_le h1 hS.1) (fun z => h2 (hF q z))]; exact hS.2.1 q h1 h2, fun q hq => by
      rcases List.mem_append.mp hq with h | h
      · exact hS.2.2 q h
      · exact hF _ (hL q h)⟩ T' rfl Y'
  exact ⟨t2, st t2 a1, b1⟩
end GCALL
/-- the tables' words are good for every callee -/
theorem gGood {y : MethodName} {cc : ByteArray} {nL : Nat} {ret : Option FieldType} (h : Cond.code y cc nL ret ∈ gTs) (hG : ∀ w ∈ gTs, ((w.onTables && w.keeps) = true ∨ ∃ ty, w = .arrayClass ty)) : GoodIn gTs (Cond.code y cc nL ret :: gTs) := by
  intro w hw
  rcases List.mem_cons.mp hw with rfl | hw
  · exact ⟨h, hG _ h⟩
  · exact ⟨hw, hG w hw⟩
section GK
variable {X : gX} {E : gE} {cc : ByteArray} {nL0 : Nat} {own : String} {cells slots pc : Nat} {ws : va_W} {lv : List (Nat × Value)} {rest : List Value}
variable {y : MethodName} {bytes : ByteArray} {maxL n index : Nat} {ret : Option FieldType} {rm : Room} {B : Option Value → va_W → Prop} {As : List Value}
/-- invokevirtual of a method of the receiver's own class -/
theorem g_callV (C : gC X E cc nL0 own) (q0 : Nat) {C0 : String} {T : u_T} {N ci b : Nat} {fs : List Value} (hM : ∀ l, gM l X y bytes maxL ret rm (.ref b :: As) ws B) (he : ws[q0]? = some (b, .inr (ci, fs))) (hc : vwCl[ci]? = some (C0, T, N))
    (h1 : Cond.methodLink own index y ∈ gTs) (cb : gCb y C0 bytes maxL ret n) (h6 : rm.cells = 0 ∧ rm.slots = 0) (hR : rm.frames + 1 ≤ (gRm E).frames ∧ 8 + (maxL + 11) + rm.locals ≤ (gRm E).locals) (hcs : cells ≤ (gRm E).cells ∧ slots ≤ (gRm E).slots) (hn : As.length = n) {st : List Value} (hst : st = As.reverse ++ .ref b :: rest) (hrest : (rest.map fun v => v.category).sum ≤ 8) (hdg : decode cc pc = .ok (.invokevirtual index, 3))
    (kk : ∀ (v : Option Value) (u : va_W), B v u → gW X E cells slots u lv (pc + 3) (v.toList ++ rest)) : gW X E cells slots ws lv pc st := by
  obtain ⟨⟨⟨p, l, e, R⟩, s, m, args, below, meth, c⟩, Q, A, H0, nL⟩ := E
  obtain ⟨⟨hx, hb, hml, hown, hts⟩, hK, hN, hA, hn0⟩ := C
  intro H locs ls hP hD hS hl
  obtain ⟨⟨h2, h3, h4, h5⟩, hd⟩ := cb
  have hG := gGood h5 gTs_good
  have hr := va_runV (e := e) (below := below) (meth := meth) (locs := locs) (cells := cells) (slots := slots) (As := As) (rest := rest) (g := F0 m pc ls st) ⟨hx, hb, hml, hown, hts⟩ (hM l H.size) (R := R) ⟨callB_of n hts hG rfl h6.1 h6.2 (hts _ h4) (hts _ h1) hd hR, hts _ h2, hts _ h3⟩ ⟨gPc_blind, va_recv hK hP hc he, gPc_at hP hK hD hN⟩ rfl hn hl.1 hst (by show 2 * 0 + _ ≤ 8; omega) hdg hcs
  exact gx_call hr hD hS hA (fun v u H1 locs1 hB hP1 hD1 hS1 => kk v u hB H1 locs1 ls hP1 hD1 hS1 hl)
/-- .. of a private method of a nest mate -/
theorem g_callVN (C : gC X E cc nL0 own) (q0 : Nat) {C0 host : String} {T : u_T} {N ci b : Nat} {fs : List Value} (hM : ∀ l, gM l X y bytes maxL ret rm (.ref b :: As) ws B) (he : ws[q0]? = some (b, .inr (ci, fs))) (hc : vwCl[ci]? = some (C0, T, N))
    (h1 : Cond.methodLinkNest own index y host ∈ gNl) (cb : gCb y C0 bytes maxL ret n) (h6 : rm.cells = 0 ∧ rm.slots = 0) (hR : rm.frames + 1 ≤ (gRm E).frames ∧ 8 + (maxL + 11) + rm.locals ≤ (gRm E).locals) (hcs : cells ≤ (gRm E).cells ∧ slots ≤ (gRm E).slots) (hn : As.length = n) {st : List Value} (hst : st = As.reverse ++ .ref b :: rest) (hrest : (rest.map fun v => v.category).sum ≤ 8) (hdg : decode cc pc = .ok (.invokevirtual index, 3))
    (kk : ∀ (v : Option Value) (u : va_W), B v u → gW X E cells slots u lv (pc + 3) (v.toList ++ rest)) : gW X E cells slots ws lv pc st := by
  obtain ⟨⟨⟨p, l, e, R⟩, s, m, args, below, meth, c⟩, Q, A, H0, nL⟩ := E
  obtain ⟨⟨hx, hb, hml, hown, hts⟩, hK, hN, hA, hn0⟩ := C
  intro H locs ls hP hD hS hl
  obtain ⟨⟨h2, h3, h4, h5⟩, hd⟩ := cb
  have hG := gGood h5 gTs_good
  have hr := va_runVN (e := e) (below := below) (meth := meth) (locs := locs) (cells := cells) (slots := slots) (As := As) (rest := rest) (g := F0 m pc ls st) ⟨hx, hb, hml, hown, hts⟩ (hM l H.size) (R := R) ⟨va_cnB n hts hG rfl h6.1 h6.2 (hN _ h1) (hts _ h4) hd hR, hts _ h2, hts _ h3⟩ ⟨gPc_blind, va_recv hK hP hc he, gPc_at hP hK hD hN⟩ rfl hn hl.1 hst (by show 2 * 0 + _ ≤ 8; omega) hdg hcs
  exact gx_call hr hD hS hA (fun v u H1 locs1 hB hP1 hD1 hS1 => kk v u hB H1 locs1 ls hP1 hD1 hS1 hl)
/-- invokestatic -/
theorem g_callS (C : gC X E cc nL0 own) (hM : ∀ l, gM l X y bytes maxL ret rm As ws B)
    (h1 : Cond.methodLink own index y ∈ gTs) (cb : gSb y bytes maxL ret n) (h6 : rm.cells = 0 ∧ rm.slots = 0) (hR : rm.frames + 1 ≤ (gRm E).frames ∧ 8 + (maxL + 11) + rm.locals ≤ (gRm E).locals) (hcs : cells ≤ (gRm E).cells ∧ slots ≤ (gRm E).slots) (hn : As.length = n) {st : List Value} (hst : st = As.reverse ++ rest) (hrest : (rest.map fun v => v.category).sum ≤ 8) (hdg : decode cc pc = .ok (.invokestatic index, 3))
    (kk : ∀ (v : Option Value) (u : va_W), B v u → gW X E cells slots u lv (pc + 3) (v.toList ++ rest)) : gW X E cells slots ws lv pc st := by
  obtain ⟨⟨⟨p, l, e, R⟩, s, m, args, below, meth, c⟩, Q, A, H0, nL⟩ := E
  obtain ⟨⟨hx, hb, hml, hown, hts⟩, hK, hN, hA, hn0⟩ := C
  intro H locs ls hP hD hS hl
  obtain ⟨⟨h2, h4, h5⟩, hd⟩ := cb
  have hG := gGood h5 gTs_good
  have hr := va_runS (e := e) (below := below) (meth := meth) (locs := locs) (cells := cells) (slots := slots) (As := As) (rest := rest) (g := F0 m pc ls st) ⟨hx, hb, hml, hown, hts⟩ (hM l H.size) (R := R) ⟨callB_of n hts hG rfl h6.1 h6.2 (hts _ h4) (hts _ h1) hd hR, hts _ h2⟩ ⟨gPc_blind, gPc_at hP hK hD hN⟩ rfl hn hl.1 hst (by show 2 * 0 + _ ≤ 8; omega) hdg hcs
  exact gx_call hr hD hS hA (fun v u H1 locs1 hB hP1 hD1 hS1 => kk v u hB H1 locs1 ls hP1 hD1 hS1 hl)
end GK
section GLIB
variable {X : gX} {E : gE} {cc : ByteArray} {nL0 : Nat} {own : String} {cells slots pc : Nat} {ws : va_W} {lv : List (Nat × Value)} {st : List Value}
theorem g_mmin (C : gC X E cc nL0 own) {index : Nat} {x y : Int32} (h1 : Cond.methodLink own index Lib.Math.min.name ∈ gTs) (h2 : Cond.static Lib.Math.min.name ∈ gTs) (h3 : Cond.initialized "java/lang/Math" ∈ gTs) (h4 : Cond.code Lib.Math.min.name Lib.Math.min.code 2 (some .int) ∈ gTs) (hR : 1 ≤ (gRm E).frames ∧ (st.map fun v => v.category).sum + 13 ≤ (gRm E).locals) (hcs : cells ≤ (gRm E).cells ∧ slots ≤ (gRm E).slots) (hdg : decode cc pc = .ok (.invokestatic index, 3)) (kk : gW X E cells slots ws lv (pc + 3) (.int (if y < x then y else x) :: st)) : gW X E cells slots ws lv pc (.int y :: .int x :: st) := by
  obtain ⟨⟨⟨p, l, e, R⟩, s, m, args, below, meth, c⟩, Q, A, H0, nL⟩ := E
  obtain ⟨⟨hx, hb, hml, hown, hts⟩, hK, hN, hA, hn0⟩ := C
  intro H locs ls hP hD hS hl
  exact va_mmin hx hb (hml.trans hl.1.symm) hown (hts _ h1) (hts _ h2) (hts _ h3) (hts _ h4) hR.1 hR.2 hcs.1 hcs.2 hdg (kk H locs ls hP hD hS hl)
theorem g_mmax (C : gC X E cc nL0 own) {index : Nat} {x y : Int32} (h1 : Cond.methodLink own index Lib.Math.max.name ∈ gTs) (h2 : Cond.static Lib.Math.max.name ∈ gTs) (h3 : Cond.initialized "java/lang/Math" ∈ gTs) (h4 : Cond.code Lib.Math.max.name Lib.Math.max.code 2 (some .int) ∈ gTs) (hR : 1 ≤ (gRm E).frames ∧ (st.map fun v => v.category).sum + 13 ≤ (gRm E).locals) (hcs : cells ≤ (gRm E).cells ∧ slots ≤ (gRm E).slots) (hdg : decode cc pc = .ok (.invokestatic index, 3)) (kk : gW X E cells slots ws lv (pc + 3) (.int (if x < y then y else x) :: st)) : gW X E cells slots ws lv pc (.int y :: .int x :: st) := by
  obtain ⟨⟨⟨p, l, e, R⟩, s, m, args, below, meth, c⟩, Q, A, H0, nL⟩ := E
  obtain ⟨⟨hx, hb, hml, hown, hts⟩, hK, hN, hA, hn0⟩ := C
  intro H locs ls hP hD hS hl
  exact va_mmax hx hb (hml.trans hl.1.symm) hown (hts _ h1) (hts _ h2) (hts _ h3) (hts _ h4) hR.1 hR.2 hcs.1 hcs.2 hdg (kk H locs ls hP hD hS hl)
/-- System.arraycopy of ints -/
theorem g_copyi (C : gC X E cc nL0 own) {index : Nat} (h1 : Cond.methodLink own index arraycopyName ∈ gTs) (h2 : Cond.native arraycopyName ∈ gTs) (h3 : Cond.static arraycopyName ∈ gTs) (h4 : Cond.initialized "java/lang/System" ∈ gTs) (q0 q1 : Nat) {a0 a : Nat} {c0 c1 : ClassId} {n0 n1 : Nat} {f g : Nat → Int32} {ws2 : va_W} (ha0 : ws[q0]? = some (a0, .inl (c0, n0, .inl f))) (ha1 : ws[q1]? = some (a, .inl (c1, n1, .inl g))) (ht0 : (gT X)[0]? = some (c0, .int)) (ht1 : (gT X)[0]? = some (c1, .int)) {sp dp n : Int32} (hh : ¬ sp < 0 ∧ ¬ dp < 0 ∧ ¬ n < 0 ∧ sp.toNatClampNeg + n.toNatClampNeg ≤ n0 ∧ dp.toNatClampNeg + n.toNatClampNeg ≤ n1) (hR : 1 ≤ (gRm E).frames ∧ (st.map fun v => v.category).sum + (nativeFrameWords "java/lang/System" "arraycopy" 5 + 11) ≤ (gRm E).locals) (e2 : ws.set q1 (a, .inl (c1, n1, .inl (va_cpy f g sp.toNatClampNeg dp.toNatClampNeg n.toNatClampNeg))) = ws2) (hdg : decode cc pc = .ok (.invokestatic index, 3)) (kk : gW X E cells slots ws2 lv (pc + 3) st) : gW X E cells slots ws lv pc (.int n :: .int dp :: .ref a :: .int sp :: .ref a0 :: st) := by
  obtain ⟨⟨⟨p, l, e, R⟩, s, m, args, below, meth, c⟩, Q, A, H0, nL⟩ := E
  obtain ⟨⟨hx, hb, hml, hown, hts⟩, hK, hN, hA, hn0⟩ := C
  intro H locs ls hP hD hS hl
  exact va_copyi hx hb (hml.trans hl.1.symm) hown (hts _ h1) (hts _ h2) (hts _ h3) (hts _ h4) hK hP hD hS q0 q1 0 0 ha0 ha1 ht0 ht1 rfl hh.1 hh.2.1 hh.2.2.1 hh.2.2.2.1 hh.2.2.2.2 (fun _ _ => rfl) hR.1 hR.2 hdg (fun H1 locs1 hP1 hD1 hS1 => kk H1 locs1 ls (e2 ▸ hP1) (e2 ▸ hD1) hS1 hl)
end GLIB
end
