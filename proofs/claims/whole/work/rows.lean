section
-- ===== PART A: goes FIRST, ahead of the names: the tables' words, and 'selects' of the private methods out of them =====
/-- a private method of a class that the tables say can be made, by its rows of tables_1 -/
def lw_okq (q : MethodName × Nat) : Prop := (q.1.cls ≠ "java/lang/invoke/MethodHandle" ∧ q.1.cls ≠ "java/lang/invoke/VarHandle") ∧ Cond.instantiable q.1.cls q.2 ∈ tables_1 ∧ Cond.privateMethod q.1 ∈ tables_1 ∧ Cond.instanceMethod q.1 ∈ tables_1
theorem lw_p0 : lw_okq (⟨"SpillQueue$Runs", "keysInAll", "()I"⟩, 8) := ⟨⟨by decide +kernel, by decide +kernel⟩, List.mem_of_getElem? (i := 77) (by decide +kernel), List.mem_of_getElem? (i := 183) (by decide +kernel), List.mem_of_getElem? (i := 184) (by decide +kernel)⟩
theorem lw_p1 : lw_okq (⟨"java/lang/Throwable", "fillInStackTrace", "(I)Ljava/lang/Throwable;"⟩, 6) := ⟨⟨by decide +kernel, by decide +kernel⟩, List.mem_of_getElem? (i := 233) (by decide +kernel), List.mem_of_getElem? (i := 231) (by decide +kernel), List.mem_of_getElem? (i := 232) (by decide +kernel)⟩
theorem lw_p2 : lw_okq (⟨"SpillQueue", "powerOff", "()V"⟩, 10) := ⟨⟨by decide +kernel, by decide +kernel⟩, List.mem_of_getElem? (i := 19) (by decide +kernel), List.mem_of_getElem? (i := 266) (by decide +kernel), List.mem_of_getElem? (i := 267) (by decide +kernel)⟩
theorem lw_p3 : lw_okq (⟨"SpillQueue$Memory", "clear", "()V"⟩, 3) := ⟨⟨by decide +kernel, by decide +kernel⟩, List.mem_of_getElem? (i := 57) (by decide +kernel), List.mem_of_getElem? (i := 270) (by decide +kernel), List.mem_of_getElem? (i := 271) (by decide +kernel)⟩
theorem lw_p4 : lw_okq (⟨"SpillQueue$Runs", "clear", "()V"⟩, 8) := ⟨⟨by decide +kernel, by decide +kernel⟩, List.mem_of_getElem? (i := 77) (by decide +kernel), List.mem_of_getElem? (i := 274) (by decide +kernel), List.mem_of_getElem? (i := 275) (by decide +kernel)⟩
theorem lw_p5 : lw_okq (⟨"SpillQueue$BlockSet", "clear", "()V"⟩, 1) := ⟨⟨by decide +kernel, by decide +kernel⟩, List.mem_of_getElem? (i := 125) (by decide +kernel), List.mem_of_getElem? (i := 278) (by decide +kernel), List.mem_of_getElem? (i := 279) (by decide +kernel)⟩
theorem lw_p6 : lw_okq (⟨"SpillQueue$Disk", "renew", "(II)V"⟩, 6) := ⟨⟨by decide +kernel, by decide +kernel⟩, List.mem_of_getElem? (i := 27) (by decide +kernel), List.mem_of_getElem? (i := 282) (by decide +kernel), List.mem_of_getElem? (i := 283) (by decide +kernel)⟩
theorem lw_p7 : lw_okq (⟨"SpillQueue", "writeNextEpoch", "()I"⟩, 10) := ⟨⟨by decide +kernel, by decide +kernel⟩, List.mem_of_getElem? (i := 19) (by decide +kernel), List.mem_of_getElem? (i := 289) (by decide +kernel), List.mem_of_getElem? (i := 290) (by decide +kernel)⟩
theorem lw_p8 : lw_okq (⟨"SpillQueue$Superblocks", "store", "(ILSpillQueue$Runs;)Z"⟩, 2) := ⟨⟨by decide +kernel, by decide +kernel⟩, List.mem_of_getElem? (i := 119) (by decide +kernel), List.mem_of_getElem? (i := 293) (by decide +kernel), List.mem_of_getElem? (i := 294) (by decide +kernel)⟩
theorem lw_p9 : lw_okq (⟨"SpillQueue$Disk", "clearRow", "()V"⟩, 6) := ⟨⟨by decide +kernel, by decide +kernel⟩, List.mem_of_getElem? (i := 27) (by decide +kernel), List.mem_of_getElem? (i := 297) (by decide +kernel), List.mem_of_getElem? (i := 298) (by decide +kernel)⟩
theorem lw_p10 : lw_okq (⟨"SpillQueue$Disk", "setRow", "(II)V"⟩, 6) := ⟨⟨by decide +kernel, by decide +kernel⟩, List.mem_of_getElem? (i := 27) (by decide +kernel), List.mem_of_getElem? (i := 301) (by decide +kernel), List.mem_of_getElem? (i := 302) (by decide +kernel)⟩
theorem lw_p11 : lw_okq (⟨"SpillQueue$Disk", "writeRow", "(I)Z"⟩, 6) := ⟨⟨by decide +kernel, by decide +kernel⟩, List.mem_of_getElem? (i := 27) (by decide +kernel), List.mem_of_getElem? (i := 305) (by decide +kernel), List.mem_of_getElem? (i := 306) (by decide +kernel)⟩
theorem lw_p12 : lw_okq (⟨"SpillQueue$Disk", "sumOf", "(I)I"⟩, 6) := ⟨⟨by decide +kernel, by decide +kernel⟩, List.mem_of_getElem? (i := 27) (by decide +kernel), List.mem_of_getElem? (i := 312) (by decide +kernel), List.mem_of_getElem? (i := 313) (by decide +kernel)⟩
theorem lw_p13 : lw_okq (⟨"SpillQueue$Runs", "markBlocks", "(LSpillQueue$BlockSet;)V"⟩, 8) := ⟨⟨by decide +kernel, by decide +kernel⟩, List.mem_of_getElem? (i := 77) (by decide +kernel), List.mem_of_getElem? (i := 316) (by decide +kernel), List.mem_of_getElem? (i := 317) (by decide +kernel)⟩
theorem lw_p14 : lw_okq (⟨"SpillQueue$BlockSet", "add", "(I)V"⟩, 1) := ⟨⟨by decide +kernel, by decide +kernel⟩, List.mem_of_getElem? (i := 125) (by decide +kernel), List.mem_of_getElem? (i := 320) (by decide +kernel), List.mem_of_getElem? (i := 321) (by decide +kernel)⟩
theorem lw_p15 : lw_okq (⟨"SpillQueue$Disk", "get", "(II)I"⟩, 6) := ⟨⟨by decide +kernel, by decide +kernel⟩, List.mem_of_getElem? (i := 27) (by decide +kernel), List.mem_of_getElem? (i := 324) (by decide +kernel), List.mem_of_getElem? (i := 325) (by decide +kernel)⟩
def lw_privs_1 : List (MethodName × Nat) := [(⟨"SpillQueue$Runs", "keysInAll", "()I"⟩, 8), (⟨"java/lang/Throwable", "fillInStackTrace", "(I)Ljava/lang/Throwable;"⟩, 6), (⟨"SpillQueue", "powerOff", "()V"⟩, 10), (⟨"SpillQueue$Memory", "clear", "()V"⟩, 3), (⟨"SpillQueue$Runs", "clear", "()V"⟩, 8), (⟨"SpillQueue$BlockSet", "clear", "()V"⟩, 1), (⟨"SpillQueue$Disk", "renew", "(II)V"⟩, 6), (⟨"SpillQueue", "writeNextEpoch", "()I"⟩, 10), (⟨"SpillQueue$Superblocks", "store", "(ILSpillQueue$Runs;)Z"⟩, 2), (⟨"SpillQueue$Disk", "clearRow", "()V"⟩, 6), (⟨"SpillQueue$Disk", "setRow", "(II)V"⟩, 6), (⟨"SpillQueue$Disk", "writeRow", "(I)Z"⟩, 6), (⟨"SpillQueue$Disk", "sumOf", "(I)I"⟩, 6), (⟨"SpillQueue$Runs", "markBlocks", "(LSpillQueue$BlockSet;)V"⟩, 8), (⟨"SpillQueue$BlockSet", "add", "(I)V"⟩, 1), (⟨"SpillQueue$Disk", "get", "(II)I"⟩, 6)]
theorem lw_r1 : ∀ q ∈ lw_privs_1, lw_okq q := List.forall_mem_cons.mpr ⟨lw_p0, List.forall_mem_cons.mpr ⟨lw_p1, List.forall_mem_cons.mpr ⟨lw_p2, List.forall_mem_cons.mpr ⟨lw_p3, List.forall_mem_cons.mpr ⟨lw_p4, List.forall_mem_cons.mpr ⟨lw_p5, List.forall_mem_cons.mpr ⟨lw_p6, List.forall_mem_cons.mpr ⟨lw_p7, List.forall_mem_cons.mpr ⟨lw_p8, List.forall_mem_cons.mpr ⟨lw_p9, List.forall_mem_cons.mpr ⟨lw_p10, List.forall_mem_cons.mpr ⟨lw_p11, List.forall_mem_cons.mpr ⟨lw_p12, List.forall_mem_cons.mpr ⟨lw_p13, List.forall_mem_cons.mpr ⟨lw_p14, List.forall_mem_cons.mpr ⟨lw_p15, fun _ h => absurd h List.not_mem_nil⟩⟩⟩⟩⟩⟩⟩⟩⟩⟩⟩⟩⟩⟩⟩⟩
theorem lw_p16 : lw_okq (⟨"SpillQueue", "requireLive", "()V"⟩, 10) := ⟨⟨by decide +kernel, by decide +kernel⟩, List.mem_of_getElem? (i := 19) (by decide +kernel), List.mem_of_getElem? (i := 336) (by decide +kernel), List.mem_of_getElem? (i := 337) (by decide +kernel)⟩
theorem lw_p17 : lw_okq (⟨"SpillQueue$Memory", "isFull", "()Z"⟩, 3) := ⟨⟨by decide +kernel, by decide +kernel⟩, List.mem_of_getElem? (i := 57) (by decide +kernel), List.mem_of_getElem? (i := 357) (by decide +kernel), List.mem_of_getElem? (i := 358) (by decide +kernel)⟩
theorem lw_p18 : lw_okq (⟨"SpillQueue", "spill", "()I"⟩, 10) := ⟨⟨by decide +kernel, by decide +kernel⟩, List.mem_of_getElem? (i := 19) (by decide +kernel), List.mem_of_getElem? (i := 361) (by decide +kernel), List.mem_of_getElem? (i := 362) (by decide +kernel)⟩
theorem lw_p19 : lw_okq (⟨"SpillQueue$Disk", "mostRuns", "()I"⟩, 6) := ⟨⟨by decide +kernel, by decide +kernel⟩, List.mem_of_getElem? (i := 27) (by decide +kernel), List.mem_of_getElem? (i := 365) (by decide +kernel), List.mem_of_getElem? (i := 366) (by decide +kernel)⟩
theorem lw_p20 : lw_okq (⟨"SpillQueue$Runs", "chooseAll", "()V"⟩, 8) := ⟨⟨by decide +kernel, by decide +kernel⟩, List.mem_of_getElem? (i := 77) (by decide +kernel), List.mem_of_getElem? (i := 369) (by decide +kernel), List.mem_of_getElem? (i := 370) (by decide +kernel)⟩
theorem lw_p21 : lw_okq (⟨"SpillQueue$Runs", "greatestLevel", "()I"⟩, 8) := ⟨⟨by decide +kernel, by decide +kernel⟩, List.mem_of_getElem? (i := 77) (by decide +kernel), List.mem_of_getElem? (i := 373) (by decide +kernel), List.mem_of_getElem? (i := 374) (by decide +kernel)⟩
theorem lw_p22 : lw_okq (⟨"SpillQueue", "makeRun", "(LSpillQueue$Keys;I)I"⟩, 10) := ⟨⟨by decide +kernel, by decide +kernel⟩, List.mem_of_getElem? (i := 19) (by decide +kernel), List.mem_of_getElem? (i := 380) (by decide +kernel), List.mem_of_getElem? (i := 381) (by decide +kernel)⟩
theorem lw_p23 : lw_okq (⟨"SpillQueue$Disk", "blocksFor", "(I)I"⟩, 6) := ⟨⟨by decide +kernel, by decide +kernel⟩, List.mem_of_getElem? (i := 27) (by decide +kernel), List.mem_of_getElem? (i := 391) (by decide +kernel), List.mem_of_getElem? (i := 392) (by decide +kernel)⟩
theorem lw_p24 : lw_okq (⟨"SpillQueue$Disk", "keysPerBlock", "()I"⟩, 6) := ⟨⟨by decide +kernel, by decide +kernel⟩, List.mem_of_getElem? (i := 27) (by decide +kernel), List.mem_of_getElem? (i := 395) (by decide +kernel), List.mem_of_getElem? (i := 396) (by decide +kernel)⟩
theorem lw_p25 : lw_okq (⟨"SpillQueue", "gatherFree", "()I"⟩, 10) := ⟨⟨by decide +kernel, by decide +kernel⟩, List.mem_of_getElem? (i := 19) (by decide +kernel), List.mem_of_getElem? (i := 399) (by decide +kernel), List.mem_of_getElem? (i := 400) (by decide +kernel)⟩
theorem lw_p26 : lw_okq (⟨"SpillQueue$BlockSet", "copyOf", "(LSpillQueue$BlockSet;)V"⟩, 1) := ⟨⟨by decide +kernel, by decide +kernel⟩, List.mem_of_getElem? (i := 125) (by decide +kernel), List.mem_of_getElem? (i := 403) (by decide +kernel), List.mem_of_getElem? (i := 404) (by decide +kernel)⟩
theorem lw_p27 : lw_okq (⟨"SpillQueue$BlockSet", "has", "(I)Z"⟩, 1) := ⟨⟨by decide +kernel, by decide +kernel⟩, List.mem_of_getElem? (i := 125) (by decide +kernel), List.mem_of_getElem? (i := 407) (by decide +kernel), List.mem_of_getElem? (i := 408) (by decide +kernel)⟩
theorem lw_p28 : lw_okq (⟨"SpillQueue$Memory", "least", "()I"⟩, 3) := ⟨⟨by decide +kernel, by decide +kernel⟩, List.mem_of_getElem? (i := 57) (by decide +kernel), List.mem_of_getElem? (i := 424) (by decide +kernel), List.mem_of_getElem? (i := 425) (by decide +kernel)⟩
theorem lw_p29 : lw_okq (⟨"SpillQueue$Runs", "leastAt", "(Z)I"⟩, 8) := ⟨⟨by decide +kernel, by decide +kernel⟩, List.mem_of_getElem? (i := 77) (by decide +kernel), List.mem_of_getElem? (i := 431) (by decide +kernel), List.mem_of_getElem? (i := 432) (by decide +kernel)⟩
theorem lw_p30 : lw_okq (⟨"SpillQueue$Runs", "takeFrom", "(I)I"⟩, 8) := ⟨⟨by decide +kernel, by decide +kernel⟩, List.mem_of_getElem? (i := 77) (by decide +kernel), List.mem_of_getElem? (i := 435) (by decide +kernel), List.mem_of_getElem? (i := 436) (by decide +kernel)⟩
theorem lw_p31 : lw_okq (⟨"SpillQueue$Runs", "has", "(I)Z"⟩, 8) := ⟨⟨by decide +kernel, by decide +kernel⟩, List.mem_of_getElem? (i := 77) (by decide +kernel), List.mem_of_getElem? (i := 439) (by decide +kernel), List.mem_of_getElem? (i := 440) (by decide +kernel)⟩
def lw_privs_2 : List (MethodName × Nat) := [(⟨"SpillQueue", "requireLive", "()V"⟩, 10), (⟨"SpillQueue$Memory", "isFull", "()Z"⟩, 3), (⟨"SpillQueue", "spill", "()I"⟩, 10), (⟨"SpillQueue$Disk", "mostRuns", "()I"⟩, 6), (⟨"SpillQueue$Runs", "chooseAll", "()V"⟩, 8), (⟨"SpillQueue$Runs", "greatestLevel", "()I"⟩, 8), (⟨"SpillQueue", "makeRun", "(LSpillQueue$Keys;I)I"⟩, 10), (⟨"SpillQueue$Disk", "blocksFor", "(I)I"⟩, 6), (⟨"SpillQueue$Disk", "keysPerBlock", "()I"⟩, 6), (⟨"SpillQueue", "gatherFree", "()I"⟩, 10), (⟨"SpillQueue$BlockSet", "copyOf", "(LSpillQueue$BlockSet;)V"⟩, 1), (⟨"SpillQueue$BlockSet", "has", "(I)Z"⟩, 1), (⟨"SpillQueue$Memory", "least", "()I"⟩, 3), (⟨"SpillQueue$Runs", "leastAt", "(Z)I"⟩, 8), (⟨"SpillQueue$Runs", "takeFrom", "(I)I"⟩, 8), (⟨"SpillQueue$Runs", "has", "(I)Z"⟩, 8)]
theorem lw_r2 : ∀ q ∈ lw_privs_2, lw_okq q := List.forall_mem_cons.mpr ⟨lw_p16, List.forall_mem_cons.mpr ⟨lw_p17, List.forall_mem_cons.mpr ⟨lw_p18, List.forall_mem_cons.mpr ⟨lw_p19, List.forall_mem_cons.mpr ⟨lw_p20, List.forall_mem_cons.mpr ⟨lw_p21, List.forall_mem_cons.mpr ⟨lw_p22, List.forall_mem_cons.mpr ⟨lw_p23, List.forall_mem_cons.mpr ⟨lw_p24, List.forall_mem_cons.mpr ⟨lw_p25, List.forall_mem_cons.mpr ⟨lw_p26, List.forall_mem_cons.mpr ⟨lw_p27, List.forall_mem_cons.mpr ⟨lw_p28, List.forall_mem_cons.mpr ⟨lw_p29, List.forall_mem_cons.mpr ⟨lw_p30, List.forall_mem_cons.mpr ⟨lw_p31, fun _ h => absurd h List.not_mem_nil⟩⟩⟩⟩⟩⟩⟩⟩⟩⟩⟩⟩⟩⟩⟩⟩
theorem lw_p32 : lw_okq (⟨"SpillQueue$Runs", "dropEmpty", "()V"⟩, 8) := ⟨⟨by decide +kernel, by decide +kernel⟩, List.mem_of_getElem? (i := 77) (by decide +kernel), List.mem_of_getElem? (i := 445) (by decide +kernel), List.mem_of_getElem? (i := 446) (by decide +kernel)⟩
theorem lw_p33 : lw_okq (⟨"SpillQueue$Runs", "add", "(IIII)V"⟩, 8) := ⟨⟨by decide +kernel, by decide +kernel⟩, List.mem_of_getElem? (i := 77) (by decide +kernel), List.mem_of_getElem? (i := 449) (by decide +kernel), List.mem_of_getElem? (i := 450) (by decide +kernel)⟩
theorem lw_p34 : lw_okq (⟨"SpillQueue", "mergeCrowdedLevels", "()I"⟩, 10) := ⟨⟨by decide +kernel, by decide +kernel⟩, List.mem_of_getElem? (i := 19) (by decide +kernel), List.mem_of_getElem? (i := 453) (by decide +kernel), List.mem_of_getElem? (i := 454) (by decide +kernel)⟩
theorem lw_p35 : lw_okq (⟨"SpillQueue$Runs", "crowdedAt", "(I)I"⟩, 8) := ⟨⟨by decide +kernel, by decide +kernel⟩, List.mem_of_getElem? (i := 77) (by decide +kernel), List.mem_of_getElem? (i := 457) (by decide +kernel), List.mem_of_getElem? (i := 458) (by decide +kernel)⟩
theorem lw_p36 : lw_okq (⟨"SpillQueue$Runs", "runsAtLevelOf", "(I)I"⟩, 8) := ⟨⟨by decide +kernel, by decide +kernel⟩, List.mem_of_getElem? (i := 77) (by decide +kernel), List.mem_of_getElem? (i := 461) (by decide +kernel), List.mem_of_getElem? (i := 462) (by decide +kernel)⟩
theorem lw_p37 : lw_okq (⟨"SpillQueue$Runs", "chooseLevel", "(I)V"⟩, 8) := ⟨⟨by decide +kernel, by decide +kernel⟩, List.mem_of_getElem? (i := 77) (by decide +kernel), List.mem_of_getElem? (i := 465) (by decide +kernel), List.mem_of_getElem? (i := 466) (by decide +kernel)⟩
theorem lw_p38 : lw_okq (⟨"SpillQueue$Memory", "add", "(I)V"⟩, 3) := ⟨⟨by decide +kernel, by decide +kernel⟩, List.mem_of_getElem? (i := 57) (by decide +kernel), List.mem_of_getElem? (i := 469) (by decide +kernel), List.mem_of_getElem? (i := 470) (by decide +kernel)⟩
theorem lw_p39 : lw_okq (⟨"SpillQueue", "isLeastInMemory", "(I)Z"⟩, 10) := ⟨⟨by decide +kernel, by decide +kernel⟩, List.mem_of_getElem? (i := 19) (by decide +kernel), List.mem_of_getElem? (i := 481) (by decide +kernel), List.mem_of_getElem? (i := 482) (by decide +kernel)⟩
theorem lw_p40 : lw_okq (⟨"SpillQueue$Runs", "headOf", "(I)I"⟩, 8) := ⟨⟨by decide +kernel, by decide +kernel⟩, List.mem_of_getElem? (i := 77) (by decide +kernel), List.mem_of_getElem? (i := 486) (by decide +kernel), List.mem_of_getElem? (i := 487) (by decide +kernel)⟩
theorem lw_p41 : lw_okq (⟨"SpillQueue", "requireDisk", "()V"⟩, 10) := ⟨⟨by decide +kernel, by decide +kernel⟩, List.mem_of_getElem? (i := 19) (by decide +kernel), List.mem_of_getElem? (i := 521) (by decide +kernel), List.mem_of_getElem? (i := 522) (by decide +kernel)⟩
theorem lw_p42 : lw_okq (⟨"SpillQueue$Superblocks", "newestGood", "()I"⟩, 2) := ⟨⟨by decide +kernel, by decide +kernel⟩, List.mem_of_getElem? (i := 119) (by decide +kernel), List.mem_of_getElem? (i := 533) (by decide +kernel), List.mem_of_getElem? (i := 534) (by decide +kernel)⟩
theorem lw_p43 : lw_okq (⟨"SpillQueue$Superblocks", "isGood", "(I)Z"⟩, 2) := ⟨⟨by decide +kernel, by decide +kernel⟩, List.mem_of_getElem? (i := 119) (by decide +kernel), List.mem_of_getElem? (i := 537) (by decide +kernel), List.mem_of_getElem? (i := 538) (by decide +kernel)⟩
theorem lw_p44 : lw_okq (⟨"SpillQueue$Superblocks", "epochOf", "(I)I"⟩, 2) := ⟨⟨by decide +kernel, by decide +kernel⟩, List.mem_of_getElem? (i := 119) (by decide +kernel), List.mem_of_getElem? (i := 541) (by decide +kernel), List.mem_of_getElem? (i := 542) (by decide +kernel)⟩
theorem lw_p45 : lw_okq (⟨"SpillQueue$Superblocks", "isRunRight", "(II)Z"⟩, 2) := ⟨⟨by decide +kernel, by decide +kernel⟩, List.mem_of_getElem? (i := 119) (by decide +kernel), List.mem_of_getElem? (i := 549) (by decide +kernel), List.mem_of_getElem? (i := 550) (by decide +kernel)⟩
theorem lw_p46 : lw_okq (⟨"SpillQueue$Superblocks", "isChainRight", "(III)Z"⟩, 2) := ⟨⟨by decide +kernel, by decide +kernel⟩, List.mem_of_getElem? (i := 119) (by decide +kernel), List.mem_of_getElem? (i := 554) (by decide +kernel), List.mem_of_getElem? (i := 555) (by decide +kernel)⟩
theorem lw_p47 : lw_okq (⟨"SpillQueue$Superblocks", "isNewRightBlock", "(I)Z"⟩, 2) := ⟨⟨by decide +kernel, by decide +kernel⟩, List.mem_of_getElem? (i := 119) (by decide +kernel), List.mem_of_getElem? (i := 559) (by decide +kernel), List.mem_of_getElem? (i := 560) (by decide +kernel)⟩
def lw_privs_3 : List (MethodName × Nat) := [(⟨"SpillQueue$Runs", "dropEmpty", "()V"⟩, 8), (⟨"SpillQueue$Runs", "add", "(IIII)V"⟩, 8), (⟨"SpillQueue", "mergeCrowdedLevels", "()I"⟩, 10), (⟨"SpillQueue$Runs", "crowdedAt", "(I)I"⟩, 8), (⟨"SpillQueue$Runs", "runsAtLevelOf", "(I)I"⟩, 8), (⟨"SpillQueue$Runs", "chooseLevel", "(I)V"⟩, 8), (⟨"SpillQueue$Memory", "add", "(I)V"⟩, 3), (⟨"SpillQueue", "isLeastInMemory", "(I)Z"⟩, 10), (⟨"SpillQueue$Runs", "headOf", "(I)I"⟩, 8), (⟨"SpillQueue", "requireDisk", "()V"⟩, 10), (⟨"SpillQueue$Superblocks", "newestGood", "()I"⟩, 2), (⟨"SpillQueue$Superblocks", "isGood", "(I)Z"⟩, 2), (⟨"SpillQueue$Superblocks", "epochOf", "(I)I"⟩, 2), (⟨"SpillQueue$Superblocks", "isRunRight", "(II)Z"⟩, 2), (⟨"SpillQueue$Superblocks", "isChainRight", "(III)Z"⟩, 2), (⟨"SpillQueue$Superblocks", "isNewRightBlock", "(I)Z"⟩, 2)]
theorem lw_r3 : ∀ q ∈ lw_privs_3, lw_okq q := List.forall_mem_cons.mpr ⟨lw_p32, List.forall_mem_cons.mpr ⟨lw_p33, List.forall_mem_cons.mpr ⟨lw_p34, List.forall_mem_cons.mpr ⟨lw_p35, List.forall_mem_cons.mpr ⟨lw_p36, List.forall_mem_cons.mpr ⟨lw_p37, List.forall_mem_cons.mpr ⟨lw_p38, List.forall_mem_cons.mpr ⟨lw_p39, List.forall_mem_cons.mpr ⟨lw_p40, List.forall_mem_cons.mpr ⟨lw_p41, List.forall_mem_cons.mpr ⟨lw_p42, List.forall_mem_cons.mpr ⟨lw_p43, List.forall_mem_cons.mpr ⟨lw_p44, List.forall_mem_cons.mpr ⟨lw_p45, List.forall_mem_cons.mpr ⟨lw_p46, List.forall_mem_cons.mpr ⟨lw_p47, fun _ h => absurd h List.not_mem_nil⟩⟩⟩⟩⟩⟩⟩⟩⟩⟩⟩⟩⟩⟩⟩⟩
theorem lw_p48 : lw_okq (⟨"SpillQueue$Superblocks", "lastOfRising", "(IIII)I"⟩, 2) := ⟨⟨by decide +kernel, by decide +kernel⟩, List.mem_of_getElem? (i := 119) (by decide +kernel), List.mem_of_getElem? (i := 566) (by decide +kernel), List.mem_of_getElem? (i := 567) (by decide +kernel)⟩
theorem lw_p49 : lw_okq (⟨"SpillQueue$Superblocks", "load", "(ILSpillQueue$Runs;)V"⟩, 2) := ⟨⟨by decide +kernel, by decide +kernel⟩, List.mem_of_getElem? (i := 119) (by decide +kernel), List.mem_of_getElem? (i := 570) (by decide +kernel), List.mem_of_getElem? (i := 571) (by decide +kernel)⟩
theorem lw_p50 : lw_okq (⟨"SpillQueue", "requireWord", "(II)V"⟩, 10) := ⟨⟨by decide +kernel, by decide +kernel⟩, List.mem_of_getElem? (i := 19) (by decide +kernel), List.mem_of_getElem? (i := 617) (by decide +kernel), List.mem_of_getElem? (i := 618) (by decide +kernel)⟩
theorem lw_p51 : lw_okq (⟨"SpillQueue$Disk", "has", "(II)Z"⟩, 6) := ⟨⟨by decide +kernel, by decide +kernel⟩, List.mem_of_getElem? (i := 27) (by decide +kernel), List.mem_of_getElem? (i := 621) (by decide +kernel), List.mem_of_getElem? (i := 622) (by decide +kernel)⟩
theorem lw_p52 : lw_okq (⟨"SpillQueue$Disk", "turnOver", "(III)V"⟩, 6) := ⟨⟨by decide +kernel, by decide +kernel⟩, List.mem_of_getElem? (i := 27) (by decide +kernel), List.mem_of_getElem? (i := 635) (by decide +kernel), List.mem_of_getElem? (i := 636) (by decide +kernel)⟩
theorem lw_p53 : lw_okq (⟨"SpillQueueModel", "writeSuper", "()V"⟩, 27) := ⟨⟨by decide +kernel, by decide +kernel⟩, List.mem_of_getElem? (i := 640) (by decide +kernel), List.mem_of_getElem? (i := 739) (by decide +kernel), List.mem_of_getElem? (i := 740) (by decide +kernel)⟩
theorem lw_p54 : lw_okq (⟨"SpillQueueModel", "clearRow", "()V"⟩, 27) := ⟨⟨by decide +kernel, by decide +kernel⟩, List.mem_of_getElem? (i := 640) (by decide +kernel), List.mem_of_getElem? (i := 743) (by decide +kernel), List.mem_of_getElem? (i := 744) (by decide +kernel)⟩
theorem lw_p55 : lw_okq (⟨"SpillQueueModel", "write", "(I)V"⟩, 27) := ⟨⟨by decide +kernel, by decide +kernel⟩, List.mem_of_getElem? (i := 640) (by decide +kernel), List.mem_of_getElem? (i := 747) (by decide +kernel), List.mem_of_getElem? (i := 748) (by decide +kernel)⟩
theorem lw_p56 : lw_okq (⟨"SpillQueueModel", "sumOf", "(I)I"⟩, 27) := ⟨⟨by decide +kernel, by decide +kernel⟩, List.mem_of_getElem? (i := 640) (by decide +kernel), List.mem_of_getElem? (i := 751) (by decide +kernel), List.mem_of_getElem? (i := 752) (by decide +kernel)⟩
theorem lw_p57 : lw_okq (⟨"SpillQueueModel", "at", "(II)I"⟩, 27) := ⟨⟨by decide +kernel, by decide +kernel⟩, List.mem_of_getElem? (i := 640) (by decide +kernel), List.mem_of_getElem? (i := 755) (by decide +kernel), List.mem_of_getElem? (i := 756) (by decide +kernel)⟩
theorem lw_p58 : lw_okq (⟨"SpillQueueModel", "markTaken", "()V"⟩, 27) := ⟨⟨by decide +kernel, by decide +kernel⟩, List.mem_of_getElem? (i := 640) (by decide +kernel), List.mem_of_getElem? (i := 759) (by decide +kernel), List.mem_of_getElem? (i := 760) (by decide +kernel)⟩
theorem lw_p59 : lw_okq (⟨"SpillQueueModel", "blocksOf", "(II)I"⟩, 27) := ⟨⟨by decide +kernel, by decide +kernel⟩, List.mem_of_getElem? (i := 640) (by decide +kernel), List.mem_of_getElem? (i := 763) (by decide +kernel), List.mem_of_getElem? (i := 764) (by decide +kernel)⟩
theorem lw_p60 : lw_okq (⟨"SpillQueueModel", "room", "()I"⟩, 27) := ⟨⟨by decide +kernel, by decide +kernel⟩, List.mem_of_getElem? (i := 640) (by decide +kernel), List.mem_of_getElem? (i := 767) (by decide +kernel), List.mem_of_getElem? (i := 768) (by decide +kernel)⟩
theorem lw_p61 : lw_okq (⟨"SpillQueueModel", "spill", "()Z"⟩, 27) := ⟨⟨by decide +kernel, by decide +kernel⟩, List.mem_of_getElem? (i := 640) (by decide +kernel), List.mem_of_getElem? (i := 775) (by decide +kernel), List.mem_of_getElem? (i := 776) (by decide +kernel)⟩
theorem lw_p62 : lw_okq (⟨"SpillQueueModel", "most", "()I"⟩, 27) := ⟨⟨by decide +kernel, by decide +kernel⟩, List.mem_of_getElem? (i := 640) (by decide +kernel), List.mem_of_getElem? (i := 779) (by decide +kernel), List.mem_of_getElem? (i := 780) (by decide +kernel)⟩
theorem lw_p63 : lw_okq (⟨"SpillQueueModel", "mergeAll", "()Z"⟩, 27) := ⟨⟨by decide +kernel, by decide +kernel⟩, List.mem_of_getElem? (i := 640) (by decide +kernel), List.mem_of_getElem? (i := 783) (by decide +kernel), List.mem_of_getElem? (i := 784) (by decide +kernel)⟩
def lw_privs_4 : List (MethodName × Nat) := [(⟨"SpillQueue$Superblocks", "lastOfRising", "(IIII)I"⟩, 2), (⟨"SpillQueue$Superblocks", "load", "(ILSpillQueue$Runs;)V"⟩, 2), (⟨"SpillQueue", "requireWord", "(II)V"⟩, 10), (⟨"SpillQueue$Disk", "has", "(II)Z"⟩, 6), (⟨"SpillQueue$Disk", "turnOver", "(III)V"⟩, 6), (⟨"SpillQueueModel", "writeSuper", "()V"⟩, 27), (⟨"SpillQueueModel", "clearRow", "()V"⟩, 27), (⟨"SpillQueueModel", "write", "(I)V"⟩, 27), (⟨"SpillQueueModel", "sumOf", "(I)I"⟩, 27), (⟨"SpillQueueModel", "at", "(II)I"⟩, 27), (⟨"SpillQueueModel", "markTaken", "()V"⟩, 27), (⟨"SpillQueueModel", "blocksOf", "(II)I"⟩, 27), (⟨"SpillQueueModel", "room", "()I"⟩, 27), (⟨"SpillQueueModel", "spill", "()Z"⟩, 27), (⟨"SpillQueueModel", "most", "()I"⟩, 27), (⟨"SpillQueueModel", "mergeAll", "()Z"⟩, 27)]
theorem lw_r4 : ∀ q ∈ lw_privs_4, lw_okq q := List.forall_mem_cons.mpr ⟨lw_p48, List.forall_mem_cons.mpr ⟨lw_p49, List.forall_mem_cons.mpr ⟨lw_p50, List.forall_mem_cons.mpr ⟨lw_p51, List.forall_mem_cons.mpr ⟨lw_p52, List.forall_mem_cons.mpr ⟨lw_p53, List.forall_mem_cons.mpr ⟨lw_p54, List.forall_mem_cons.mpr ⟨lw_p55, List.forall_mem_cons.mpr ⟨lw_p56, List.forall_mem_cons.mpr ⟨lw_p57, List.forall_mem_cons.mpr ⟨lw_p58, List.forall_mem_cons.mpr ⟨lw_p59, List.forall_mem_cons.mpr ⟨lw_p60, List.forall_mem_cons.mpr ⟨lw_p61, List.forall_mem_cons.mpr ⟨lw_p62, List.forall_mem_cons.mpr ⟨lw_p63, fun _ h => absurd h List.not_mem_nil⟩⟩⟩⟩⟩⟩⟩⟩⟩⟩⟩⟩⟩⟩⟩⟩
theorem lw_p64 : lw_okq (⟨"SpillQueueModel", "merge", "(ZII)Z"⟩, 27) := ⟨⟨by decide +kernel, by decide +kernel⟩, List.mem_of_getElem? (i := 640) (by decide +kernel), List.mem_of_getElem? (i := 787) (by decide +kernel), List.mem_of_getElem? (i := 788) (by decide +kernel)⟩
theorem lw_p65 : lw_okq (⟨"SpillQueueModel", "choose", "(I)Z"⟩, 27) := ⟨⟨by decide +kernel, by decide +kernel⟩, List.mem_of_getElem? (i := 640) (by decide +kernel), List.mem_of_getElem? (i := 791) (by decide +kernel), List.mem_of_getElem? (i := 792) (by decide +kernel)⟩
theorem lw_p66 : lw_okq (⟨"SpillQueueModel", "free", "()I"⟩, 27) := ⟨⟨by decide +kernel, by decide +kernel⟩, List.mem_of_getElem? (i := 640) (by decide +kernel), List.mem_of_getElem? (i := 795) (by decide +kernel), List.mem_of_getElem? (i := 796) (by decide +kernel)⟩
theorem lw_p67 : lw_okq (⟨"SpillQueueModel", "isFree", "(I)Z"⟩, 27) := ⟨⟨by decide +kernel, by decide +kernel⟩, List.mem_of_getElem? (i := 640) (by decide +kernel), List.mem_of_getElem? (i := 799) (by decide +kernel), List.mem_of_getElem? (i := 800) (by decide +kernel)⟩
theorem lw_p68 : lw_okq (⟨"SpillQueueModel", "writeKeys", "(IZ)V"⟩, 27) := ⟨⟨by decide +kernel, by decide +kernel⟩, List.mem_of_getElem? (i := 640) (by decide +kernel), List.mem_of_getElem? (i := 803) (by decide +kernel), List.mem_of_getElem? (i := 804) (by decide +kernel)⟩
theorem lw_p69 : lw_okq (⟨"SpillQueueModel", "takeFromMemory", "()I"⟩, 27) := ⟨⟨by decide +kernel, by decide +kernel⟩, List.mem_of_getElem? (i := 640) (by decide +kernel), List.mem_of_getElem? (i := 807) (by decide +kernel), List.mem_of_getElem? (i := 808) (by decide +kernel)⟩
theorem lw_p70 : lw_okq (⟨"SpillQueueModel", "takeFromRuns", "()I"⟩, 27) := ⟨⟨by decide +kernel, by decide +kernel⟩, List.mem_of_getElem? (i := 640) (by decide +kernel), List.mem_of_getElem? (i := 811) (by decide +kernel), List.mem_of_getElem? (i := 812) (by decide +kernel)⟩
theorem lw_p71 : lw_okq (⟨"SpillQueueModel", "headOf", "(I)I"⟩, 27) := ⟨⟨by decide +kernel, by decide +kernel⟩, List.mem_of_getElem? (i := 640) (by decide +kernel), List.mem_of_getElem? (i := 815) (by decide +kernel), List.mem_of_getElem? (i := 816) (by decide +kernel)⟩
theorem lw_p72 : lw_okq (⟨"SpillQueueModel", "dropRun", "(I)V"⟩, 27) := ⟨⟨by decide +kernel, by decide +kernel⟩, List.mem_of_getElem? (i := 640) (by decide +kernel), List.mem_of_getElem? (i := 819) (by decide +kernel), List.mem_of_getElem? (i := 820) (by decide +kernel)⟩
theorem lw_p73 : lw_okq (⟨"SpillQueueModel", "addRun", "(III)V"⟩, 27) := ⟨⟨by decide +kernel, by decide +kernel⟩, List.mem_of_getElem? (i := 640) (by decide +kernel), List.mem_of_getElem? (i := 823) (by decide +kernel), List.mem_of_getElem? (i := 824) (by decide +kernel)⟩
theorem lw_p74 : lw_okq (⟨"SpillQueueModel", "crowded", "()I"⟩, 27) := ⟨⟨by decide +kernel, by decide +kernel⟩, List.mem_of_getElem? (i := 640) (by decide +kernel), List.mem_of_getElem? (i := 827) (by decide +kernel), List.mem_of_getElem? (i := 828) (by decide +kernel)⟩
theorem lw_p75 : lw_okq (⟨"SpillQueueModel", "runsOf", "(I)I"⟩, 27) := ⟨⟨by decide +kernel, by decide +kernel⟩, List.mem_of_getElem? (i := 640) (by decide +kernel), List.mem_of_getElem? (i := 831) (by decide +kernel), List.mem_of_getElem? (i := 832) (by decide +kernel)⟩
theorem lw_p76 : lw_okq (⟨"SpillQueueModel", "after", "(I)I"⟩, 27) := ⟨⟨by decide +kernel, by decide +kernel⟩, List.mem_of_getElem? (i := 640) (by decide +kernel), List.mem_of_getElem? (i := 835) (by decide +kernel), List.mem_of_getElem? (i := 836) (by decide +kernel)⟩
theorem lw_p77 : lw_okq (⟨"SpillQueueModel", "die", "()V"⟩, 27) := ⟨⟨by decide +kernel, by decide +kernel⟩, List.mem_of_getElem? (i := 640) (by decide +kernel), List.mem_of_getElem? (i := 839) (by decide +kernel), List.mem_of_getElem? (i := 840) (by decide +kernel)⟩
theorem lw_p78 : lw_okq (⟨"SpillQueueModel", "leastKey", "()I"⟩, 27) := ⟨⟨by decide +kernel, by decide +kernel⟩, List.mem_of_getElem? (i := 640) (by decide +kernel), List.mem_of_getElem? (i := 847) (by decide +kernel), List.mem_of_getElem? (i := 848) (by decide +kernel)⟩
theorem lw_p79 : lw_okq (⟨"SpillQueueModel", "leastRun", "()I"⟩, 27) := ⟨⟨by decide +kernel, by decide +kernel⟩, List.mem_of_getElem? (i := 640) (by decide +kernel), List.mem_of_getElem? (i := 851) (by decide +kernel), List.mem_of_getElem? (i := 852) (by decide +kernel)⟩
def lw_privs_5 : List (MethodName × Nat) := [(⟨"SpillQueueModel", "merge", "(ZII)Z"⟩, 27), (⟨"SpillQueueModel", "choose", "(I)Z"⟩, 27), (⟨"SpillQueueModel", "free", "()I"⟩, 27), (⟨"SpillQueueModel", "isFree", "(I)Z"⟩, 27), (⟨"SpillQueueModel", "writeKeys", "(IZ)V"⟩, 27), (⟨"SpillQueueModel", "takeFromMemory", "()I"⟩, 27), (⟨"SpillQueueModel", "takeFromRuns", "()I"⟩, 27), (⟨"SpillQueueModel", "headOf", "(I)I"⟩, 27), (⟨"SpillQueueModel", "dropRun", "(I)V"⟩, 27), (⟨"SpillQueueModel", "addRun", "(III)V"⟩, 27), (⟨"SpillQueueModel", "crowded", "()I"⟩, 27), (⟨"SpillQueueModel", "runsOf", "(I)I"⟩, 27), (⟨"SpillQueueModel", "after", "(I)I"⟩, 27), (⟨"SpillQueueModel", "die", "()V"⟩, 27), (⟨"SpillQueueModel", "leastKey", "()I"⟩, 27), (⟨"SpillQueueModel", "leastRun", "()I"⟩, 27)]
theorem lw_r5 : ∀ q ∈ lw_privs_5, lw_okq q := List.forall_mem_cons.mpr ⟨lw_p64, List.forall_mem_cons.mpr ⟨lw_p65, List.forall_mem_cons.mpr ⟨lw_p66, List.forall_mem_cons.mpr ⟨lw_p67, List.forall_mem_cons.mpr ⟨lw_p68, List.forall_mem_cons.mpr ⟨lw_p69, List.forall_mem_cons.mpr ⟨lw_p70, List.forall_mem_cons.mpr ⟨lw_p71, List.forall_mem_cons.mpr ⟨lw_p72, List.forall_mem_cons.mpr ⟨lw_p73, List.forall_mem_cons.mpr ⟨lw_p74, List.forall_mem_cons.mpr ⟨lw_p75, List.forall_mem_cons.mpr ⟨lw_p76, List.forall_mem_cons.mpr ⟨lw_p77, List.forall_mem_cons.mpr ⟨lw_p78, List.forall_mem_cons.mpr ⟨lw_p79, fun _ h => absurd h List.not_mem_nil⟩⟩⟩⟩⟩⟩⟩⟩⟩⟩⟩⟩⟩⟩⟩⟩
theorem lw_p80 : lw_okq (⟨"SpillQueueModel", "least", "(I)I"⟩, 27) := ⟨⟨by decide +kernel, by decide +kernel⟩, List.mem_of_getElem? (i := 640) (by decide +kernel), List.mem_of_getElem? (i := 855) (by decide +kernel), List.mem_of_getElem? (i := 856) (by decide +kernel)⟩
theorem lw_p81 : lw_okq (⟨"SpillQueueModel", "leastInMemory", "()I"⟩, 27) := ⟨⟨by decide +kernel, by decide +kernel⟩, List.mem_of_getElem? (i := 640) (by decide +kernel), List.mem_of_getElem? (i := 859) (by decide +kernel), List.mem_of_getElem? (i := 860) (by decide +kernel)⟩
theorem lw_p82 : lw_okq (⟨"SpillQueueModel", "readSuper", "(I)Z"⟩, 27) := ⟨⟨by decide +kernel, by decide +kernel⟩, List.mem_of_getElem? (i := 640) (by decide +kernel), List.mem_of_getElem? (i := 883) (by decide +kernel), List.mem_of_getElem? (i := 884) (by decide +kernel)⟩
theorem lw_p83 : lw_okq (⟨"SpillQueueModel", "readRun", "(II)Z"⟩, 27) := ⟨⟨by decide +kernel, by decide +kernel⟩, List.mem_of_getElem? (i := 640) (by decide +kernel), List.mem_of_getElem? (i := 887) (by decide +kernel), List.mem_of_getElem? (i := 888) (by decide +kernel)⟩
theorem lw_p84 : lw_okq (⟨"SpillQueueModel", "size0", "()I"⟩, 27) := ⟨⟨by decide +kernel, by decide +kernel⟩, List.mem_of_getElem? (i := 640) (by decide +kernel), List.mem_of_getElem? (i := 891) (by decide +kernel), List.mem_of_getElem? (i := 892) (by decide +kernel)⟩
theorem lw_p85 : lw_okq (⟨"SpillQueueModel", "isWord", "(II)Z"⟩, 27) := ⟨⟨by decide +kernel, by decide +kernel⟩, List.mem_of_getElem? (i := 640) (by decide +kernel), List.mem_of_getElem? (i := 911) (by decide +kernel), List.mem_of_getElem? (i := 912) (by decide +kernel)⟩
def lw_privs_6 : List (MethodName × Nat) := [(⟨"SpillQueueModel", "least", "(I)I"⟩, 27), (⟨"SpillQueueModel", "leastInMemory", "()I"⟩, 27), (⟨"SpillQueueModel", "readSuper", "(I)Z"⟩, 27), (⟨"SpillQueueModel", "readRun", "(II)Z"⟩, 27), (⟨"SpillQueueModel", "size0", "()I"⟩, 27), (⟨"SpillQueueModel", "isWord", "(II)Z"⟩, 27)]
theorem lw_r6 : ∀ q ∈ lw_privs_6, lw_okq q := List.forall_mem_cons.mpr ⟨lw_p80, List.forall_mem_cons.mpr ⟨lw_p81, List.forall_mem_cons.mpr ⟨lw_p82, List.forall_mem_cons.mpr ⟨lw_p83, List.forall_mem_cons.mpr ⟨lw_p84, List.forall_mem_cons.mpr ⟨lw_p85, fun _ h => absurd h List.not_mem_nil⟩⟩⟩⟩⟩⟩
def lw_privs : List (MethodName × Nat) := lw_privs_1 ++ (lw_privs_2 ++ (lw_privs_3 ++ (lw_privs_4 ++ (lw_privs_5 ++ (lw_privs_6)))))
def lw_tbl : List Cond := k2_sels lw_privs ++ tables_1
theorem lw_privs_ok : ∀ q ∈ lw_privs, lw_okq q := by
  show ∀ q ∈ lw_privs_1 ++ (lw_privs_2 ++ (lw_privs_3 ++ (lw_privs_4 ++ (lw_privs_5 ++ (lw_privs_6))))), lw_okq q
  exact List.forall_mem_append.mpr ⟨lw_r1, List.forall_mem_append.mpr ⟨lw_r2, List.forall_mem_append.mpr ⟨lw_r3, List.forall_mem_append.mpr ⟨lw_r4, List.forall_mem_append.mpr ⟨lw_r5, lw_r6⟩⟩⟩⟩⟩
end
section
/-! ===== BEGIN words of one list among another's, by their places ===== -/
theorem goodIn_r {big : List Cond} (ws : List Cond) (ps : List Nat) (hp : ws = ps.filterMap (fun i => big[i]?)) (h : ws.all goodWord = true) : GoodIn big ws := by
  intro w hw
  have h1 := List.all_eq_true.mp h w hw
  rw [hp] at hw
  obtain ⟨i, -, hi⟩ := List.mem_filterMap.mp hw
  have hm : w ∈ big := by first | exact List.mem_of_getElem? hi | exact List.getElem?_mem hi
  exact ⟨hm, good_of_word h1⟩
theorem goodIn_app {big a b : List Cond} (ha : GoodIn big a) (hb : GoodIn big b) : GoodIn big (a ++ b) := fun w h => (List.mem_append.mp h).elim (ha w) (hb w)
theorem goodIn_ca {big a b : List Cond} {c : Cond} (ha : GoodIn big (c :: a)) (hb : GoodIn big b) : GoodIn big (c :: (a ++ b)) := fun w h => (List.mem_cons.mp h).elim (fun e => ha w (List.mem_cons.mpr (Or.inl e))) (fun h => (List.mem_append.mp h).elim (fun h => ha w (List.mem_cons.mpr (Or.inr h))) (hb w))
theorem goodIn_sub {big ws : List Cond} (hm : ∀ w ∈ ws, w ∈ big) (h : ws.all goodWord = true) : GoodIn big ws := fun w hw => ⟨hm w hw, good_of_word (List.all_eq_true.mp h w hw)⟩
/-! ===== END ===== -/

/-! ===== BEGIN exceptions that leave a method, and their catching by the caller (launches without stack traces) ===== -/
section VXA
/-! The laws vx_back, vx_callV, vx_callS, vx_callSW, vx_throw0, vx_throwS follow proofs of the library, with one case more: JvmDerived/Free/Laws.lean (Back.of_free), Shelf42/LK1.lean (callV, callS), Shelf/KitTraced.lean (throwNew0V, throwNewS). -/
/-- where a method has thrown q: the class by its name, the cell, what was written, the world -/
def vx_T (XC : String → State → State → Prop) (st : State) (q : Addr) (t : State) (mc ms : Nat) (free : Addr → Prop) : Prop :=
  ∃ (E : String) (ce : Cell) (L : List Loc), XC E st t ∧ t.heap[q]? = some ce ∧ ce.vm = .none ∧ st.vm.findClass E = some ce.cls ∧ st.WarmedH t.vm ∧ st.sameButNew ({ t with vm := st.vm } : State) L mc ms ∧ ∀ z ∈ L, free z.base
def vx_Q (Qc : Array Value → State → Outcome → State → Prop) (XC : String → State → State → Prop) (mc ms : Nat) (free : Addr → Prop) : Array Value → State → Outcome → State → Prop := fun a st o t =>
  (Qc a st o t ∧ ∃ L, FrameEnd st o t L mc ms ∧ ∀ q ∈ L, free q.base) ∨ ∃ q, o = .threw q ∧ vx_T XC st q t mc ms free
/-- a callee that returns or throws -/
def vx_Met (l : Launch) (y : MethodName) (ws : List Cond) (rm : Room) (Pc : Array Value → State → Prop) (Qc : Array Value → State → Outcome → State → Prop) (XC : String → State → State → Prop) (mc ms : Nat) (free : Addr → Prop) : Prop :=
  MetFree l y (headSpec ws rm) Pc (fun _ _ _ _ _ => True) (vx_Q Qc XC mc ms free)
def vx_Post (XC : String → State → State → Prop) (mc ms : Nat) (free : Addr → Prop) : Pt → Array Value → Addr → Pt → Prop := fun A a q B =>
  ∃ (g : JFrame) (mk : MethodId) (t : State) (L : List Loc) (E : String) (ce : Cell), B.U.heap = t.heap ∧ B.U.vm = t.vm ∧ XC E (A.U.calling g mk a) t ∧ t.heap[q]? = some ce ∧ ce.vm = .none ∧ A.U.vm.findClass E = some ce.cls ∧ B.locs = A.locs ++ L ∧ (∀ z ∈ L, free z.base) ∧ B.cells = A.cells + mc ∧ B.slots = A.slots + ms
def vx_Back (l : Launch) (R : Room) (p : Program) (e : Env) (below : List Frame) (s : State) (sargs : Array Value) (y : MethodName) (len W9 : Nat)
    (Pre : Pt → Array Value → Prop) (Post : Pt → Array Value → Option Value → Pt → Prop) (PostX : Pt → Array Value → Addr → Pt → Prop) : Prop :=
  ∀ (m : MethodId) (meth : Method) (c : Code) (A : Pt) (g : JFrame) (ig : Instr) (mk : MethodId) (a : Array Value),
    Stand p l e R s m sargs below meth c A.U A.locs A.cells A.slots → g.method = m → g.locals.size = c.maxLocals → decode c.code g.pc = .ok (ig, len) →
    2 * g.monitorRoom + (g.stack.map fun v => v.category).sum ≤ W9 → A.U.methodNamed? y = some mk → Pre A a →
    (∃ (v : Option Value) (B : Pt), Stand p l e R s m sargs below meth c B.U B.locs B.cells B.slots ∧ Post A a v B ∧
      Steps p.tables e below (doInvoke e (A.U.setTop g) [] mk a).1 (B.U.setTop { g with pc := g.pc + len, stack := v.toList ++ g.stack })) ∨
    (∃ (q : Addr) (B : Pt), Stand p l e R s m sargs below meth c B.U B.locs B.cells B.slots ∧ PostX A a q B ∧
      Steps p.tables e below (doInvoke e (A.U.setTop g) [] mk a).1 ((B.U.setTop g).pushFrame (.throwing q)))
section Payer
variable {l : Launch} {R : Room} {p : Program} {e : Env} {below : List Frame} {s : State} {sargs : Array Value} {y : MethodName} {len W9 : Nat}
theorem vx_back {ws : List Cond} {rm : Room} {Pc : Array Value → State → Prop} {Qc : Array Value → State → Outcome → State → Prop} {XC : String → State → State → Prop} {mc ms : Nat} {free : Addr → Prop} {bytes : ByteArray} {maxL : Nat} {ret : Option FieldType}
    (hM : vx_Met l y ws rm Pc Qc XC mc ms free) (hblind : FrameBlind Pc) (hrc : rm.cells = mc) (hrs : rm.slots = ms)
    (hframes : rm.frames + 1 ≤ R.frames) (hlocals : W9 + (maxL + 11) + rm.locals ≤ R.locals)
    (hws : ∀ w ∈ ws, ∀ a' U, s.WarmedH U.vm → w.before a' U = true) (hcode : Cond.code y bytes maxL ret ∈ ws) (hinit : ∀ a' U, s.WarmedH U.vm → (Cond.initialized y.cls).before a' U = true) :
    vx_Back l R p e below s sargs y len W9 (PreOf R mc ms Pc) (PostOf Qc mc ms free) (vx_Post XC mc ms free) := by
  intro m meth c A g ig mk a X hg hsize hdg hW hn hp
  have h1 : (headSpec ws rm).pre.before a A.U = true := atoms_intro fun w hw => hws w hw _ _ X.warmed
  have h2 : (Cond.code y bytes maxL ret).before a A.U = true := hws _ hcode _ _ X.warmed
  have h3 : (Cond.initialized y.cls).before a A.U = true := hinit _ _ X.warmed
  have h4 : A.cells + (headSpec ws rm).room.cells ≤ R.cells := by rw [show (headSpec ws rm).room.cells = mc from hrc]; exact hp.1
  have h5 : A.slots + (headSpec ws rm).room.slots ≤ R.slots := by rw [show (headSpec ws rm).room.slots = ms from hrs]; exact hp.2.1
  have hPc : Pc a (A.U.calling g mk a) := hblind _ _ _ _ hp.2.2
  obtain ⟨U, Ls, c0, s0⟩ := A
  dsimp only [Pt.U, Pt.locs, Pt.cells, Pt.slots] at h1 h2 h3 h4 h5 X hn hPc ⊢
  obtain ⟨methY, cY, hmY, hcY, -, hlY, -, -, -, -⟩ := Cond.code_spec hn h2
  obtain ⟨kY, hkY, -⟩ := className_of_methodNamed hn
  have hinitY : kY.init = .initialized := Cond.initialized_spec (findClass_of_methodNamed hn) hkY h3
  have h : At U g.method c below := by rw [hg]; exact X.here
  have hlocals9 : W9 + (maxL + 11) + (headSpec ws rm).room.locals ≤ R.locals := hlocals
  have happ : (headSpec ws rm).appliesLoose y e.platform (U.calling g mk a) = true :=
    Spec.appliesLoose_calling (g := g) h hdg hn hkY hinitY
      (X.room_calling (g := g) (R' := (headSpec ws rm).room) hsize hmY hcY hframes (by rw [hlY]; omega) h4 h5) h1
  obtain ⟨mid, hmid⟩ := h.above
  have hfr : (U.setTop g).frames = (.java g :: mid) ++ below := by rw [State.frames_setTop' g h.top, hmid]; rfl
  obtain ⟨o, s₂, hsteps, -, hend, hq⟩ := Steps.callFree hM p X.admits X.cas X.clock (acts := []) hfr happ hPc trivial
  have hq' : vx_Q Qc XC mc ms free a (U.calling g mk a) o s₂ := hq
  rw [State.frames_setTop' g h.top] at hend
  obtain ⟨g₀, hg0⟩ := Option.isSome_iff_exists.mp h.top
  obtain ⟨r, hr⟩ := State.topJava?_eq_some.mp hg0
  have hr' : (({ U with heap := s₂.heap, slotsUsed := s₂.slotsUsed } : State).setVm s₂.vm).frames = .java g₀ :: r := hr
  rcases hq' with ⟨hqc, L, hfe, hL⟩ | ⟨q, rfl, E, ce, L, hx, hce, hcv, hcl, hW₂, hsm, hL⟩
  · obtain ⟨⟨v, rfl⟩, hW₂, e2, q2, q3, q4, q5, q6⟩ := id hfe
    have e3 : s₂ = ({ (U.calling g mk a).setFrames s₂.frames with heap := s₂.heap, slotsUsed := s₂.slotsUsed } : State).setVm s₂.vm := by
      have : s₂ = ({ s₂ with vm := (U.calling g mk a).vm } : State).setVm s₂.vm := rfl
      rw [e2] at this
      exact this
    obtain ⟨c₂, i₂, len₂, hc₂, hd₂, hf₂⟩ := hend
    have hW' : U.WarmedH s₂.vm := hW₂
    have hcc : c₂ = c := by
      have h1 : s₂.code? g.method = U.code? g.method := by
        rw [State.code?_eq, State.code?_eq, hW'.alike.method?]
      exact Option.some.inj (hc₂.symm.trans (h1.trans h.code))
    subst hcc
    have hlen : len₂ = len := by rw [hdg] at hd₂; cases hd₂; rfl
    subst hlen
    have hs₂ : s₂ = (({ U with heap := s₂.heap, slotsUsed := s₂.slotsUsed } : State).setVm s₂.vm).setTop { g with pc := g.pc + len₂, stack := v.toList ++ g.stack } := by
      refine e3.trans ?_
      rw [hf₂, State.calling_eq h.top, State.setFrames_setFrames, State.setTop_of_frames _ hr', hr]
      rfl
    have hsame : U.sameButNew ({ U with heap := s₂.heap, slotsUsed := s₂.slotsUsed } : State) L mc ms := by
      refine ⟨?_, q2, q3, q4, q5, q6⟩
      obtain ⟨t, ht, -⟩ := State.frames_cons hr
      show ({ U with heap := s₂.heap, slotsUsed := s₂.slotsUsed } : State) = { U.setFrames U.frames with heap := s₂.heap, slotsUsed := s₂.slotsUsed }
      rw [State.setFrames_self ht]
    subst hg
    refine Or.inl ⟨v, ⟨(({ U with heap := s₂.heap, slotsUsed := s₂.slotsUsed } : State).setVm s₂.vm), Ls ++ L, c0 + mc, s0 + ms⟩,
      ⟨X.admits, X.cas, X.clock, X.frames, X.room, X.hears, X.method, X.code, (X.here.setHeapUsed s₂.heap s₂.slotsUsed).setVm hW'.alike, X.tail, State.WarmedH.trans X.warmed hW', X.limits, X.bytes, X.same.trans (hsame.setVm s.vm)⟩,
      ⟨g, mk, s₂, L, rfl, rfl, hqc, rfl, hL, rfl, rfl⟩, ?_⟩
    show Steps p.tables e below _ ((({ U with heap := s₂.heap, slotsUsed := s₂.slotsUsed } : State).setVm s₂.vm).setTop { g with pc := g.pc + len₂, stack := v.toList ++ g.stack })
    rw [← hs₂]
    exact hsteps
  · obtain ⟨e2, q2, q3, q4, q5, q6⟩ := id hsm
    have e3 : s₂ = ({ (U.calling g mk a).setFrames s₂.frames with heap := s₂.heap, slotsUsed := s₂.slotsUsed } : State).setVm s₂.vm := by
      have : s₂ = ({ s₂ with vm := (U.calling g mk a).vm } : State).setVm s₂.vm := rfl
      rw [e2] at this
      exact this
    have hf₂ : s₂.frames = .throwing q :: .java g :: U.frames.tail := hend
    have hW' : U.WarmedH s₂.vm := hW₂
    have hs₂ : s₂ = ((({ U with heap := s₂.heap, slotsUsed := s₂.slotsUsed } : State).setVm s₂.vm).setTop g).pushFrame (.throwing q) := by
      refine e3.trans ?_
      rw [hf₂, State.calling_eq h.top, State.setFrames_setFrames, State.pushFrame, State.frames_setTop _ hr', State.setTop_of_frames _ hr', State.setFrames_setFrames, hr]
      rfl
    have hsame : U.sameButNew ({ U with heap := s₂.heap, slotsUsed := s₂.slotsUsed } : State) L mc ms := by
      refine ⟨?_, q2, q3, q4, q5, q6⟩
      obtain ⟨t, ht, -⟩ := State.frames_cons hr
      show ({ U with heap := s₂.heap, slotsUsed := s₂.slotsUsed } : State) = { U.setFrames U.frames with heap := s₂.heap, slotsUsed := s₂.slotsUsed }
      rw [State.setFrames_self ht]
    subst hg
    refine Or.inr ⟨q, ⟨(({ U with heap := s₂.heap, slotsUsed := s₂.slotsUsed } : State).setVm s₂.vm), Ls ++ L, c0 + mc, s0 + ms⟩,
      ⟨X.admits, X.cas, X.clock, X.frames, X.room, X.hears, X.method, X.code, (X.here.setHeapUsed s₂.heap s₂.slotsUsed).setVm hW'.alike, X.tail, State.WarmedH.trans X.warmed hW', X.limits, X.bytes, X.same.trans (hsame.setVm s.vm)⟩,
      ⟨g, mk, s₂, L, E, ce, rfl, rfl, hx, hce, hcv, hcl, rfl, hL, rfl, rfl⟩, ?_⟩
    show Steps p.tables e below _ (((({ U with heap := s₂.heap, slotsUsed := s₂.slotsUsed } : State).setVm s₂.vm).setTop g).pushFrame (.throwing q))
    rw [← hs₂]
    exact hsteps
end Payer
section Calls
variable {p : Program} {l : Launch} {e : Env} {R : Room} {s : State} {m : MethodId} {args : Array Value} {below : List Frame} {meth : Method} {c : Code} {T : State} {locs : List Loc} {cells slots : Nat}
theorem vx_callV (X : Stand p l e R s m args below meth c T locs cells slots) (hexec : p.tables.exec = Jvm.exec) {own C : String} {index : Nat} {y : MethodName} {bytes : ByteArray} {maxL : Nat} {ret : Option FieldType}
    (hown : s.vm.findClass own = some m.cls) (hlink : (Cond.methodLink own index y).before args s = true) (hinst : (Cond.instanceMethod y).before args s = true) (hsel : (Cond.selects C y y).before args s = true)
    (hcode : (Cond.code y bytes maxL ret).before args s = true) (hy : y.cls ≠ "java/lang/invoke/MethodHandle" ∧ y.cls ≠ "java/lang/invoke/VarHandle")
    {W9 : Nat} {Pre : Pt → Array Value → Prop} {Post : Pt → Array Value → Option Value → Pt → Prop} {PostX : Pt → Array Value → Addr → Pt → Prop} (hK : vx_Back l R p e below s args y 3 W9 Pre Post PostX)
    {b : Addr} {cellB : Cell} (hcell : T.heap[b]? = some cellB) (hobj : cellB.vm.isStatics = false) (hcls : s.vm.findClass C = some cellB.cls)
    {g : JFrame} (hg : g.method = m) (hsize : g.locals.size = c.maxLocals) {argsL rest : List Value} (hlen : ∀ sig, parseMethodDescriptor y.desc = some sig → argsL.length = sig.parameters.length)
    (hstack : g.stack = argsL.reverse ++ .ref b :: rest) (hW : 2 * g.monitorRoom + (rest.map fun v => v.category).sum ≤ W9) (hdg : decode c.code g.pc = .ok (.invokevirtual index, 3))
    (hpre : ∀ vm₁, s.WarmedH vm₁ → Pre ⟨T.setVm vm₁, locs, cells, slots⟩ (Value.ref b :: argsL).toArray) :
    (∃ (v : Option Value) (vm₁ : Vm) (B : Pt), s.WarmedH vm₁ ∧ Stand p l e R s m args below meth c B.U B.locs B.cells B.slots ∧ Post ⟨T.setVm vm₁, locs, cells, slots⟩ (Value.ref b :: argsL).toArray v B ∧
      ∀ target, Steps p.tables e below (B.U.setTop { g with pc := g.pc + 3, stack := v.toList ++ rest }) target → Steps p.tables e below (T.setTop g) target) ∨
    (∃ (q : Addr) (vm₁ : Vm) (B : Pt), s.WarmedH vm₁ ∧ Stand p l e R s m args below meth c B.U B.locs B.cells B.slots ∧ PostX ⟨T.setVm vm₁, locs, cells, slots⟩ (Value.ref b :: argsL).toArray q B ∧
      Steps p.tables e below (T.setTop g) ((B.U.setTop { g with stack := rest }).pushFrame (.throwing q))) := by
  obtain ⟨mk, methM, hnamed, hmethM, hstM, habM⟩ := Cond.instanceMethod_spec hinst
  obtain ⟨methM', cM, hmethM', -, -, -, -, -, -, hsigM⟩ := Cond.code_spec hnamed hcode
  cases hmethM.symm.trans hmethM'
  obtain ⟨c2, r2, m2, q1, q2, q3, q4, kP, hkP, hkPi⟩ := Cond.selects_spec hsel
  cases hcls.symm.trans q1
  cases (State.methodFound?_of_named hnamed hy).symm.trans q2
  cases hnamed.symm.trans q3
  have hselP : selectMethod e.platform s.vm cellB.cls mk = .method mk := by rw [Launch.admits_selectMethod X.admits]; exact q4
  obtain ⟨vm₁, X₁, hstep₁⟩ := X.invokevirtual hexec hown hlink hnamed hmethM hstM hkP hkPi hy (a := b) (cell := cellB) hcell
    (fun z h => by rw [h] at hobj; cases hobj) hselP hmethM habM hkP hkPi (g := g) hg (argsL := argsL) (rest := rest) (hlen _ hsigM) hstack hdg
  rcases hK m meth c ⟨T.setVm vm₁, locs, cells, slots⟩ { g with stack := rest } (.invokevirtual index) mk (Value.ref b :: argsL).toArray X₁ hg hsize hdg hW (X₁.named hnamed) (hpre vm₁ X₁.warmed) with ⟨v, B, X', hpost, hsteps⟩ | ⟨q, B, X', hpost, hsteps⟩
  · exact Or.inl ⟨v, vm₁, B, X₁.warmed, X', hpost, fun target h => hstep₁ _ fun acts => by rw [doInvoke_state]; exact hsteps.trans h⟩
  · exact Or.inr ⟨q, vm₁, B, X₁.warmed, X', hpost, hstep₁ _ fun acts => by rw [doInvoke_state]; exact hsteps⟩
theorem vx_callS (X : Stand p l e R s m args below meth c T locs cells slots) (hexec : p.tables.exec = Jvm.exec) {own : String} {index : Nat} {y : MethodName} {bytes : ByteArray} {maxL : Nat} {ret : Option FieldType}
    (hown : s.vm.findClass own = some m.cls) (hlink : (Cond.methodLink own index y).before args s = true) (hstat : (Cond.static y).before args s = true) (hinit : (Cond.initialized y.cls).before args s = true)
    (hcode : (Cond.code y bytes maxL ret).before args s = true) (hy : y.cls ≠ "java/lang/invoke/MethodHandle" ∧ y.cls ≠ "java/lang/invoke/VarHandle")
    {W9 : Nat} {Pre : Pt → Array Value → Prop} {Post : Pt → Array Value → Option Value → Pt → Prop} {PostX : Pt → Array Value → Addr → Pt → Prop} (hK : vx_Back l R p e below s args y 3 W9 Pre Post PostX)
    {g : JFrame} (hg : g.method = m) (hsize : g.locals.size = c.maxLocals) {argsL rest : List Value} (hlen : ∀ sig, parseMethodDescriptor y.desc = some sig → argsL.length = sig.parameters.length)
    (hstack : g.stack = argsL.reverse ++ rest) (hW : 2 * g.monitorRoom + (rest.map fun v => v.category).sum ≤ W9) (hdg : decode c.code g.pc = .ok (.invokestatic index, 3))
    (hpre : ∀ vm₁, s.WarmedH vm₁ → Pre ⟨T.setVm vm₁, locs, cells, slots⟩ argsL.toArray) :
    (∃ (v : Option Value) (vm₁ : Vm) (B : Pt), s.WarmedH vm₁ ∧ Stand p l e R s m args below meth c B.U B.locs B.cells B.slots ∧ Post ⟨T.setVm vm₁, locs, cells, slots⟩ argsL.toArray v B ∧
      ∀ target, Steps p.tables e below (B.U.setTop { g with pc := g.pc + 3, stack := v.toList ++ rest }) target → Steps p.tables e below (T.setTop g) target) ∨
    (∃ (q : Addr) (vm₁ : Vm) (B : Pt), s.WarmedH vm₁ ∧ Stand p l e R s m args below meth c B.U B.locs B.cells B.slots ∧ PostX ⟨T.setVm vm₁, locs, cells, slots⟩ argsL.toArray q B ∧
      Steps p.tables e below (T.setTop g) ((B.U.setTop { g with stack := rest }).pushFrame (.throwing q))) := by
  obtain ⟨mk, hnamed⟩ := Cond.code_named hcode
  obtain ⟨methM, cM, hmethM, -, -, -, -, -, -, hsigM⟩ := Cond.code_spec hnamed hcode
  have hstatic : methM.isStatic = true := Cond.static_spec hnamed hmethM hstat
  obtain ⟨kP, hkP, -⟩ := className_of_methodNamed hnamed
  have hinitP : kP.init = .initialized := Cond.initialized_spec (findClass_of_methodNamed hnamed) hkP hinit
  obtain ⟨vm₁, X₁, hstep₁⟩ := X.invokestatic hexec hown hlink hnamed hmethM hstatic hkP hinitP hy (g := g) hg (argsL := argsL) (rest := rest) (hlen _ hsigM) hstack hdg
  rcases hK m meth c ⟨T.setVm vm₁, locs, cells, slots⟩ { g with stack := rest } (.invokestatic index) mk argsL.toArray X₁ hg hsize hdg hW (X₁.named hnamed) (hpre vm₁ X₁.warmed) with ⟨v, B, X', hpost, hsteps⟩ | ⟨q, B, X', hpost, hsteps⟩
  · exact Or.inl ⟨v, vm₁, B, X₁.warmed, X', hpost, fun target h => hstep₁ _ fun acts => by rw [doInvoke_state]; exact hsteps.trans h⟩
  · exact Or.inr ⟨q, vm₁, B, X₁.warmed, X', hpost, hstep₁ _ fun acts => by rw [doInvoke_state]; exact hsteps⟩
end Calls
theorem vx_cls {s : State} {T : State} {vm₁ : Vm} {E : String} {k : ClassId} (hW : s.WarmedH vm₁) (h : (T.setVm vm₁).vm.findClass E = some k) : s.vm.findClass E = some k := by
  have h1 : vm₁.findClass E = some k := h
  rw [hW.alike.findClass] at h1
  exact h1
/-- the method's frame g, with q thrown over it -/
def vx_W (p : Program) (l : Launch) (e : Env) (R : Room) (s : State) (m : MethodId) (args : Array Value) (below : List Frame) (meth : Method) (c : Code) (H : Heap) (locs : List Loc) (cells slots : Nat) (Q : State → Prop) (g : JFrame) (q : Addr) : Prop :=
  ∀ T : State, T.heap = H → Stand p l e R s m args below meth c T locs cells slots → ∃ t, Steps p.tables e below ((T.setTop g).pushFrame (.throwing q)) t ∧ Q t
def vx_Run (p : Program) (l : Launch) (e : Env) (R : Room) (s : State) (m : MethodId) (args : Array Value) (below : List Frame) (meth : Method) (c : Code) (H : Heap) (locs : List Loc) (cells slots mc ms : Nat) (g : JFrame) (rest : List Value) (Qa : State → Outcome → State → Prop) (XC : String → State → State → Prop) (free : Addr → Prop) : Prop :=
  ∀ T : State, T.heap = H → Stand p l e R s m args below meth c T locs cells slots →
    (∃ (v : Option Value) (st₀ t T' : State) (L : List Loc), st₀.heap = H ∧ Stand p l e R s m args below meth c T' (locs ++ L) (cells + mc) (slots + ms) ∧ (∀ q ∈ L, free q.base) ∧ T'.heap = t.heap ∧ T'.vm = t.vm ∧ Qa st₀ (.returned v) t ∧
      Goes p e below T g T' { g with pc := g.pc + 3, stack := v.toList ++ rest }) ∨
    (∃ (q : Addr) (st₀ t T' : State) (L : List Loc) (E : String) (ce : Cell), st₀.heap = H ∧ Stand p l e R s m args below meth c T' (locs ++ L) (cells + mc) (slots + ms) ∧ (∀ z ∈ L, free z.base) ∧ T'.heap = t.heap ∧ T'.vm = t.vm ∧ XC E st₀ t ∧ t.heap[q]? = some ce ∧ ce.vm = .none ∧ s.vm.findClass E = some ce.cls ∧
      Steps p.tables e below (T.setTop g) ((T'.setTop { g with stack := rest }).pushFrame (.throwing q)))
def vx_X {S : Type} (px : S → Prop) (B : String → S → State → Prop) (A : Nat → Prop) : String → State → State → Prop := fun E st t => ∃ u : S, px u ∧ B E u t ∧ va_F A st t
section Runs
variable {p : Program} {l : Launch} {e : Env} {R : Room} {s : State} {m : MethodId} {args : Array Value} {below : List Frame} {meth : Method} {c : Code} {H : Heap} {locs : List Loc} {cells slots : Nat}
variable {y : MethodName} {bytes cc : ByteArray} {maxL nL mc ms n index : Nat} {ret : Option FieldType} {ws : List Cond} {rm : Room} {Pc : Array Value → State → Prop} {Qc : Array Value → State → Outcome → State → Prop} {XC : String → State → State → Prop} {free : Addr → Prop} {Ts : List Cond} {own C : String} {b : Addr} {As rest : List Value} {g : JFrame}
theorem vx_callBack (cb : CallB R s args own index y bytes maxL ret ws rm mc ms n) (hM : vx_Met l y ws rm Pc Qc XC mc ms free) (hbl : FrameBlind Pc) : vx_Back l R p e below s args y 3 8 (PreOf R mc ms Pc) (PostOf Qc mc ms free) (vx_Post XC mc ms free) := by
  obtain ⟨hrc, hrs, hfr, hlo, hws, hcw, -, hini, -⟩ := cb
  exact vx_back (bytes := bytes) (maxL := maxL) (ret := ret) hM hbl hrc hrs hfr hlo hws hcw (fun a' U hW => word_at hW (Or.inl (by first | rfl | simp [Cond.onTables, Cond.keeps, Cond.steady])) hini)
theorem vx_runV (S : CallFix p m c cc nL s args Ts own) (hM : vx_Met l y ws rm Pc Qc XC mc ms free) (cw : CallW R s args own C index y bytes maxL ret ws rm mc ms n) (hp : PreV s H C b Pc As)
    (hg : g.method = m) (hn : As.length = n) (hsize : g.locals.size = nL) (hstack : g.stack = As.reverse ++ .ref b :: rest) (hW : 2 * g.monitorRoom + (rest.map fun v => v.category).sum ≤ 8) (hdg : decode cc g.pc = .ok (.invokevirtual index, 3)) (hf : cells + mc ≤ R.cells ∧ slots + ms ≤ R.slots) :
    vx_Run p l e R s m args below meth c H locs cells slots mc ms g rest (Qc (Value.ref b :: As).toArray) XC free := by
  have hK : vx_Back l R p e below s args y 3 8 (PreOf R mc ms Pc) (PostOf Qc mc ms free) (vx_Post XC mc ms free) := vx_callBack cw.1 hM hp.1
  obtain ⟨⟨-, -, -, -, -, -, hcode, -, hy, hlen, hl⟩, hin, hse⟩ := cw
  obtain ⟨hx, hb, hml, ho, -⟩ := S
  obtain ⟨-, ⟨cellB, hcB, hoB, hclB⟩, hPc⟩ := hp
  intro T hT X
  rcases vx_callV X hx (C := C) (bytes := bytes) (maxL := maxL) (ret := ret) ho hl hin hse hcode hy hK (by rw [hT]; exact hcB) hoB hclB hg (hsize.trans hml.symm) (argsL := As) (rest := rest) (fun sig h => hn.trans (hlen sig h)) hstack hW (by rw [hb]; exact hdg)
    (fun vm₁ hW₁ => ⟨hf.1, hf.2, hPc (T.setVm vm₁) hT hW₁⟩) with ⟨v, vm₁, ⟨U', l2, c2, s2⟩, hW₁, X', ⟨g', mk, t, L, e1, e2, hq, h1, hL, h2, h3⟩, st⟩ | ⟨q, vm₁, ⟨U', l2, c2, s2⟩, hW₁, X', ⟨g', mk, t, L, E, ce, e1, e2, hq, hce, hcv, hcl, h1, hL, h2, h3⟩, st⟩
  · dsimp only [Pt.U, Pt.locs, Pt.cells, Pt.slots] at X' e1 e2 h1 h2 h3 st
    subst h1; subst h2; subst h3
    exact Or.inl ⟨v, (T.setVm vm₁).calling g' mk (Value.ref b :: As).toArray, t, U', L, hT, X', hL, e1, e2, hq, st⟩
  · dsimp only [Pt.U, Pt.locs, Pt.cells, Pt.slots] at X' e1 e2 h1 h2 h3 st hcl
    subst h1; subst h2; subst h3
    exact Or.inr ⟨q, (T.setVm vm₁).calling g' mk (Value.ref b :: As).toArray, t, U', L, E, ce, hT, X', hL, e1, e2, hq, hce, hcv, vx_cls hW₁ hcl, st⟩
theorem vx_runS (S : CallFix p m c cc nL s args Ts own) (hM : vx_Met l y ws rm Pc Qc XC mc ms free) (cw : CallB R s args own index y bytes maxL ret ws rm mc ms n ∧ (Cond.static y).before args s = true) (hp : PreS s H Pc As)
    (hg : g.method = m) (hn : As.length = n) (hsize : g.locals.size = nL) (hstack : g.stack = As.reverse ++ rest) (hW : 2 * g.monitorRoom + (rest.map fun v => v.category).sum ≤ 8) (hdg : decode cc g.pc = .ok (.invokestatic index, 3)) (hf : cells + mc ≤ R.cells ∧ slots + ms ≤ R.slots) :
    vx_Run p l e R s m args below meth c H locs cells slots mc ms g rest (Qc As.toArray) XC free := by
  have hK : vx_Back l R p e below s args y 3 8 (PreOf R mc ms Pc) (PostOf Qc mc ms free) (vx_Post XC mc ms free) := vx_callBack cw.1 hM hp.1
  obtain ⟨⟨-, -, -, -, -, -, hcode, hini, hy, hlen, hl⟩, hstt⟩ := cw
  obtain ⟨hx, hb, hml, ho, -⟩ := S
  intro T hT X
  rcases vx_callS X hx (bytes := bytes) (maxL := maxL) (ret := ret) ho hl hstt hini hcode hy hK hg (hsize.trans hml.symm) (argsL := As) (rest := rest) (fun sig h => hn.trans (hlen sig h)) hstack hW (by rw [hb]; exact hdg)
    (fun vm₁ hW₁ => ⟨hf.1, hf.2, hp.2 (T.setVm vm₁) hT hW₁⟩) with ⟨v, vm₁, ⟨U', l2, c2, s2⟩, hW₁, X', ⟨g', mk, t, L, e1, e2, hq, h1, hL, h2, h3⟩, st⟩ | ⟨q, vm₁, ⟨U', l2, c2, s2⟩, hW₁, X', ⟨g', mk, t, L, E, ce, e1, e2, hq, hce, hcv, hcl, h1, hL, h2, h3⟩, st⟩
  · dsimp only [Pt.U, Pt.locs, Pt.cells, Pt.slots] at X' e1 e2 h1 h2 h3 st
    subst h1; subst h2; subst h3
    exact Or.inl ⟨v, (T.setVm vm₁).calling g' mk As.toArray, t, U', L, hT, X', hL, e1, e2, hq, st⟩
  · dsimp only [Pt.U, Pt.locs, Pt.cells, Pt.slots] at X' e1 e2 h1 h2 h3 st hcl
    subst h1; subst h2; subst h3
    exact Or.inr ⟨q, (T.setVm vm₁).calling g' mk As.toArray, t, U', L, E, ce, hT, X', hL, e1, e2, hq, hce, hcv, vx_cls hW₁ hcl, st⟩
end Runs
section Rows
variable {p : Program} {l : Launch} {e : Env} {R : Room} {s : State} {m : MethodId} {args : Array Value} {below : List Frame} {meth : Method} {c : Code} {H : Heap} {locs : List Loc} {cells slots : Nat} {Q : State → Prop}
variable {mc ms : Nat} {free : Addr → Prop} {A0 A1 : Nat → Prop} {H0 : Heap} {a : Array Value} {pc : Nat} {ls : Array Slot} {st0 rest : List Value}
theorem vx_keep {st₀ t T' : State} {L : List Loc} (h0 : st₀.heap = H) (e1 : T'.heap = t.heap) (hS : va_S A0 H0 H locs) (hA : ∀ q, q < H.size → A1 q → A0 q) (hf : ∀ q, free q → A0 q) (hL : ∀ q ∈ L, free q.base) (hF : va_F A1 st₀ t) :
    H.size ≤ T'.heap.size ∧ (∀ q : Nat, q < H.size → ¬ A1 q → T'.heap[q]? = H[q]?) ∧ va_S A0 H0 T'.heap (locs ++ L) := by
  obtain ⟨hz, hk⟩ := hF
  rw [h0] at hz hk
  exact ⟨by rw [e1]; exact hz, fun q h1 h2 => by rw [e1]; exact hk q h1 h2,
    ⟨Nat.le_trans hS.1 (by rw [e1]; exact hz), fun q h1 h2 => by rw [e1, hk q (Nat.lt_of_lt_of_le h1 hS.1) (fun z => h2 (hA q (Nat.lt_of_lt_of_le h1 hS.1) z))]; exact hS.2.1 q h1 h2, fun q hq => by
      rcases List.mem_append.mp hq with h | h
      · exact hS.2.2 q h
      · exact hf _ (hL q h)⟩⟩
theorem vx_calli {S SX : Type} {post : Int32 → S → Prop} {px : SX → Prop} {B : S → State → Prop} {BX : String → SX → State → Prop} {AX : Nat → Prop} (hr : vx_Run p l e R s m args below meth c H locs cells slots mc ms (F0 m pc ls st0) rest (va_Qi post B A1 a) (vx_X px BX AX) free) (hS : va_S A0 H0 H locs) (hA : ∀ q, q < H.size → A1 q → A0 q) (hf : ∀ q, free q → A0 q) (hAX : ∀ q, q < H.size → AX q → A0 q)
    (kx : ∀ (E : String) (ce : Cell) (q9 : Addr) (u : SX) (t : State) (H1 : Heap) (locs1 : List Loc), t.heap = H1 → s.vm.Alike t.vm → px u → BX E u t → H.size ≤ H1.size → (∀ q : Nat, q < H.size → ¬ AX q → H1[q]? = H[q]?) → va_S A0 H0 H1 locs1 → H1[q9]? = some ce → ce.vm = .none → s.vm.findClass E = some ce.cls → vx_W p l e R s m args below meth c H1 locs1 (cells + mc) (slots + ms) Q (F0 m pc ls rest) q9)
    (kk : ∀ (r : Int32) (u : S) (t : State) (H1 : Heap) (locs1 : List Loc), t.heap = H1 → s.vm.Alike t.vm → post r u → B u t → H.size ≤ H1.size → (∀ q : Nat, q < H.size → ¬ A1 q → H1[q]? = H[q]?) → va_S A0 H0 H1 locs1 → W p l e R s m args below meth c H1 locs1 (cells + mc) (slots + ms) Q (F0 m (pc + 3) ls (.int r :: rest))) : W p l e R s m args below meth c H locs cells slots Q (F0 m pc ls st0) := by
  intro T hT X
  rcases hr T hT X with ⟨v, st₀, t, T', L, h0, X', hL, e1, e2, ⟨⟨r, u, hv, hp, hb⟩, hF⟩, st⟩ | ⟨q, st₀, t, T', L, E, ce, h0, X', hL, e1, e2, ⟨u, hp, hb, hF⟩, hce, hcv, hcl, st⟩
  · cases hv
    obtain ⟨k1, k2, k3⟩ := vx_keep h0 e1 hS hA hf hL hF
    obtain ⟨t2, a1, b1⟩ := kk r u t T'.heap (locs ++ L) e1.symm (by rw [← e2]; exact X'.warmed.alike) hp hb k1 k2 k3 T' rfl X'
    exact ⟨t2, st t2 a1, b1⟩
  · obtain ⟨k1, k2, k3⟩ := vx_keep h0 e1 hS hAX hf hL hF
    obtain ⟨t2, a1, b1⟩ := kx E ce q u t T'.heap (locs ++ L) e1.symm (by rw [← e2]; exact X'.warmed.alike) hp hb k1 k2 k3 (by rw [e1]; exact hce) hcv hcl T' rfl X'
    exact ⟨t2, st.trans a1, b1⟩
theorem vx_calll {S SX : Type} {post : Int64 → S → Prop} {px : SX → Prop} {B : S → State → Prop} {BX : String → SX → State → Prop} {AX : Nat → Prop} (hr : vx_Run p l e R s m args below meth c H locs cells slots mc ms (F0 m pc ls st0) rest (va_Ql post B A1 a) (vx_X px BX AX) free) (hS : va_S A0 H0 H locs) (hA : ∀ q, q < H.size → A1 q → A0 q) (hf : ∀ q, free q → A0 q) (hAX : ∀ q, q < H.size → AX q → A0 q)
    (kx : ∀ (E : String) (ce : Cell) (q9 : Addr) (u : SX) (t : State) (H1 : Heap) (locs1 : List Loc), t.heap = H1 → s.vm.Alike t.vm → px u → BX E u t → H.size ≤ H1.size → (∀ q : Nat, q < H.size → ¬ AX q → H1[q]? = H[q]?) → va_S A0 H0 H1 locs1 → H1[q9]? = some ce → ce.vm = .none → s.vm.findClass E = some ce.cls → vx_W p l e R s m args below meth c H1 locs1 (cells + mc) (slots + ms) Q (F0 m pc ls rest) q9)
    (kk : ∀ (r : Int64) (u : S) (t : State) (H1 : Heap) (locs1 : List Loc), t.heap = H1 → s.vm.Alike t.vm → post r u → B u t → H.size ≤ H1.size → (∀ q : Nat, q < H.size → ¬ A1 q → H1[q]? = H[q]?) → va_S A0 H0 H1 locs1 → W p l e R s m args below meth c H1 locs1 (cells + mc) (slots + ms) Q (F0 m (pc + 3) ls (.long r :: rest))) : W p l e R s m args below meth c H locs cells slots Q (F0 m pc ls st0) := by
  intro T hT X
  rcases hr T hT X with ⟨v, st₀, t, T', L, h0, X', hL, e1, e2, ⟨⟨r, u, hv, hp, hb⟩, hF⟩, st⟩ | ⟨q, st₀, t, T', L, E, ce, h0, X', hL, e1, e2, ⟨u, hp, hb, hF⟩, hce, hcv, hcl, st⟩
  · cases hv
    obtain ⟨k1, k2, k3⟩ := vx_keep h0 e1 hS hA hf hL hF
    obtain ⟨t2, a1, b1⟩ := kk r u t T'.heap (locs ++ L) e1.symm (by rw [← e2]; exact X'.warmed.alike) hp hb k1 k2 k3 T' rfl X'
    exact ⟨t2, st t2 a1, b1⟩
  · obtain ⟨k1, k2, k3⟩ := vx_keep h0 e1 hS hAX hf hL hF
    obtain ⟨t2, a1, b1⟩ := kx E ce q u t T'.heap (locs ++ L) e1.symm (by rw [← e2]; exact X'.warmed.alike) hp hb k1 k2 k3 (by rw [e1]; exact hce) hcv hcl T' rfl X'
    exact ⟨t2, st.trans a1, b1⟩
theorem vx_callf {S SX : Type} {post : UInt32 → S → Prop} {px : SX → Prop} {B : S → State → Prop} {BX : String → SX → State → Prop} {AX : Nat → Prop} (hr : vx_Run p l e R s m args below meth c H locs cells slots mc ms (F0 m pc ls st0) rest (va_Qf post B A1 a) (vx_X px BX AX) free) (hS : va_S A0 H0 H locs) (hA : ∀ q, q < H.size → A1 q → A0 q) (hf : ∀ q, free q → A0 q) (hAX : ∀ q, q < H.size → AX q → A0 q)
    (kx : ∀ (E : String) (ce : Cell) (q9 : Addr) (u : SX) (t : State) (H1 : Heap) (locs1 : List Loc), t.heap = H1 → s.vm.Alike t.vm → px u → BX E u t → H.size ≤ H1.size → (∀ q : Nat, q < H.size → ¬ AX q → H1[q]? = H[q]?) → va_S A0 H0 H1 locs1 → H1[q9]? = some ce → ce.vm = .none → s.vm.findClass E = some ce.cls → vx_W p l e R s m args below meth c H1 locs1 (cells + mc) (slots + ms) Q (F0 m pc ls rest) q9)
    (kk : ∀ (r : UInt32) (u : S) (t : State) (H1 : Heap) (locs1 : List Loc), t.heap = H1 → s.vm.Alike t.vm → post r u → B u t → H.size ≤ H1.size → (∀ q : Nat, q < H.size → ¬ A1 q → H1[q]? = H[q]?) → va_S A0 H0 H1 locs1 → W p l e R s m args below meth c H1 locs1 (cells + mc) (slots + ms) Q (F0 m (pc + 3) ls (.float r :: rest))) : W p l e R s m args below meth c H locs cells slots Q (F0 m pc ls st0) := by
  intro T hT X
  rcases hr T hT X with ⟨v, st₀, t, T', L, h0, X', hL, e1, e2, ⟨⟨r, u, hv, hp, hb⟩, hF⟩, st⟩ | ⟨q, st₀, t, T', L, E, ce, h0, X', hL, e1, e2, ⟨u, hp, hb, hF⟩, hce, hcv, hcl, st⟩
  · cases hv
    obtain ⟨k1, k2, k3⟩ := vx_keep h0 e1 hS hA hf hL hF
    obtain ⟨t2, a1, b1⟩ := kk r u t T'.heap (locs ++ L) e1.symm (by rw [← e2]; exact X'.warmed.alike) hp hb k1 k2 k3 T' rfl X'
    exact ⟨t2, st t2 a1, b1⟩
  · obtain ⟨k1, k2, k3⟩ := vx_keep h0 e1 hS hAX hf hL hF
    obtain ⟨t2, a1, b1⟩ := kx E ce q u t T'.heap (locs ++ L) e1.symm (by rw [← e2]; exact X'.warmed.alike) hp hb k1 k2 k3 (by rw [e1]; exact hce) hcv hcl T' rfl X'
    exact ⟨t2, st.trans a1, b1⟩
theorem vx_calld {S SX : Type} {post : UInt64 → S → Prop} {px : SX → Prop} {B : S → State → Prop} {BX : String → SX → State → Prop} {AX : Nat → Prop} (hr : vx_Run p l e R s m args below meth c H locs cells slots mc ms (F0 m pc ls st0) rest (va_Qd post B A1 a) (vx_X px BX AX) free) (hS : va_S A0 H0 H locs) (hA : ∀ q, q < H.size → A1 q → A0 q) (hf : ∀ q, free q → A0 q) (hAX : ∀ q, q < H.size → AX q → A0 q)
    (kx : ∀ (E : String) (ce : Cell) (q9 : Addr) (u : SX) (t : State) (H1 : Heap) (locs1 : List Loc), t.heap = H1 → s.vm.Alike t.vm → px u → BX E u t → H.size ≤ H1.size → (∀ q : Nat, q < H.size → ¬ AX q → H1[q]? = H[q]?) → va_S A0 H0 H1 locs1 → H1[q9]? = some ce → ce.vm = .none → s.vm.findClass E = some ce.cls → vx_W p l e R s m args below meth c H1 locs1 (cells + mc) (slots + ms) Q (F0 m pc ls rest) q9)
    (kk : ∀ (r : UInt64) (u : S) (t : State) (H1 : Heap) (locs1 : List Loc), t.heap = H1 → s.vm.Alike t.vm → post r u → B u t → H.size ≤ H1.size → (∀ q : Nat, q < H.size → ¬ A1 q → H1[q]? = H[q]?) → va_S A0 H0 H1 locs1 → W p l e R s m args below meth c H1 locs1 (cells + mc) (slots + ms) Q (F0 m (pc + 3) ls (.double r :: rest))) : W p l e R s m args below meth c H locs cells slots Q (F0 m pc ls st0) := by
  intro T hT X
  rcases hr T hT X with ⟨v, st₀, t, T', L, h0, X', hL, e1, e2, ⟨⟨r, u, hv, hp, hb⟩, hF⟩, st⟩ | ⟨q, st₀, t, T', L, E, ce, h0, X', hL, e1, e2, ⟨u, hp, hb, hF⟩, hce, hcv, hcl, st⟩
  · cases hv
    obtain ⟨k1, k2, k3⟩ := vx_keep h0 e1 hS hA hf hL hF
    obtain ⟨t2, a1, b1⟩ := kk r u t T'.heap (locs ++ L) e1.symm (by rw [← e2]; exact X'.warmed.alike) hp hb k1 k2 k3 T' rfl X'
    exact ⟨t2, st t2 a1, b1⟩
  · obtain ⟨k1, k2, k3⟩ := vx_keep h0 e1 hS hAX hf hL hF
    obtain ⟨t2, a1, b1⟩ := kx E ce q u t T'.heap (locs ++ L) e1.symm (by rw [← e2]; exact X'.warmed.alike) hp hb k1 k2 k3 (by rw [e1]; exact hce) hcv hcl T' rfl X'
    exact ⟨t2, st.trans a1, b1⟩
theorem vx_callv {S SX : Type} {post : S → Prop} {px : SX → Prop} {B : S → State → Prop} {BX : String → SX → State → Prop} {AX : Nat → Prop} (hr : vx_Run p l e R s m args below meth c H locs cells slots mc ms (F0 m pc ls st0) rest (va_Qv post B A1 a) (vx_X px BX AX) free) (hS : va_S A0 H0 H locs) (hA : ∀ q, q < H.size → A1 q → A0 q) (hf : ∀ q, free q → A0 q) (hAX : ∀ q, q < H.size → AX q → A0 q)
    (kx : ∀ (E : String) (ce : Cell) (q9 : Addr) (u : SX) (t : State) (H1 : Heap) (locs1 : List Loc), t.heap = H1 → s.vm.Alike t.vm → px u → BX E u t → H.size ≤ H1.size → (∀ q : Nat, q < H.size → ¬ AX q → H1[q]? = H[q]?) → va_S A0 H0 H1 locs1 → H1[q9]? = some ce → ce.vm = .none → s.vm.findClass E = some ce.cls → vx_W p l e R s m args below meth c H1 locs1 (cells + mc) (slots + ms) Q (F0 m pc ls rest) q9)
    (kk : ∀ (u : S) (t : State) (H1 : Heap) (locs1 : List Loc), t.heap = H1 → s.vm.Alike t.vm → post u → B u t → H.size ≤ H1.size → (∀ q : Nat, q < H.size → ¬ A1 q → H1[q]? = H[q]?) → va_S A0 H0 H1 locs1 → W p l e R s m args below meth c H1 locs1 (cells + mc) (slots + ms) Q (F0 m (pc + 3) ls (rest))) : W p l e R s m args below meth c H locs cells slots Q (F0 m pc ls st0) := by
  intro T hT X
  rcases hr T hT X with ⟨v, st₀, t, T', L, h0, X', hL, e1, e2, ⟨⟨u, hv, hp, hb⟩, hF⟩, st⟩ | ⟨q, st₀, t, T', L, E, ce, h0, X', hL, e1, e2, ⟨u, hp, hb, hF⟩, hce, hcv, hcl, st⟩
  · cases hv
    obtain ⟨k1, k2, k3⟩ := vx_keep h0 e1 hS hA hf hL hF
    obtain ⟨t2, a1, b1⟩ := kk u t T'.heap (locs ++ L) e1.symm (by rw [← e2]; exact X'.warmed.alike) hp hb k1 k2 k3 T' rfl X'
    exact ⟨t2, st t2 a1, b1⟩
  · obtain ⟨k1, k2, k3⟩ := vx_keep h0 e1 hS hAX hf hL hF
    obtain ⟨t2, a1, b1⟩ := kx E ce q u t T'.heap (locs ++ L) e1.symm (by rw [← e2]; exact X'.warmed.alike) hp hb k1 k2 k3 (by rw [e1]; exact hce) hcv hcl T' rfl X'
    exact ⟨t2, st.trans a1, b1⟩
/-- caught by the row x of this method's table; the rows ahead don't take it -/
theorem vx_catch {own name : String} {E : String} {ce : Cell} {q : Addr} (hown : s.vm.findClass own = some m.cls) (pre : List ExceptionTableEntry) (x : ExceptionTableEntry) (suf : List ExceptionTableEntry) (hsplit : c.exceptionTable.toList = pre ++ x :: suf)
    (hpass : ∀ z ∈ pre, covers z pc = false ∨ (z.catchType ≠ 0 ∧ ∃ nm : String, (Cond.classLink own z.catchType nm).before args s = true ∧ va_Nc E nm s)) (hx : covers x pc = true) (h0 : x.catchType ≠ 0)
    (hlink : (Cond.classLink own x.catchType name).before args s = true) (hcast : (Cond.castable E name).before args s = true) (hcell : H[q]? = some ce) (hv : ce.vm = .none) (hcl : s.vm.findClass E = some ce.cls)
    (kk : W p l e R s m args below meth c H locs cells slots Q (F0 m x.handlerPc ls [.ref q])) : vx_W p l e R s m args below meth c H locs cells slots Q (F0 m pc ls rest) q := by
  intro T hT X
  have hpl : e.platform.magicAccessors = ({} : Platform).magicAccessors := by rw [X.admits.platform]
  obtain ⟨c3, c4, hc3, hc4, hasg⟩ := Cond.castable_spec hcast
  cases Option.some.inj (hc3.symm.trans hcl)
  obtain ⟨c5, hc5, hcl5⟩ := Cond.classLink_spec hown hlink e.platform hpl
  cases Option.some.inj (hc4.symm.trans hc5)
  obtain ⟨vm', X', st⟩ := X.thenCaughtThrough q (g := F0 m pc ls rest) rfl (Steps.refl _) (by rw [hT]; exact hcell) (by rw [hv]; rfl) (by obtain ⟨k9, h9, -⟩ := Vm.findClass_spec hcl; exact ⟨k9, h9⟩) pre x suf hsplit
    (fun z hz => by
      rcases hpass z hz with h | ⟨hz0, nm, hl1, hn1⟩
      · exact Or.inl h
      · obtain ⟨c6, hc6, hcl6⟩ := Cond.classLink_spec hown hl1 e.platform hpl
        obtain ⟨a8, b8, h1, h2, h3⟩ := hn1
        cases Option.some.inj (h1.symm.trans hcl)
        cases Option.some.inj (h2.symm.trans hc6)
        exact Or.inr ⟨hz0, _, hcl6, h3⟩) hx (Or.inr ⟨h0, c4, hcl5, hasg⟩)
  obtain ⟨t, a1, b1⟩ := kk (T.setVm vm') hT X'
  exact ⟨t, st.trans a1, b1⟩
end Rows
section Ends
variable {p : Program} {l : Launch} {e : Env} {R : Room} {s : State} {m : MethodId} {args : Array Value} {below : List Frame} {meth : Method} {c : Code} {H : Heap} {locs : List Loc} {cells slots : Nat} {Q : State → Prop}
variable {mc ms : Nat} {free : Addr → Prop} {A0 A1 : Nat → Prop} {H0 : Heap} {a : Array Value} {ls : Array Slot} {st0 rest : List Value}
variable {Qc : Array Value → State → Outcome → State → Prop} {XC : String → State → State → Prop}
/-- what a body that may throw owes at its end -/
def vx_MQ (below : List Frame) (Qc : Array Value → State → Outcome → State → Prop) (XC : String → State → State → Prop) (a : Array Value) (s : State) (mc ms : Nat) (free : Addr → Prop) : State → Prop := fun t =>
  ∃ o, t.status = .running ∧ Ended t below o ∧ vx_Q Qc XC mc ms free a s o t
theorem vx_ret {g : JFrame} {mc ms : Nat} (k : W p l e R s m args below meth c H locs cells slots (MQ below Qc args s mc ms free) g) : W p l e R s m args below meth c H locs cells slots (vx_MQ below Qc XC args s mc ms free) g := by
  intro T hT X
  obtain ⟨t, a1, o, b1, b2, b3, b4⟩ := k T hT X
  exact ⟨t, a1, o, b1, b2, Or.inl ⟨b3, b4⟩⟩
/-- not caught here: it goes on to the caller -/
theorem vx_widen {g : JFrame} {q : Addr} {k n : Nat} (h1 : cells ≤ k) (h2 : slots ≤ n) (kk : vx_W p l e R s m args below meth c H locs k n Q g q) : vx_W p l e R s m args below meth c H locs cells slots Q g q := fun T hT X => kk T hT (stand_widen X h1 h2)
theorem vx_out {pc : Nat} {E : String} {ce : Cell} {q : Addr} {mc ms : Nat} (hout : ∀ x ∈ c.exceptionTable.toList, covers x pc = false) (hlocks : meth.locks = false) (hcell : H[q]? = some ce) (hv : ce.vm = .none) (hcl : s.vm.findClass E = some ce.cls)
    (hx : ∀ t : State, t.heap = H → s.vm.Alike t.vm → XC E s t) (hf : ∀ z ∈ locs, free z.base) (hc : cells ≤ mc) (hs : slots ≤ ms) :
    vx_W p l e R s m args below meth c H locs cells slots (vx_MQ below Qc XC args s mc ms free) (F0 m pc ls rest) q := by
  intro T hT X
  obtain ⟨st1, hrun, hend, hW, hsm⟩ := X.leaveThrown q (g := F0 m pc ls rest) rfl rfl rfl hout hlocks
  have hcell9 : (T.setFrames (.throwing q :: below)).heap[q]? = some ce := by
    show T.heap[q]? = some ce
    rw [hT]; exact hcell
  exact ⟨_, st1, .threw q, hrun, hend, Or.inr ⟨q, rfl, E, ce, locs, hx _ hT hW.alike, hcell9, hv, hcl, hW, hsm.mono hc hs, hf⟩⟩
theorem vx_frame {U : State} {k n : Nat} (h : s.sameButNew ({ U with vm := s.vm } : State) locs k n) : s.heap.size ≤ U.heap.size ∧ ∀ q : Nat, q < s.heap.size → (∀ z ∈ locs, z.base ≠ q) → U.heap[q]? = s.heap[q]? := by
  obtain ⟨-, h2, -, -, -, h6⟩ := h
  refine ⟨h2, fun q hq hz => ?_⟩
  obtain ⟨c9, e1, e2, e3, e4⟩ := h6 q _ (Array.getElem?_eq_getElem hq)
  have hs : c9.slots = (s.heap[q]).slots := Array.ext_getElem? fun i => e4 i fun hm => hz _ hm rfl
  have h9 : c9 = s.heap[q] := by
    rw [hs] at e2
    exact e2
  have e5 : U.heap[q]? = some c9 := e1
  rw [e5, h9, Array.getElem?_eq_getElem hq]
/-- the words of a throw but the four that speak of the heap -/
def vx_no (w : Cond) : Bool := decide (w ≠ .isRef (.static Bundle.tN "UNASSIGNED_STACK" Bundle.steD)) && decide (w ≠ .isRef (.static Bundle.tN "SUPPRESSED_SENTINEL" Bundle.listD)) && decide (w ≠ .laysStatic Bundle.tN "UNASSIGNED_STACK" Bundle.steD) && decide (w ≠ .laysStatic Bundle.tN "SUPPRESSED_SENTINEL" Bundle.listD)
def vx_at0 (own : String) (ic : Nat) (X : String) (names : List String) : List Cond := (Bundle.ownAtoms0 own ic X names).filter vx_no
def vx_atS (own : String) (ic : Nat) (X : String) (names : List String) : List Cond := (Bundle.ownAtoms own ic X names).filter vx_no
/-- a word that the tables alone decide, or a good one -/
def vx_ot (w : Cond) : Bool := w.onTables || goodWord w
theorem vx_ot_at {args a' : Array Value} {s U : State} {w : Cond} (hW : s.WarmedH U.vm) (hvm : s.vm = U.vm) (hg : vx_ot w = true) (h : w.before args s = true) : w.before a' U = true := by
  simp only [vx_ot, Bool.or_eq_true] at hg
  rcases hg with hg | hg
  · exact va_tabs hg hvm h
  · exact word_at hW (good_of_word hg) h
/-- a list's words: the good ones out of the method's own list, the others by premises of their own -/
theorem vx_hat {args : Array Value} {s : State} {L B : List Cond} (h1 : ∀ w ∈ L.filter goodWord, w.before args s = true) (h2 : ∀ w ∈ L.filter (fun w => !goodWord w), w ∈ B) (h3 : ∀ w ∈ B, w.before args s = true) : ∀ w ∈ L, w.before args s = true := by
  intro w hw
  by_cases g : goodWord w = true
  · exact h1 w (List.mem_filter.mpr ⟨hw, g⟩)
  · refine h3 w (h2 w (List.mem_filter.mpr ⟨hw, ?_⟩))
    show (!goodWord w) = true
    cases hgw : goodWord w
    · rfl
    · exact absurd hgw g
theorem vx_c {args : Array Value} {s : State} {w : Cond} {B : List Cond} (h : w.before args s = true) (t : ∀ w ∈ B, w.before args s = true) : ∀ w' ∈ w :: B, w'.before args s = true := fun w' h' => (List.mem_cons.mp h').elim (fun e => by rw [e]; exact h) (t w')
theorem vx_n {args : Array Value} {s : State} : ∀ w ∈ ([] : List Cond), w.before args s = true := fun _ h => nomatch h
theorem vx_own {args : Array Value} {s : State} {L : List Cond} (h1 : ∀ w ∈ L.filter vx_no, w.before args s = true)
    (hU : (Cond.isRef (.static Bundle.tN "UNASSIGNED_STACK" Bundle.steD)).before args s = true) (hN : (Cond.isRef (.static Bundle.tN "SUPPRESSED_SENTINEL" Bundle.listD)).before args s = true)
    (lU : (Cond.laysStatic Bundle.tN "UNASSIGNED_STACK" Bundle.steD).before args s = true) (lN : (Cond.laysStatic Bundle.tN "SUPPRESSED_SENTINEL" Bundle.listD).before args s = true) : ∀ w ∈ L, w.before args s = true := by
  intro w hw
  by_cases e1 : w = .isRef (.static Bundle.tN "UNASSIGNED_STACK" Bundle.steD)
  · rw [e1]; exact hU
  · by_cases e2 : w = .isRef (.static Bundle.tN "SUPPRESSED_SENTINEL" Bundle.listD)
    · rw [e2]; exact hN
    · by_cases e3 : w = .laysStatic Bundle.tN "UNASSIGNED_STACK" Bundle.steD
      · rw [e3]; exact lU
      · by_cases e4 : w = .laysStatic Bundle.tN "SUPPRESSED_SENTINEL" Bundle.listD
        · rw [e4]; exact lN
        · exact h1 w (List.mem_filter.mpr ⟨hw, by unfold vx_no; rw [decide_eq_true e1, decide_eq_true e2, decide_eq_true e3, decide_eq_true e4]; rfl⟩)
/-- where a static field lies, its class's statics cell in H -/
def vx_L (C n d : String) (A : Nat → Prop) (U : State) (H : Heap) : Prop := ∃ (c : ClassId) (k : Class) (i : Nat) (f : Field) (a : Nat) (cell : Cell), U.vm.findClass C = some c ∧ U.fieldFound? C n d = some (c, k, i, f) ∧ f.isStatic = true ∧ k.statics = some a ∧ H[a]? = some cell ∧ cell.vm.isStatics = true ∧ cell.cls = c ∧ f.slot < cell.slots.size ∧ k.staticTypes[f.slot]? = some f.type ∧ ¬ A a
theorem vx_L.moved {C n d : String} {A : Nat → Prop} {u U : State} {H : Heap} (hvm : u.vm.Alike U.vm) (h : vx_L C n d A u H) : vx_L C n d A U H := by
  obtain ⟨c, k, i, f, a, cell, h1, h2, h3, h4, h5, h6, h7, h8, h9, h10⟩ := h
  obtain ⟨k', hi', he⟩ := State.fieldFound?_setVm hvm h2
  exact ⟨c, k', i, f, a, cell, by rw [hvm.findClass]; exact h1, hi', h3, by rw [he]; exact h4, h5, h6, h7, h8, by rw [he]; exact h9, h10⟩
theorem vx_L.kept {C n d : String} {A : Nat → Prop} {U : State} {H H1 : Heap} (h : vx_L C n d A U H) (hq : ∀ a : Nat, a < H.size → ¬ A a → H1[a]? = H[a]?) : vx_L C n d A U H1 := by
  obtain ⟨c, k, i, f, a, cell, h1, h2, h3, h4, h5, h6, h7, h8, h9, h10⟩ := h
  exact ⟨c, k, i, f, a, cell, h1, h2, h3, h4, by rw [hq a (Array.getElem?_eq_some_iff.mp h5).1 h10]; exact h5, h6, h7, h8, h9, h10⟩
theorem vx_L.narrow {C n d : String} {A B : Nat → Prop} {U : State} {H : Heap} (h : vx_L C n d A U H) (hAB : ∀ q, B q → A q) : vx_L C n d B U H := by
  obtain ⟨c, k, i, f, a, cell, h1, h2, h3, h4, h5, h6, h7, h8, h9, h10⟩ := h
  exact ⟨c, k, i, f, a, cell, h1, h2, h3, h4, h5, h6, h7, h8, h9, fun z => h10 (hAB _ z)⟩
theorem vx_L.word {C n d : String} {A : Nat → Prop} {s : State} {args : Array Value} (h : vx_L C n d A s s.heap) : (Cond.laysStatic C n d).before args s = true := by
  obtain ⟨c, k, i, f, a, cell, h1, h2, h3, h4, h5, h6, h7, h8, h9, -⟩ := h
  show (Cond.laysStatic C n d).holds args s none s [] = true
  exact Cond.laysStatic_of h1 h2 h3 h4 h5 h6 h7 h8 h9
/-- .. and what it holds: null or some reference -/
def vx_Zq (C n d : String) (A : Nat → Prop) (U : State) (H : Heap) : Prop := va_Zq C n d A U H ∧ vx_L C n d A U H
theorem vx_Zq.moved {C n d : String} {A : Nat → Prop} {u U : State} {H : Heap} (hvm : u.vm.Alike U.vm) (h : vx_Zq C n d A u H) : vx_Zq C n d A U H := ⟨va_Zq.moved hvm h.1, vx_L.moved hvm h.2⟩
theorem vx_Zq.kept {C n d : String} {A : Nat → Prop} {U : State} {H H1 : Heap} (h : vx_Zq C n d A U H) (hq : ∀ a : Nat, a < H.size → ¬ A a → H1[a]? = H[a]?) : vx_Zq C n d A U H1 := ⟨va_Zq.kept h.1 hq, vx_L.kept h.2 hq⟩
theorem vx_Zq.narrow {C n d : String} {A B : Nat → Prop} {U : State} {H : Heap} (h : vx_Zq C n d A U H) (hAB : ∀ q, B q → A q) : vx_Zq C n d B U H := ⟨va_Zq.narrow h.1 hAB, vx_L.narrow h.2 hAB⟩
theorem vx_Zqof {args : Array Value} {s : State} {C n d : String} {A : Nat → Prop} (hl : (Cond.laysStatic C n d).before args s = true) (hini : (Cond.initialized C).before args s = true) (h : (Cond.isRef (.static C n d)).before args s = true) (hA : ∀ a : Nat, a < s.heap.size → ¬ A a) : vx_Zq C n d A s s.heap := by
  refine ⟨va_Zqof hl hini h hA, ?_⟩
  obtain ⟨c, k, i, f, a, cell, h1, h2, h3, h4, h5, h6, h7, h8, h9⟩ := Cond.laysStatic_spec hl
  exact ⟨c, k, i, f, a, cell, h1, h2, h3, h4, h5, h6, h7, h8, h9, hA a (Array.getElem?_eq_some_iff.mp h5).1⟩
theorem vx_isRef {C n d : String} {v : Value} {A : Nat → Prop} {s : State} {args : Array Value} (h : va_Z C n d v A s s.heap) (hv : v.isRef = true) : (Cond.isRef (.static C n d)).before args s = true := by
  obtain ⟨cf, kf, fi, f, a, cell, h1, h2, h3, h4, h5, h6, h7, -⟩ := h
  have he : (Term.static C n d).eval args s none [] s = some v := by
    simp [Term.eval, State.fieldNamed?, h1, h2, h4, h5, h6, h7]
  simp only [Cond.before, Cond.holds, Cond.value, he]
  cases v <;> simp_all [Value.isRef]
theorem vx_isRefq {C n d : String} {A : Nat → Prop} {s : State} {args : Array Value} (h : va_Zq C n d A s s.heap) : (Cond.isRef (.static C n d)).before args s = true := by
  rcases h with h | ⟨t, h⟩
  · exact vx_isRef h rfl
  · exact vx_isRef h rfl
/-- the same frame, seen from here: as if the method were called anew in this heap -/
theorem vx_rebase {T : State} (X : Stand p l e R s m args below meth c T locs cells slots) {R' : Room} (hf : R'.frames ≤ R.frames) (hl : R'.locals ≤ R.locals) (hc : cells + R'.cells ≤ R.cells) (hs : slots + R'.slots ≤ R.slots) :
    Stand p l e R' ((T.setVm s.vm).setFrames (.invoking m args :: below)) m args below meth c T [] 0 0 := by
  have htop : (T.setVm s.vm).topJava?.isSome := X.here.top
  have hF : ((T.setVm s.vm).setFrames (.invoking m args :: below)).frames = .invoking m args :: below := State.frames_setFrames _ (State.cur_lt_of_top htop)
  obtain ⟨g₀, hg0⟩ := Option.isSome_iff_exists.mp htop
  obtain ⟨r, hr⟩ := State.topJava?_eq_some.mp hg0
  have hl9 : e.platform.stackLimits (T.setVm s.vm).me = e.platform.stackLimits s.me := X.limits
  have hb9 : (T.setVm s.vm).me.stackBytes = s.me.stackBytes := X.bytes
  refine ⟨X.admits, X.cas, X.clock, hF, ?_, X.hears, X.method, X.code, X.here, X.tail, X.warmed, ?_, ?_, ?_⟩
  · have h := X.room
    have hU : ((T.setVm s.vm).setFrames (.invoking m args :: below)).localsInUse = s.localsInUse := by
      rw [State.localsInUse_invoking hF (meth := meth) (c := c) X.method X.code, State.localsInUse_invoking X.frames X.method X.code]
    simp only [State.hasRoom, Bool.and_eq_true, decide_eq_true_eq] at h ⊢
    obtain ⟨⟨⟨⟨h1, h2, h3, h4, h5, h6⟩, h7⟩, h8⟩, h9⟩ := h
    rw [X.frames, List.length_cons] at h2 h3
    have q1 := X.heapSize
    have q2 := X.used
    simp only [hF, hU, List.length_cons, State.stackLimits_setFrames, State.stackBytes_setFrames, hl9, hb9]
    refine ⟨⟨⟨⟨by omega, by omega, by omega, by omega, by omega, h6⟩, ?_⟩, ?_⟩, X.book⟩
    · show T.heap.size + R'.cells ≤ e.platform.maxCells
      omega
    · show T.slotsUsed + R'.slots ≤ e.platform.maxSlots
      omega
  · rw [State.stackLimits_setFrames]; rfl
  · rw [State.stackBytes_setFrames]; rfl
  · refine ⟨?_, Nat.le_refl _, Nat.le_refl _, ?_, ?_, fun a c9 h9 => ⟨c9, h9, rfl, rfl, fun _ _ => rfl⟩⟩
    · obtain ⟨t, ht, -⟩ := State.frames_cons hr
      show T.setVm s.vm = { ((T.setVm s.vm).setFrames (.invoking m args :: below)).setFrames (T.setVm s.vm).frames with heap := T.heap, slotsUsed := T.slotsUsed }
      rw [State.setFrames_setFrames, State.setFrames_self ht]
      rfl
    · show T.slotsUsed = T.slotsUsed + ((T.heap.toList.drop T.heap.size).map (·.slots.size)).sum
      rw [List.drop_eq_nil_of_le (Nat.le_of_eq Array.length_toList)]
      rfl
    · show ((T.heap.toList.drop T.heap.size).map (·.slots.size)).sum ≤ 0
      rw [List.drop_eq_nil_of_le (Nat.le_of_eq Array.length_toList)]
      exact Nat.le_refl _
/-- 'throw new E()': new; dup; invokespecial; athrow -/
theorem vx_throw0 {cc : ByteArray} {pc : Nat} (hexec : p.tables.exec = Jvm.exec) (hb : c.code = cc) (hl : l.stackTraces = false) {own cls : String} {names : List String} {ik ic mc ms : Nat} {A : Nat → Prop}
    (hown : s.vm.findClass own = some m.cls) (hcls : Bundle.fit cls = true) (hnames : ∀ n ∈ names, Bundle.fit n = true)
    (hk : (Cond.classLink own ik cls).before args s = true) (hini : (Cond.initialized cls).before args s = true) (hat : ∀ w ∈ vx_at0 own ic cls names, w.before args s = true)
    (hgood : ∀ w ∈ Cond.classLink own ik cls :: Cond.initialized cls :: vx_at0 own ic cls names, vx_ot w = true)
    (hU : vx_Zq Bundle.tN "UNASSIGNED_STACK" Bundle.steD A s s.heap) (hN : vx_Zq Bundle.tN "SUPPRESSED_SENTINEL" Bundle.listD A s s.heap) (hS : va_S A s.heap H locs) (hsize : ls.size = c.maxLocals)
    (d0 : decode cc pc = .ok (.new ik, 3)) (d3 : decode cc (pc + 3) = .ok (.dup, 1)) (d4 : decode cc (pc + 4) = .ok (.invokespecial ic, 3)) (d7 : decode cc (pc + 7) = .ok (.athrow, 1))
    (hout : ∀ x ∈ c.exceptionTable.toList, covers x (pc + 7) = false)
    (hRframes : names.length + 3 < R.frames) (hRlocals : (rest.map fun v => v.category).sum + (13 * (names.length + 1) + 42) ≤ R.locals) (hRcells : cells + 1 ≤ R.cells) (hRslots : slots + 6 ≤ R.slots) (hlocks : meth.locks = false)
    (hx : ∀ t : State, s.vm.Alike t.vm → H.size ≤ t.heap.size → (∀ q : Nat, q < H.size → t.heap[q]? = H[q]?) → XC cls s t)
    (hf : ∀ z ∈ locs, free z.base) (hc : cells + 1 ≤ mc) (hs : slots + 6 ≤ ms) :
    W p l e R s m args below meth c H locs cells slots (vx_MQ below Qc XC args s mc ms free) (F0 m pc ls rest) := by
  intro T hT X
  have htr : e.platform.stackTraces = false := (show e.platform.stackTraces = l.stackTraces by rw [X.admits.platform]).trans hl
  have Y := vx_rebase X (R' := { frames := R.frames, locals := R.locals, cells := 1, slots := 6 }) (Nat.le_refl _) (Nat.le_refl _) hRcells hRslots
  obtain ⟨s', hA⟩ : ∃ z, z = (T.setVm s.vm).setFrames (.invoking m args :: below) := ⟨_, rfl⟩
  rw [← hA] at Y
  have hvm : s'.vm = s.vm := by rw [hA]; rfl
  have hhp : s'.heap = H := by rw [hA]; exact hT
  have hW0 : s.WarmedH s'.vm := by rw [hvm]; exact State.WarmedH.refl s
  have hat' : ∀ w ∈ vx_at0 own ic cls names, w.before args s' = true := fun w hw => vx_ot_at hW0 hvm.symm (hgood w (List.mem_cons_of_mem _ (List.mem_cons_of_mem _ hw))) (hat w hw)
  have hk' : (Cond.classLink own ik cls).before args s' = true := vx_ot_at hW0 hvm.symm (hgood _ List.mem_cons_self) hk
  have hini' : (Cond.initialized cls).before args s' = true := vx_ot_at hW0 hvm.symm (hgood _ (List.mem_cons_of_mem _ List.mem_cons_self)) hini
  have hU' : vx_Zq Bundle.tN "UNASSIGNED_STACK" Bundle.steD A s' s'.heap := by rw [hhp]; exact vx_Zq.moved hW0.alike (hU.kept hS.2.1)
  have hN' : vx_Zq Bundle.tN "SUPPRESSED_SENTINEL" Bundle.listD A s' s'.heap := by rw [hhp]; exact vx_Zq.moved hW0.alike (hN.kept hS.2.1)
  have h : ∀ w ∈ Bundle.ownAtoms0 own ic cls names, w.before args s' = true := vx_own hat' (vx_isRefq hU'.1) (vx_isRefq hN'.1) hU'.2.word hN'.2.word
  have hown' : s'.vm.findClass own = some m.cls := by rw [hvm]; exact hown
  have hins : (Cond.instantiable cls 6).before args s' = true := h _ (by simp [Bundle.ownAtoms0])
  obtain ⟨vm₁, cX, kX, hfX, hkX, -, -, X₁, st1⟩ := Y.newCold hexec (own := own) (C := cls) (index := ik) (n := 6) hown' hk' hins hini'
    (g := F0 m pc ls rest) rfl (by rw [hb]; exact d0) (Nat.le_refl _) (Nat.le_refl _)
  generalize hT1 : (T.setVm vm₁).pushCell { cls := cX, slots := kX.instanceTypes.map defaultValue, vm := .none } = T1 at X₁ st1
  have hcat : (Value.ref T.heap.size).category = 1 := rfl
  have hcellA : T1.heap[T.heap.size]? = some (freshCell cX kX) := by rw [← hT1]; exact State.heap_pushCell_size _ _
  have d3' : decode c.code (pc + 3) = .ok (.dup, 1) := by rw [hb]; exact d3
  obtain ⟨U, hsteps, hrun, hend, hW, hsame, ce, hce, hO⟩ := X₁.ctorThrow0 hexec htr (own := own) (cls := cls) (names := names) (ic := ic) hown' hcls hnames h (fun x hx => nomatch hx) hfX hkX hcellA (by rw [hhp, hT]; exact Nat.le_refl _)
    (g := { method := m, pc := pc + 4, locals := ls, stack := .ref T.heap.size :: .ref T.heap.size :: rest, locked := none }) rfl hsize rfl rfl (rest := rest) rfl
    (by rw [hb]; exact d4) (by rw [hb]; exact d7) hout hRframes (by simp only [List.map_cons, List.sum_cons, hcat]; omega) hlocks
  obtain ⟨f1, f2⟩ := vx_frame hsame
  rw [hhp] at f1 f2
  have hWs : s.WarmedH U.vm := State.WarmedH.trans hW0 hW
  have hcl : s.vm.findClass cls = some ce.cls := by
    have h9 := hO.cls
    rw [hvm] at h9
    exact h9
  have hall : s.sameButNew ({ U with vm := s.vm } : State) locs mc ms := by
    subst hA
    obtain ⟨e1, e2⟩ := hsame
    rw [State.setFrames_setFrames] at e1
    have h2 : (T.setVm s.vm).sameButNew ({ U with vm := s.vm } : State) [] (0 + 1) (0 + 6) := ⟨e1, e2⟩
    have h3 := X.same.trans h2
    rw [List.append_nil] at h3
    exact h3.mono hc hs
  refine ⟨U, ?_, .threw T.heap.size, hrun, hend, Or.inr ⟨T.heap.size, rfl, cls, ce, locs, hx U hWs.alike f1 (fun q hq => f2 q hq (fun z hz => nomatch hz)), hce, hO.vm, hcl, hWs, hall, hf⟩⟩
  refine st1 _ ?_
  show Steps p.tables e below (T1.setTop { method := m, pc := pc + 3, locals := ls, stack := .ref T.heap.size :: rest, locked := none }) _
  jvm_step X₁.here [X₁.here.top, hexec, d3', Value.category]
  exact hsteps
/-- 'throw new E("text")': new; dup; ldc; invokespecial; athrow -/
theorem vx_throwS {cc : ByteArray} {pc : Nat} (hexec : p.tables.exec = Jvm.exec) (hb : c.code = cc) (hl : l.stackTraces = false) {own cls text : String} {names : List String} {ik is ic mc ms sa : Nat} {A : Nat → Prop}
    (hown : s.vm.findClass own = some m.cls) (hcls : Bundle.fit cls = true) (hnames : ∀ n ∈ names, Bundle.fit n = true)
    (hk : (Cond.classLink own ik cls).before args s = true) (hini : (Cond.initialized cls).before args s = true) (hstr : vk_R own is text sa s) (hat : ∀ w ∈ vx_atS own ic cls names, w.before args s = true)
    (hgood : ∀ w ∈ Cond.classLink own ik cls :: Cond.initialized cls :: vx_atS own ic cls names, vx_ot w = true)
    (hU : vx_Zq Bundle.tN "UNASSIGNED_STACK" Bundle.steD A s s.heap) (hN : vx_Zq Bundle.tN "SUPPRESSED_SENTINEL" Bundle.listD A s s.heap) (hS : va_S A s.heap H locs) (hsize : ls.size = c.maxLocals)
    (d0 : decode cc pc = .ok (.new ik, 3)) (d3 : decode cc (pc + 3) = .ok (.dup, 1)) (d4 : decode cc (pc + 4) = .ok (.ldc is, 2)) (d6 : decode cc (pc + 6) = .ok (.invokespecial ic, 3)) (d9 : decode cc (pc + 9) = .ok (.athrow, 1))
    (hout : ∀ x ∈ c.exceptionTable.toList, covers x (pc + 9) = false)
    (hRframes : names.length + 3 < R.frames) (hRlocals : (rest.map fun v => v.category).sum + (13 * (names.length + 1) + 43) ≤ R.locals) (hRcells : cells + 1 ≤ R.cells) (hRslots : slots + 6 ≤ R.slots) (hlocks : meth.locks = false)
    (hx : ∀ t : State, s.vm.Alike t.vm → H.size ≤ t.heap.size → (∀ q : Nat, q < H.size → t.heap[q]? = H[q]?) → XC cls s t)
    (hf : ∀ z ∈ locs, free z.base) (hc : cells + 1 ≤ mc) (hs : slots + 6 ≤ ms) :
    W p l e R s m args below meth c H locs cells slots (vx_MQ below Qc XC args s mc ms free) (F0 m pc ls rest) := by
  intro T hT X
  have htr : e.platform.stackTraces = false := (show e.platform.stackTraces = l.stackTraces by rw [X.admits.platform]).trans hl
  have Y := vx_rebase X (R' := { frames := R.frames, locals := R.locals, cells := 1, slots := 6 }) (Nat.le_refl _) (Nat.le_refl _) hRcells hRslots
  obtain ⟨s', hA⟩ : ∃ z, z = (T.setVm s.vm).setFrames (.invoking m args :: below) := ⟨_, rfl⟩
  rw [← hA] at Y
  have hvm : s'.vm = s.vm := by rw [hA]; rfl
  have hhp : s'.heap = H := by rw [hA]; exact hT
  have hW0 : s.WarmedH s'.vm := by rw [hvm]; exact State.WarmedH.refl s
  have hat' : ∀ w ∈ vx_atS own ic cls names, w.before args s' = true := fun w hw => vx_ot_at hW0 hvm.symm (hgood w (List.mem_cons_of_mem _ (List.mem_cons_of_mem _ hw))) (hat w hw)
  have hk' : (Cond.classLink own ik cls).before args s' = true := vx_ot_at hW0 hvm.symm (hgood _ List.mem_cons_self) hk
  have hini' : (Cond.initialized cls).before args s' = true := vx_ot_at hW0 hvm.symm (hgood _ (List.mem_cons_of_mem _ List.mem_cons_self)) hini
  have hU' : vx_Zq Bundle.tN "UNASSIGNED_STACK" Bundle.steD A s' s'.heap := by rw [hhp]; exact vx_Zq.moved hW0.alike (hU.kept hS.2.1)
  have hN' : vx_Zq Bundle.tN "SUPPRESSED_SENTINEL" Bundle.listD A s' s'.heap := by rw [hhp]; exact vx_Zq.moved hW0.alike (hN.kept hS.2.1)
  have h : ∀ w ∈ Bundle.ownAtoms own ic cls names, w.before args s' = true := vx_own hat' (vx_isRefq hU'.1) (vx_isRefq hN'.1) hU'.2.word hN'.2.word
  have hown' : s'.vm.findClass own = some m.cls := by rw [hvm]; exact hown
  have hins : (Cond.instantiable cls 6).before args s' = true := h _ (by simp [Bundle.ownAtoms])
  obtain ⟨vm₁, cX, kX, hfX, hkX, -, -, X₁, st1⟩ := Y.newCold hexec (own := own) (C := cls) (index := ik) (n := 6) hown' hk' hins hini'
    (g := F0 m pc ls rest) rfl (by rw [hb]; exact d0) (Nat.le_refl _) (Nat.le_refl _)
  generalize hT1 : (T.setVm vm₁).pushCell { cls := cX, slots := kX.instanceTypes.map defaultValue, vm := .none } = T1 at X₁ st1
  have hcat : (Value.ref T.heap.size).category = 1 := rfl
  have hcellA : T1.heap[T.heap.size]? = some (freshCell cX kX) := by rw [← hT1]; exact State.heap_pushCell_size _ _
  have d3' : decode c.code (pc + 3) = .ok (.dup, 1) := by rw [hb]; exact d3
  have d4' : decode c.code (pc + 4) = .ok (.ldc is, 2) := by rw [hb]; exact d4
  have hstr' : vk_R own is text sa s' := vk_R.warm hW0 hstr
  obtain ⟨U, hsteps, hrun, hend, hW, hsame, ce, hce, hO⟩ := X₁.ctorThrowS hexec htr (own := own) (cls := cls) (names := names) (ic := ic) hown' hcls hnames h (fun x hx => nomatch hx) hfX hkX hcellA (by rw [hhp, hT]; exact Nat.le_refl _) (msg := .ref sa) rfl
    (g := { method := m, pc := pc + 6, locals := ls, stack := .ref sa :: .ref T.heap.size :: .ref T.heap.size :: rest, locked := none }) rfl hsize rfl rfl (rest := rest) rfl
    (by rw [hb]; exact d6) (by rw [hb]; exact d9) hout hRframes (by simp only [List.map_cons, List.sum_cons, hcat]; omega) hlocks
  obtain ⟨f1, f2⟩ := vx_frame hsame
  rw [hhp] at f1 f2
  have hWs : s.WarmedH U.vm := State.WarmedH.trans hW0 hW
  have hcl : s.vm.findClass cls = some ce.cls := by
    have h9 := hO.cls
    rw [hvm] at h9
    exact h9
  have hall : s.sameButNew ({ U with vm := s.vm } : State) locs mc ms := by
    subst hA
    obtain ⟨e1, e2⟩ := hsame
    rw [State.setFrames_setFrames] at e1
    have h2 : (T.setVm s.vm).sameButNew ({ U with vm := s.vm } : State) [] (0 + 1) (0 + 6) := ⟨e1, e2⟩
    have h3 := X.same.trans h2
    rw [List.append_nil] at h3
    exact h3.mono hc hs
  refine ⟨U, ?_, .threw T.heap.size, hrun, hend, Or.inr ⟨T.heap.size, rfl, cls, ce, locs, hx U hWs.alike f1 (fun q hq => f2 q hq (fun z hz => nomatch hz)), hce, hO.vm, hcl, hWs, hall, hf⟩⟩
  refine st1 _ ?_
  show Steps p.tables e below (T1.setTop { method := m, pc := pc + 3, locals := ls, stack := .ref T.heap.size :: rest, locked := none }) _
  jvm_step X₁.here [X₁.here.top, hexec, d3', Value.category]
  exact X₁.ldcString hexec (own := own) (text := text) (index := is) (a := sa) hown' hstr'.1 hstr'.2
    (g := { method := m, pc := pc + 4, locals := ls, stack := .ref T.heap.size :: .ref T.heap.size :: rest, locked := none }) rfl d4' _ hsteps
/-- 'throw new E("text")', the text by a wide index -/
theorem vx_throwSW {cc : ByteArray} {pc : Nat} (hexec : p.tables.exec = Jvm.exec) (hb : c.code = cc) (hl : l.stackTraces = false) {own cls text : String} {names : List String} {ik is ic mc ms sa : Nat} {A : Nat → Prop}
    (hown : s.vm.findClass own = some m.cls) (hcls : Bundle.fit cls = true) (hnames : ∀ n ∈ names, Bundle.fit n = true)
    (hk : (Cond.classLink own ik cls).before args s = true) (hini : (Cond.initialized cls).before args s = true) (hstr : vk_R own is text sa s) (hat : ∀ w ∈ vx_atS own ic cls names, w.before args s = true)
    (hgood : ∀ w ∈ Cond.classLink own ik cls :: Cond.initialized cls :: vx_atS own ic cls names, vx_ot w = true)
    (hU : vx_Zq Bundle.tN "UNASSIGNED_STACK" Bundle.steD A s s.heap) (hN : vx_Zq Bundle.tN "SUPPRESSED_SENTINEL" Bundle.listD A s s.heap) (hS : va_S A s.heap H locs) (hsize : ls.size = c.maxLocals)
    (d0 : decode cc pc = .ok (.new ik, 3)) (d3 : decode cc (pc + 3) = .ok (.dup, 1)) (d4 : decode cc (pc + 4) = .ok (.ldc_w is, 3)) (d7 : decode cc (pc + 7) = .ok (.invokespecial ic, 3)) (d10 : decode cc (pc + 10) = .ok (.athrow, 1))
    (hout : ∀ x ∈ c.exceptionTable.toList, covers x (pc + 10) = false)
    (hRframes : names.length + 3 < R.frames) (hRlocals : (rest.map fun v => v.category).sum + (13 * (names.length + 1) + 43) ≤ R.locals) (hRcells : cells + 1 ≤ R.cells) (hRslots : slots + 6 ≤ R.slots) (hlocks : meth.locks = false)
    (hx : ∀ t : State, s.vm.Alike t.vm → H.size ≤ t.heap.size → (∀ q : Nat, q < H.size → t.heap[q]? = H[q]?) → XC cls s t)
    (hf : ∀ z ∈ locs, free z.base) (hc : cells + 1 ≤ mc) (hs : slots + 6 ≤ ms) :
    W p l e R s m args below meth c H locs cells slots (vx_MQ below Qc XC args s mc ms free) (F0 m pc ls rest) := by
  intro T hT X
  have htr : e.platform.stackTraces = false := (show e.platform.stackTraces = l.stackTraces by rw [X.admits.platform]).trans hl
  have Y := vx_rebase X (R' := { frames := R.frames, locals := R.locals, cells := 1, slots := 6 }) (Nat.le_refl _) (Nat.le_refl _) hRcells hRslots
  obtain ⟨s', hA⟩ : ∃ z, z = (T.setVm s.vm).setFrames (.invoking m args :: below) := ⟨_, rfl⟩
  rw [← hA] at Y
  have hvm : s'.vm = s.vm := by rw [hA]; rfl
  have hhp : s'.heap = H := by rw [hA]; exact hT
  have hW0 : s.WarmedH s'.vm := by rw [hvm]; exact State.WarmedH.refl s
  have hat' : ∀ w ∈ vx_atS own ic cls names, w.before args s' = true := fun w hw => vx_ot_at hW0 hvm.symm (hgood w (List.mem_cons_of_mem _ (List.mem_cons_of_mem _ hw))) (hat w hw)
  have hk' : (Cond.classLink own ik cls).before args s' = true := vx_ot_at hW0 hvm.symm (hgood _ List.mem_cons_self) hk
  have hini' : (Cond.initialized cls).before args s' = true := vx_ot_at hW0 hvm.symm (hgood _ (List.mem_cons_of_mem _ List.mem_cons_self)) hini
  have hU' : vx_Zq Bundle.tN "UNASSIGNED_STACK" Bundle.steD A s' s'.heap := by rw [hhp]; exact vx_Zq.moved hW0.alike (hU.kept hS.2.1)
  have hN' : vx_Zq Bundle.tN "SUPPRESSED_SENTINEL" Bundle.listD A s' s'.heap := by rw [hhp]; exact vx_Zq.moved hW0.alike (hN.kept hS.2.1)
  have h : ∀ w ∈ Bundle.ownAtoms own ic cls names, w.before args s' = true := vx_own hat' (vx_isRefq hU'.1) (vx_isRefq hN'.1) hU'.2.word hN'.2.word
  have hown' : s'.vm.findClass own = some m.cls := by rw [hvm]; exact hown
  have hins : (Cond.instantiable cls 6).before args s' = true := h _ (by simp [Bundle.ownAtoms])
  obtain ⟨vm₁, cX, kX, hfX, hkX, -, -, X₁, st1⟩ := Y.newCold hexec (own := own) (C := cls) (index := ik) (n := 6) hown' hk' hins hini'
    (g := F0 m pc ls rest) rfl (by rw [hb]; exact d0) (Nat.le_refl _) (Nat.le_refl _)
  generalize hT1 : (T.setVm vm₁).pushCell { cls := cX, slots := kX.instanceTypes.map defaultValue, vm := .none } = T1 at X₁ st1
  have hcat : (Value.ref T.heap.size).category = 1 := rfl
  have hcellA : T1.heap[T.heap.size]? = some (freshCell cX kX) := by rw [← hT1]; exact State.heap_pushCell_size _ _
  have d3' : decode c.code (pc + 3) = .ok (.dup, 1) := by rw [hb]; exact d3
  have d4' : decode c.code (pc + 4) = .ok (.ldc_w is, 3) := by rw [hb]; exact d4
  have hstr' : vk_R own is text sa s' := vk_R.warm hW0 hstr
  obtain ⟨U, hsteps, hrun, hend, hW, hsame, ce, hce, hO⟩ := X₁.ctorThrowS hexec htr (own := own) (cls := cls) (names := names) (ic := ic) hown' hcls hnames h (fun x hx => nomatch hx) hfX hkX hcellA (by rw [hhp, hT]; exact Nat.le_refl _) (msg := .ref sa) rfl
    (g := { method := m, pc := pc + 7, locals := ls, stack := .ref sa :: .ref T.heap.size :: .ref T.heap.size :: rest, locked := none }) rfl hsize rfl rfl (rest := rest) rfl
    (by rw [hb]; exact d7) (by rw [hb]; exact d10) hout hRframes (by simp only [List.map_cons, List.sum_cons, hcat]; omega) hlocks
  obtain ⟨f1, f2⟩ := vx_frame hsame
  rw [hhp] at f1 f2
  have hWs : s.WarmedH U.vm := State.WarmedH.trans hW0 hW
  have hcl : s.vm.findClass cls = some ce.cls := by
    have h9 := hO.cls
    rw [hvm] at h9
    exact h9
  have hall : s.sameButNew ({ U with vm := s.vm } : State) locs mc ms := by
    subst hA
    obtain ⟨e1, e2⟩ := hsame
    rw [State.setFrames_setFrames] at e1
    have h2 : (T.setVm s.vm).sameButNew ({ U with vm := s.vm } : State) [] (0 + 1) (0 + 6) := ⟨e1, e2⟩
    have h3 := X.same.trans h2
    rw [List.append_nil] at h3
    exact h3.mono hc hs
  refine ⟨U, ?_, .threw T.heap.size, hrun, hend, Or.inr ⟨T.heap.size, rfl, cls, ce, locs, hx U hWs.alike f1 (fun q hq => f2 q hq (fun z hz => nomatch hz)), hce, hO.vm, hcl, hWs, hall, hf⟩⟩
  refine st1 _ ?_
  show Steps p.tables e below (T1.setTop { method := m, pc := pc + 3, locals := ls, stack := .ref T.heap.size :: rest, locked := none }) _
  jvm_step X₁.here [X₁.here.top, hexec, d3', Value.category]
  exact X₁.ldcStringW hexec (own := own) (text := text) (index := is) (a := sa) hown' hstr'.1 hstr'.2
    (g := { method := m, pc := pc + 4, locals := ls, stack := .ref T.heap.size :: .ref T.heap.size :: rest, locked := none }) rfl d4' _ hsteps
end Ends
section Bodies
variable {l : Launch}
theorem vx_ofW {y : MethodName} {ws ws' : List Cond} {rm : Room} {Pc : Array Value → State → Prop} {Qc : Array Value → State → Outcome → State → Prop} {XC : String → State → State → Prop} {mc ms : Nat} {free : Addr → Prop} {cc : ByteArray} {maxL : Nat} {ret : Option FieldType}
    (hy : plainName y.cls = true) (hw : ws = Cond.code y cc maxL ret :: ws')
    (body : ∀ p e s m args below meth c s₁, BodyLoose p l y (headSpec ws rm) cc maxL ret e s m args below meth c s₁ → c.maxLocals = maxL → (∀ x ∈ c.exceptionTable.toList, False) → Pc args s →
      W p l e (headSpec ws rm).room s m args below meth c s.heap [] 0 0 (vx_MQ below Qc XC args s mc ms free) (entryFrame m args maxL)) : vx_Met l y ws rm Pc Qc XC mc ms free := by
  refine MetFree.of_bodyS (code := cc) (maxLocals := maxL) (ret := ret) hy ?_ ?_
  · intro args s m h hn
    obtain ⟨meth, c, h1, h2, h3, h4, h5, h6, -, -⟩ := Cond.code_spec hn (atoms_spec (ws := ws) h _ (by rw [hw]; exact List.mem_cons_self))
    exact ⟨meth, c, h1, h2, h3, h4, h5, h6⟩
  · intro p e s m args below meth c s₁ B hml hP _
    have hh0 : s₁.heap = s.heap := by rw [B.state]; rfl
    have ht : ∀ x ∈ c.exceptionTable.toList, False := by
      obtain ⟨meth9, c9, h1, h2, -, -, -, -, h7, -⟩ := Cond.code_spec B.named (atoms_spec (ws := ws) B.pre _ (by rw [hw]; exact List.mem_cons_self))
      cases Option.some.inj (h1.symm.trans B.method)
      cases Option.some.inj (h2.symm.trans (Stand.of_body B).code)
      intro x hx
      rw [Array.isEmpty_iff.mp h7] at hx
      cases hx
    obtain ⟨t, a1, o, b1, b2, b3⟩ := body p e s m args below meth c s₁ B hml ht hP s₁ hh0 (Stand.of_body B)
    exact ⟨t, o, a1, b1, b2, b3⟩
/-- the table of a body with handlers -/
theorem vx_table {p : Program} {x y : MethodName} {S : Spec} {cc bytes : ByteArray} {maxL maxL' : Nat} {ret ret' : Option FieldType} {e : Env} {s s₁ : State} {m : MethodId} {args : Array Value} {below : List Frame} {meth : Method} {c : Code} {hh : List (Nat × Nat × Nat × Nat)}
    (B : BodyLoose p l y S cc maxL ret e s m args below meth c s₁) (h : (Cond.codeWith y bytes maxL' ret' hh).before args s = true) : c.exceptionTable.toList = tableOf hh := by
  obtain ⟨m9, meth9, c9, hn9, h1, h2, -, -, h6, -⟩ := Cond.codeWith_spec h
  cases Option.some.inj (hn9.symm.trans B.named)
  cases Option.some.inj (h1.symm.trans B.method)
  cases Option.some.inj (h2.symm.trans (Stand.of_body B).code)
  rw [← h6, table_eq]
end Bodies
end VXA
/-! ===== END ===== -/
/-! ===== BEGIN a static call of a method with an exception table ===== -/
section VXS
variable {p : Program} {l : Launch} {e : Env} {R : Room} {s : State} {m : MethodId} {args : Array Value} {below : List Frame} {meth : Method} {c : Code} {T : State} {H : Heap} {locs : List Loc} {cells slots : Nat}
abbrev vx_CSW (R : Room) (s : State) (args : Array Value) (own : String) (index : Nat) (y : MethodName) (bytes : ByteArray) (maxL : Nat) (ret : Option FieldType) (hh : List (Nat × Nat × Nat × Nat)) (ws : List Cond) (rm : Room) (mc ms n : Nat) : Prop :=
  (rm.cells = mc ∧ rm.slots = ms ∧ rm.frames + 1 ≤ R.frames ∧ 8 + (maxL + 11) + rm.locals ≤ R.locals ∧ (∀ w ∈ ws, ∀ (a' : Array Value) (U : State), s.WarmedH U.vm → w.before a' U = true) ∧ Cond.codeWith y bytes maxL ret hh ∈ ws) ∧
  (Cond.codeWith y bytes maxL ret hh).before args s = true ∧ (Cond.initialized y.cls).before args s = true ∧ (y.cls ≠ "java/lang/invoke/MethodHandle" ∧ y.cls ≠ "java/lang/invoke/VarHandle") ∧
  (∀ sig, parseMethodDescriptor y.desc = some sig → n = sig.parameters.length) ∧ (Cond.methodLink own index y).before args s = true ∧ (Cond.static y).before args s = true
theorem vx_cwSW {own : String} {index maxL mc ms : Nat} {y : MethodName} {bytes : ByteArray} {ret : Option FieldType} {hh : List (Nat × Nat × Nat × Nat)} {Ts ws ws' : List Cond} {rm : Room} (n : Nat) (ht : ∀ w ∈ Ts, w.before args s = true) (hT : GoodIn Ts (va_wsS own index y ws)) (hw : ws = Cond.codeWith y bytes maxL ret hh :: ws') (hrc : rm.cells = mc) (hrs : rm.slots = ms)
    (hd : y.cls ≠ "java/lang/invoke/MethodHandle" ∧ y.cls ≠ "java/lang/invoke/VarHandle" ∧ (parseMethodDescriptor y.desc).map (fun d => d.parameters.length) = some n) (hR : rm.frames + 1 ≤ R.frames ∧ 8 + (maxL + 11) + rm.locals ≤ R.locals) :
    vx_CSW R s args own index y bytes maxL ret hh ws rm mc ms n := by
  have ok : ∀ w ∈ va_wsS own index y ws, w.before args s = true := fun w h => ht w (hT w h).1
  have hG : GoodIn Ts ws := fun w h => hT w (by unfold va_wsS; exact List.mem_append_right _ h)
  have hc : Cond.codeWith y bytes maxL ret hh ∈ ws := by rw [hw]; exact List.mem_cons_self
  refine ⟨⟨hrc, hrs, hR.1, hR.2, pay_in ht hG, hc⟩, ht _ (hG _ hc).1, ok _ (by simp [va_wsS]), ⟨hd.1, hd.2.1⟩, fun sig h => ?_, ok _ (by simp [va_wsS]), ok _ (by simp [va_wsS])⟩
  have h2 := hd.2.2
  rw [h] at h2
  exact (Option.some.inj h2).symm
theorem vx_callSW (X : Stand p l e R s m args below meth c T locs cells slots) (hexec : p.tables.exec = Jvm.exec) {own : String} {index : Nat} {y : MethodName} {bytes : ByteArray} {maxL : Nat} {ret : Option FieldType} {hh : List (Nat × Nat × Nat × Nat)}
    (hown : s.vm.findClass own = some m.cls) (hlink : (Cond.methodLink own index y).before args s = true) (hstat : (Cond.static y).before args s = true) (hinit : (Cond.initialized y.cls).before args s = true)
    (hcode : (Cond.codeWith y bytes maxL ret hh).before args s = true) (hy : y.cls ≠ "java/lang/invoke/MethodHandle" ∧ y.cls ≠ "java/lang/invoke/VarHandle")
    {W9 : Nat} {Pre : Pt → Array Value → Prop} {Post : Pt → Array Value → Option Value → Pt → Prop} (hK : Back l R p e below s args y 3 W9 Pre Post)
    {g : JFrame} (hg : g.method = m) (hsize : g.locals.size = c.maxLocals) {argsL rest : List Value} (hlen : ∀ sig, parseMethodDescriptor y.desc = some sig → argsL.length = sig.parameters.length)
    (hstack : g.stack = argsL.reverse ++ rest) (hW : 2 * g.monitorRoom + (rest.map fun v => v.category).sum ≤ W9) (hdg : decode c.code g.pc = .ok (.invokestatic index, 3))
    (hpre : ∀ vm₁, s.WarmedH vm₁ → Pre ⟨T.setVm vm₁, locs, cells, slots⟩ argsL.toArray) :
    ∃ (v : Option Value) (vm₁ : Vm) (B : Pt), s.WarmedH vm₁ ∧ Stand p l e R s m args below meth c B.U B.locs B.cells B.slots ∧ Post ⟨T.setVm vm₁, locs, cells, slots⟩ argsL.toArray v B ∧
      ∀ target, Steps p.tables e below (B.U.setTop { g with pc := g.pc + 3, stack := v.toList ++ rest }) target → Steps p.tables e below (T.setTop g) target := by
  obtain ⟨mk, methM, cM, hnamed, hmethM, -, -, -, -, -, -, hsigM⟩ := Cond.codeWith_spec hcode
  have hstatic : methM.isStatic = true := Cond.static_spec hnamed hmethM hstat
  obtain ⟨kP, hkP, -⟩ := className_of_methodNamed hnamed
  have hinitP : kP.init = .initialized := Cond.initialized_spec (findClass_of_methodNamed hnamed) hkP hinit
  obtain ⟨vm₁, X₁, hstep₁⟩ := X.invokestatic hexec hown hlink hnamed hmethM hstatic hkP hinitP hy (g := g) hg (argsL := argsL) (rest := rest) (hlen _ hsigM) hstack hdg
  obtain ⟨v, B, X', hpost, hsteps⟩ := hK m meth c ⟨T.setVm vm₁, locs, cells, slots⟩ { g with stack := rest } (.invokestatic index) mk argsL.toArray X₁ hg hsize hdg hW (X₁.named hnamed) (hpre vm₁ X₁.warmed)
  exact ⟨v, vm₁, B, X₁.warmed, X', hpost, fun target h => hstep₁ _ fun acts => by rw [doInvoke_state]; exact hsteps.trans h⟩
theorem vx_runSW {y : MethodName} {bytes cc : ByteArray} {maxL nL mc ms n index : Nat} {ret : Option FieldType} {hh : List (Nat × Nat × Nat × Nat)} {ws : List Cond} {rm : Room} {Pc : Array Value → State → Prop} {Qc : Array Value → State → Outcome → State → Prop} {free : Addr → Prop} {Ts : List Cond} {own : String} {As rest : List Value} {g : JFrame}
    (S : CallFix p m c cc nL s args Ts own) (hM : Met l y ws rm Pc Qc mc ms free) (cw : vx_CSW R s args own index y bytes maxL ret hh ws rm mc ms n) (hp : PreS s H Pc As)
    (hg : g.method = m) (hn : As.length = n) (hsize : g.locals.size = nL) (hstack : g.stack = As.reverse ++ rest) (hW : 2 * g.monitorRoom + (rest.map fun v => v.category).sum ≤ 8) (hdg : decode cc g.pc = .ok (.invokestatic index, 3)) (hf : cells + mc ≤ R.cells ∧ slots + ms ≤ R.slots) :
    va_Run p l e R s m args below meth c H locs cells slots mc ms g rest (Qc As.toArray) (free) := by
  obtain ⟨⟨hrc, hrs, hfr, hlo, hws, hcw⟩, hcode, hini, hy, hlen, hl, hstt⟩ := cw
  have hK : Back l R p e below s args y 3 8 (PreOf R mc ms Pc) (PostOf Qc mc ms free) := va_backW (hh := hh) (bytes := bytes) (maxL := maxL) (ret := ret) hM hp.1 hrc hrs hfr hlo hws hcw (fun a' U hW => word_at hW (Or.inl (by first | rfl | simp [Cond.onTables, Cond.keeps, Cond.steady])) hini)
  obtain ⟨hx, hb, hml, ho, -⟩ := S
  intro T hT X
  obtain ⟨v, vm₁, ⟨U', l2, c2, s2⟩, hW₁, X', ⟨g', mk, t, L, e1, e2, hq, h1, hL, h2, h3⟩, st⟩ := vx_callSW X hx (hh := hh) (bytes := bytes) (maxL := maxL) (ret := ret) ho hl hstt hini hcode hy hK hg (hsize.trans hml.symm) (argsL := As) (rest := rest) (fun sig h => hn.trans (hlen sig h)) hstack hW (by rw [hb]; exact hdg)
    (fun vm₁ hW₁ => ⟨hf.1, hf.2, hp.2 (T.setVm vm₁) hT hW₁⟩)
  dsimp only [Pt.U, Pt.locs, Pt.cells, Pt.slots] at X' e1 e2 h1 h2 h3 st
  subst h1; subst h2; subst h3
  exact ⟨v, (T.setVm vm₁).calling g' mk As.toArray, t, U', L, hT, X', hL, e1, e2, hq, st⟩
/-- not caught here, past rows that name other classes: it goes on to the caller -/
theorem vx_outP {p : Program} {l : Launch} {e : Env} {R : Room} {s : State} {m : MethodId} {args : Array Value} {below : List Frame} {meth : Method} {c : Code} {H : Heap} {locs : List Loc} {cells slots : Nat} {free : Addr → Prop} {ls : Array Slot} {rest : List Value} {Qc : Array Value → State → Outcome → State → Prop} {XC : String → State → State → Prop}
    {pc : Nat} {own E : String} {ce : Cell} {q : Addr} {mc ms : Nat} (hown : s.vm.findClass own = some m.cls) (hlocks : meth.locks = false)
    (hpass : ∀ z ∈ c.exceptionTable.toList, covers z pc = false ∨ (z.catchType ≠ 0 ∧ ∃ nm : String, (Cond.classLink own z.catchType nm).before args s = true ∧ va_Nc E nm s)) (hcell : H[q]? = some ce) (hv : ce.vm = .none) (hcl : s.vm.findClass E = some ce.cls)
    (hx : ∀ t : State, t.heap = H → s.vm.Alike t.vm → XC E s t) (hf : ∀ z ∈ locs, free z.base) (hc : cells ≤ mc) (hs : slots ≤ ms) :
    vx_W p l e R s m args below meth c H locs cells slots (vx_MQ below Qc XC args s mc ms free) (F0 m pc ls rest) q := by
  intro T hT X
  have hpl : e.platform.magicAccessors = ({} : Platform).magicAccessors := by rw [X.admits.platform]
  obtain ⟨vm', hW', X', st⟩ := X.outThrough hlocks q (g := F0 m pc ls rest) rfl rfl rfl (cell := ce) (by rw [hT]; exact hcell) (by rw [hv]; rfl)
    (by obtain ⟨k9, h9, -⟩ := Vm.findClass_spec hcl; exact ⟨k9, h9⟩) (fun z hz => by
      rcases hpass z hz with h | ⟨hz0, nm, hl1, hn1⟩
      · exact Or.inl h
      · obtain ⟨c6, hc6, hcl6⟩ := Cond.classLink_spec hown hl1 e.platform hpl
        obtain ⟨a8, b8, h1, h2, h3⟩ := hn1
        cases Option.some.inj (h1.symm.trans hcl)
        cases Option.some.inj (h2.symm.trans hc6)
        exact Or.inr ⟨hz0, _, hcl6, h3⟩)
  obtain ⟨g₀, hfr⟩ := X'.frames_eq
  have hcell9 : ((T.setVm vm').setFrames (.throwing q :: below)).heap[q]? = some ce := by
    show T.heap[q]? = some ce
    rw [hT]; exact hcell
  have hend : Ended ((T.setVm vm').setFrames (.throwing q :: below)) below (.threw q) := State.frames_setFrames _ (State.cur_lt_of_frames hfr)
  refine ⟨(T.setVm vm').setFrames (.throwing q :: below), ?_, .threw q, X'.here.running, hend, Or.inr ⟨q, rfl, E, ce, locs, hx _ hT (X'.ends _).1.alike, hcell9, hv, hcl, (X'.ends _).1, (X'.ends _).2.mono hc hs, hf⟩⟩
  rw [X.pushThrowing_eq]
  exact st
/-- a thing of a world lies in the heap -/
theorem vx_lt {D : va_G} {cl : List vw_C} {ws : va_W} {H1 : Heap} (h : va_P D cl ws H1) {k : Nat} {q : Nat × va_E} (hk : ws[k]? = some q) : q.1 < H1.size := (h k q hk).lt
end VXS
/-! ===== END ===== -/
/-! ===== BEGIN methods with a table of their own: called by a name, returning or throwing ===== -/
section VXH
/-! vx_backW, vx_callVX, vx_callSX, vx_callVW, vx_runVW, vx_runVX, vx_runSX, vx_ofWH follow the same proofs as their sisters above (Free/Laws.lean, Shelf42/LK1.lean); vx_outP calls Shelf42/NT130.lean (outThrough). -/
section
variable {l : Launch} {R : Room} {p : Program} {e : Env} {below : List Frame} {s : State} {sargs : Array Value} {y : MethodName} {len W9 : Nat}
theorem vx_backW {ws : List Cond} {rm : Room} {Pc : Array Value → State → Prop} {Qc : Array Value → State → Outcome → State → Prop} {XC : String → State → State → Prop} {mc ms : Nat} {free : Addr → Prop} {bytes : ByteArray} {maxL : Nat} {ret : Option FieldType} {hh : List (Nat × Nat × Nat × Nat)}
    (hM : vx_Met l y ws rm Pc Qc XC mc ms free) (hblind : FrameBlind Pc) (hrc : rm.cells = mc) (hrs : rm.slots = ms)
    (hframes : rm.frames + 1 ≤ R.frames) (hlocals : W9 + (maxL + 11) + rm.locals ≤ R.locals)
    (hws : ∀ w ∈ ws, ∀ a' U, s.WarmedH U.vm → w.before a' U = true) (hcode : Cond.codeWith y bytes maxL ret hh ∈ ws) (hinit : ∀ a' U, s.WarmedH U.vm → (Cond.initialized y.cls).before a' U = true) :
    vx_Back l R p e below s sargs y len W9 (PreOf R mc ms Pc) (PostOf Qc mc ms free) (vx_Post XC mc ms free) := by
  intro m meth c A g ig mk a X hg hsize hdg hW hn hp
  have h1 : (headSpec ws rm).pre.before a A.U = true := atoms_intro fun w hw => hws w hw _ _ X.warmed
  have h2 : (Cond.codeWith y bytes maxL ret hh).before a A.U = true := hws _ hcode _ _ X.warmed
  have h3 : (Cond.initialized y.cls).before a A.U = true := hinit _ _ X.warmed
  have h4 : A.cells + (headSpec ws rm).room.cells ≤ R.cells := by rw [show (headSpec ws rm).room.cells = mc from hrc]; exact hp.1
  have h5 : A.slots + (headSpec ws rm).room.slots ≤ R.slots := by rw [show (headSpec ws rm).room.slots = ms from hrs]; exact hp.2.1
  have hPc : Pc a (A.U.calling g mk a) := hblind _ _ _ _ hp.2.2
  obtain ⟨U, Ls, c0, s0⟩ := A
  dsimp only [Pt.U, Pt.locs, Pt.cells, Pt.slots] at h1 h2 h3 h4 h5 X hn hPc ⊢
  obtain ⟨m9, methY, cY, hn9, hmY, hcY, -, hlY, -⟩ := Cond.codeWith_spec h2
  cases Option.some.inj (hn9.symm.trans hn)
  obtain ⟨kY, hkY, -⟩ := className_of_methodNamed hn
  have hinitY : kY.init = .initialized := Cond.initialized_spec (findClass_of_methodNamed hn) hkY h3
  have h : At U g.method c below := by rw [hg]; exact X.here
  have hlocals9 : W9 + (maxL + 11) + (headSpec ws rm).room.locals ≤ R.locals := hlocals
  have happ : (headSpec ws rm).appliesLoose y e.platform (U.calling g mk a) = true :=
    Spec.appliesLoose_calling (g := g) h hdg hn hkY hinitY
      (X.room_calling (g := g) (R' := (headSpec ws rm).room) hsize hmY hcY hframes (by rw [hlY]; omega) h4 h5) h1
  obtain ⟨mid, hmid⟩ := h.above
  have hfr : (U.setTop g).frames = (.java g :: mid) ++ below := by rw [State.frames_setTop' g h.top, hmid]; rfl
  obtain ⟨o, s₂, hsteps, -, hend, hq⟩ := Steps.callFree hM p X.admits X.cas X.clock (acts := []) hfr happ hPc trivial
  have hq' : vx_Q Qc XC mc ms free a (U.calling g mk a) o s₂ := hq
  rw [State.frames_setTop' g h.top] at hend
  obtain ⟨g₀, hg0⟩ := Option.isSome_iff_exists.mp h.top
  obtain ⟨r, hr⟩ := State.topJava?_eq_some.mp hg0
  have hr' : (({ U with heap := s₂.heap, slotsUsed := s₂.slotsUsed } : State).setVm s₂.vm).frames = .java g₀ :: r := hr
  rcases hq' with ⟨hqc, L, hfe, hL⟩ | ⟨q, rfl, E, ce, L, hx, hce, hcv, hcl, hW₂, hsm, hL⟩
  · obtain ⟨⟨v, rfl⟩, hW₂, e2, q2, q3, q4, q5, q6⟩ := id hfe
    have e3 : s₂ = ({ (U.calling g mk a).setFrames s₂.frames with heap := s₂.heap, slotsUsed := s₂.slotsUsed } : State).setVm s₂.vm := by
      have : s₂ = ({ s₂ with vm := (U.calling g mk a).vm } : State).setVm s₂.vm := rfl
      rw [e2] at this
      exact this
    obtain ⟨c₂, i₂, len₂, hc₂, hd₂, hf₂⟩ := hend
    have hW' : U.WarmedH s₂.vm := hW₂
    have hcc : c₂ = c := by
      have h1 : s₂.code? g.method = U.code? g.method := by
        rw [State.code?_eq, State.code?_eq, hW'.alike.method?]
      exact Option.some.inj (hc₂.symm.trans (h1.trans h.code))
    subst hcc
    have hlen : len₂ = len := by rw [hdg] at hd₂; cases hd₂; rfl
    subst hlen
    have hs₂ : s₂ = (({ U with heap := s₂.heap, slotsUsed := s₂.slotsUsed } : State).setVm s₂.vm).setTop { g with pc := g.pc + len₂, stack := v.toList ++ g.stack } := by
      refine e3.trans ?_
      rw [hf₂, State.calling_eq h.top, State.setFrames_setFrames, State.setTop_of_frames _ hr', hr]
      rfl
    have hsame : U.sameButNew ({ U with heap := s₂.heap, slotsUsed := s₂.slotsUsed } : State) L mc ms := by
      refine ⟨?_, q2, q3, q4, q5, q6⟩
      obtain ⟨t, ht, -⟩ := State.frames_cons hr
      show ({ U with heap := s₂.heap, slotsUsed := s₂.slotsUsed } : State) = { U.setFrames U.frames with heap := s₂.heap, slotsUsed := s₂.slotsUsed }
      rw [State.setFrames_self ht]
    subst hg
    refine Or.inl ⟨v, ⟨(({ U with heap := s₂.heap, slotsUsed := s₂.slotsUsed } : State).setVm s₂.vm), Ls ++ L, c0 + mc, s0 + ms⟩,
      ⟨X.admits, X.cas, X.clock, X.frames, X.room, X.hears, X.method, X.code, (X.here.setHeapUsed s₂.heap s₂.slotsUsed).setVm hW'.alike, X.tail, State.WarmedH.trans X.warmed hW', X.limits, X.bytes, X.same.trans (hsame.setVm s.vm)⟩,
      ⟨g, mk, s₂, L, rfl, rfl, hqc, rfl, hL, rfl, rfl⟩, ?_⟩
    show Steps p.tables e below _ ((({ U with heap := s₂.heap, slotsUsed := s₂.slotsUsed } : State).setVm s₂.vm).setTop { g with pc := g.pc + len₂, stack := v.toList ++ g.stack })
    rw [← hs₂]
    exact hsteps
  · obtain ⟨e2, q2, q3, q4, q5, q6⟩ := id hsm
    have e3 : s₂ = ({ (U.calling g mk a).setFrames s₂.frames with heap := s₂.heap, slotsUsed := s₂.slotsUsed } : State).setVm s₂.vm := by
      have : s₂ = ({ s₂ with vm := (U.calling g mk a).vm } : State).setVm s₂.vm := rfl
      rw [e2] at this
      exact this
    have hf₂ : s₂.frames = .throwing q :: .java g :: U.frames.tail := hend
    have hW' : U.WarmedH s₂.vm := hW₂
    have hs₂ : s₂ = ((({ U with heap := s₂.heap, slotsUsed := s₂.slotsUsed } : State).setVm s₂.vm).setTop g).pushFrame (.throwing q) := by
      refine e3.trans ?_
      rw [hf₂, State.calling_eq h.top, State.setFrames_setFrames, State.pushFrame, State.frames_setTop _ hr', State.setTop_of_frames _ hr', State.setFrames_setFrames, hr]
      rfl
    have hsame : U.sameButNew ({ U with heap := s₂.heap, slotsUsed := s₂.slotsUsed } : State) L mc ms := by
      refine ⟨?_, q2, q3, q4, q5, q6⟩
      obtain ⟨t, ht, -⟩ := State.frames_cons hr
      show ({ U with heap := s₂.heap, slotsUsed := s₂.slotsUsed } : State) = { U.setFrames U.frames with heap := s₂.heap, slotsUsed := s₂.slotsUsed }
      rw [State.setFrames_self ht]
    subst hg
    refine Or.inr ⟨q, ⟨(({ U with heap := s₂.heap, slotsUsed := s₂.slotsUsed } : State).setVm s₂.vm), Ls ++ L, c0 + mc, s0 + ms⟩,
      ⟨X.admits, X.cas, X.clock, X.frames, X.room, X.hears, X.method, X.code, (X.here.setHeapUsed s₂.heap s₂.slotsUsed).setVm hW'.alike, X.tail, State.WarmedH.trans X.warmed hW', X.limits, X.bytes, X.same.trans (hsame.setVm s.vm)⟩,
      ⟨g, mk, s₂, L, E, ce, rfl, rfl, hx, hce, hcv, hcl, rfl, hL, rfl, rfl⟩, ?_⟩
    show Steps p.tables e below _ (((({ U with heap := s₂.heap, slotsUsed := s₂.slotsUsed } : State).setVm s₂.vm).setTop g).pushFrame (.throwing q))
    rw [← hs₂]
    exact hsteps
end
variable {p : Program} {l : Launch} {e : Env} {R : Room} {s : State} {m : MethodId} {args : Array Value} {below : List Frame} {meth : Method} {c : Code} {T : State} {H : Heap} {locs : List Loc} {cells slots : Nat}
theorem vx_callVX (X : Stand p l e R s m args below meth c T locs cells slots) (hexec : p.tables.exec = Jvm.exec) {own C : String} {index : Nat} {y : MethodName} {bytes : ByteArray} {maxL : Nat} {ret : Option FieldType} {hh : List (Nat × Nat × Nat × Nat)}
    (hown : s.vm.findClass own = some m.cls) (hlink : (Cond.methodLink own index y).before args s = true) (hinst : (Cond.instanceMethod y).before args s = true) (hsel : (Cond.selects C y y).before args s = true)
    (hcode : (Cond.codeWith y bytes maxL ret hh).before args s = true) (hy : y.cls ≠ "java/lang/invoke/MethodHandle" ∧ y.cls ≠ "java/lang/invoke/VarHandle")
    {W9 : Nat} {Pre : Pt → Array Value → Prop} {Post : Pt → Array Value → Option Value → Pt → Prop} {PostX : Pt → Array Value → Addr → Pt → Prop} (hK : vx_Back l R p e below s args y 3 W9 Pre Post PostX)
    {b : Addr} {cellB : Cell} (hcell : T.heap[b]? = some cellB) (hobj : cellB.vm.isStatics = false) (hcls : s.vm.findClass C = some cellB.cls)
    {g : JFrame} (hg : g.method = m) (hsize : g.locals.size = c.maxLocals) {argsL rest : List Value} (hlen : ∀ sig, parseMethodDescriptor y.desc = some sig → argsL.length = sig.parameters.length)
    (hstack : g.stack = argsL.reverse ++ .ref b :: rest) (hW : 2 * g.monitorRoom + (rest.map fun v => v.category).sum ≤ W9) (hdg : decode c.code g.pc = .ok (.invokevirtual index, 3))
    (hpre : ∀ vm₁, s.WarmedH vm₁ → Pre ⟨T.setVm vm₁, locs, cells, slots⟩ (Value.ref b :: argsL).toArray) :
    (∃ (v : Option Value) (vm₁ : Vm) (B : Pt), s.WarmedH vm₁ ∧ Stand p l e R s m args below meth c B.U B.locs B.cells B.slots ∧ Post ⟨T.setVm vm₁, locs, cells, slots⟩ (Value.ref b :: argsL).toArray v B ∧
      ∀ target, Steps p.tables e below (B.U.setTop { g with pc := g.pc + 3, stack := v.toList ++ rest }) target → Steps p.tables e below (T.setTop g) target) ∨
    (∃ (q : Addr) (vm₁ : Vm) (B : Pt), s.WarmedH vm₁ ∧ Stand p l e R s m args below meth c B.U B.locs B.cells B.slots ∧ PostX ⟨T.setVm vm₁, locs, cells, slots⟩ (Value.ref b :: argsL).toArray q B ∧
      Steps p.tables e below (T.setTop g) ((B.U.setTop { g with stack := rest }).pushFrame (.throwing q))) := by
  obtain ⟨mk, methM, hnamed, hmethM, hstM, habM⟩ := Cond.instanceMethod_spec hinst
  obtain ⟨m8, methM', cM, hn8, hmethM', -, -, -, -, -, -, hsigM⟩ := Cond.codeWith_spec hcode
  cases Option.some.inj (hn8.symm.trans hnamed)
  cases hmethM.symm.trans hmethM'
  obtain ⟨c2, r2, m2, q1, q2, q3, q4, kP, hkP, hkPi⟩ := Cond.selects_spec hsel
  cases hcls.symm.trans q1
  cases (State.methodFound?_of_named hnamed hy).symm.trans q2
  cases hnamed.symm.trans q3
  have hselP : selectMethod e.platform s.vm cellB.cls mk = .method mk := by rw [Launch.admits_selectMethod X.admits]; exact q4
  obtain ⟨vm₁, X₁, hstep₁⟩ := X.invokevirtual hexec hown hlink hnamed hmethM hstM hkP hkPi hy (a := b) (cell := cellB) hcell
    (fun z h => by rw [h] at hobj; cases hobj) hselP hmethM habM hkP hkPi (g := g) hg (argsL := argsL) (rest := rest) (hlen _ hsigM) hstack hdg
  rcases hK m meth c ⟨T.setVm vm₁, locs, cells, slots⟩ { g with stack := rest } (.invokevirtual index) mk (Value.ref b :: argsL).toArray X₁ hg hsize hdg hW (X₁.named hnamed) (hpre vm₁ X₁.warmed) with ⟨v, B, X', hpost, hsteps⟩ | ⟨q, B, X', hpost, hsteps⟩
  · exact Or.inl ⟨v, vm₁, B, X₁.warmed, X', hpost, fun target h => hstep₁ _ fun acts => by rw [doInvoke_state]; exact hsteps.trans h⟩
  · exact Or.inr ⟨q, vm₁, B, X₁.warmed, X', hpost, hstep₁ _ fun acts => by rw [doInvoke_state]; exact hsteps⟩
theorem vx_callSX (X : Stand p l e R s m args below meth c T locs cells slots) (hexec : p.tables.exec = Jvm.exec) {own : String} {index : Nat} {y : MethodName} {bytes : ByteArray} {maxL : Nat} {ret : Option FieldType} {hh : List (Nat × Nat × Nat × Nat)}
    (hown : s.vm.findClass own = some m.cls) (hlink : (Cond.methodLink own index y).before args s = true) (hstat : (Cond.static y).before args s = true) (hinit : (Cond.initialized y.cls).before args s = true)
    (hcode : (Cond.codeWith y bytes maxL ret hh).before args s = true) (hy : y.cls ≠ "java/lang/invoke/MethodHandle" ∧ y.cls ≠ "java/lang/invoke/VarHandle")
    {W9 : Nat} {Pre : Pt → Array Value → Prop} {Post : Pt → Array Value → Option Value → Pt → Prop} {PostX : Pt → Array Value → Addr → Pt → Prop} (hK : vx_Back l R p e below s args y 3 W9 Pre Post PostX)
    {g : JFrame} (hg : g.method = m) (hsize : g.locals.size = c.maxLocals) {argsL rest : List Value} (hlen : ∀ sig, parseMethodDescriptor y.desc = some sig → argsL.length = sig.parameters.length)
    (hstack : g.stack = argsL.reverse ++ rest) (hW : 2 * g.monitorRoom + (rest.map fun v => v.category).sum ≤ W9) (hdg : decode c.code g.pc = .ok (.invokestatic index, 3))
    (hpre : ∀ vm₁, s.WarmedH vm₁ → Pre ⟨T.setVm vm₁, locs, cells, slots⟩ argsL.toArray) :
    (∃ (v : Option Value) (vm₁ : Vm) (B : Pt), s.WarmedH vm₁ ∧ Stand p l e R s m args below meth c B.U B.locs B.cells B.slots ∧ Post ⟨T.setVm vm₁, locs, cells, slots⟩ argsL.toArray v B ∧
      ∀ target, Steps p.tables e below (B.U.setTop { g with pc := g.pc + 3, stack := v.toList ++ rest }) target → Steps p.tables e below (T.setTop g) target) ∨
    (∃ (q : Addr) (vm₁ : Vm) (B : Pt), s.WarmedH vm₁ ∧ Stand p l e R s m args below meth c B.U B.locs B.cells B.slots ∧ PostX ⟨T.setVm vm₁, locs, cells, slots⟩ argsL.toArray q B ∧
      Steps p.tables e below (T.setTop g) ((B.U.setTop { g with stack := rest }).pushFrame (.throwing q))) := by
  obtain ⟨mk, methM, cM, hnamed, hmethM, -, -, -, -, -, -, hsigM⟩ := Cond.codeWith_spec hcode
  have hstatic : methM.isStatic = true := Cond.static_spec hnamed hmethM hstat
  obtain ⟨kP, hkP, -⟩ := className_of_methodNamed hnamed
  have hinitP : kP.init = .initialized := Cond.initialized_spec (findClass_of_methodNamed hnamed) hkP hinit
  obtain ⟨vm₁, X₁, hstep₁⟩ := X.invokestatic hexec hown hlink hnamed hmethM hstatic hkP hinitP hy (g := g) hg (argsL := argsL) (rest := rest) (hlen _ hsigM) hstack hdg
  rcases hK m meth c ⟨T.setVm vm₁, locs, cells, slots⟩ { g with stack := rest } (.invokestatic index) mk argsL.toArray X₁ hg hsize hdg hW (X₁.named hnamed) (hpre vm₁ X₁.warmed) with ⟨v, B, X', hpost, hsteps⟩ | ⟨q, B, X', hpost, hsteps⟩
  · exact Or.inl ⟨v, vm₁, B, X₁.warmed, X', hpost, fun target h => hstep₁ _ fun acts => by rw [doInvoke_state]; exact hsteps.trans h⟩
  · exact Or.inr ⟨q, vm₁, B, X₁.warmed, X', hpost, hstep₁ _ fun acts => by rw [doInvoke_state]; exact hsteps⟩
theorem vx_callVW (X : Stand p l e R s m args below meth c T locs cells slots) (hexec : p.tables.exec = Jvm.exec) {own C : String} {index : Nat} {y : MethodName} {bytes : ByteArray} {maxL : Nat} {ret : Option FieldType} {hh : List (Nat × Nat × Nat × Nat)}
    (hown : s.vm.findClass own = some m.cls) (hlink : (Cond.methodLink own index y).before args s = true) (hinst : (Cond.instanceMethod y).before args s = true) (hsel : (Cond.selects C y y).before args s = true)
    (hcode : (Cond.codeWith y bytes maxL ret hh).before args s = true) (hy : y.cls ≠ "java/lang/invoke/MethodHandle" ∧ y.cls ≠ "java/lang/invoke/VarHandle")
    {W9 : Nat} {Pre : Pt → Array Value → Prop} {Post : Pt → Array Value → Option Value → Pt → Prop} (hK : Back l R p e below s args y 3 W9 Pre Post)
    {b : Addr} {cellB : Cell} (hcell : T.heap[b]? = some cellB) (hobj : cellB.vm.isStatics = false) (hcls : s.vm.findClass C = some cellB.cls)
    {g : JFrame} (hg : g.method = m) (hsize : g.locals.size = c.maxLocals) {argsL rest : List Value} (hlen : ∀ sig, parseMethodDescriptor y.desc = some sig → argsL.length = sig.parameters.length)
    (hstack : g.stack = argsL.reverse ++ .ref b :: rest) (hW : 2 * g.monitorRoom + (rest.map fun v => v.category).sum ≤ W9) (hdg : decode c.code g.pc = .ok (.invokevirtual index, 3))
    (hpre : ∀ vm₁, s.WarmedH vm₁ → Pre ⟨T.setVm vm₁, locs, cells, slots⟩ (Value.ref b :: argsL).toArray) :
    ∃ (v : Option Value) (vm₁ : Vm) (B : Pt), s.WarmedH vm₁ ∧ Stand p l e R s m args below meth c B.U B.locs B.cells B.slots ∧ Post ⟨T.setVm vm₁, locs, cells, slots⟩ (Value.ref b :: argsL).toArray v B ∧
      ∀ target, Steps p.tables e below (B.U.setTop { g with pc := g.pc + 3, stack := v.toList ++ rest }) target → Steps p.tables e below (T.setTop g) target := by
  obtain ⟨mk, methM, hnamed, hmethM, hstM, habM⟩ := Cond.instanceMethod_spec hinst
  obtain ⟨m8, methM', cM, hn8, hmethM', -, -, -, -, -, -, hsigM⟩ := Cond.codeWith_spec hcode
  cases Option.some.inj (hn8.symm.trans hnamed)
  cases hmethM.symm.trans hmethM'
  obtain ⟨c2, r2, m2, q1, q2, q3, q4, kP, hkP, hkPi⟩ := Cond.selects_spec hsel
  cases hcls.symm.trans q1
  cases (State.methodFound?_of_named hnamed hy).symm.trans q2
  cases hnamed.symm.trans q3
  have hselP : selectMethod e.platform s.vm cellB.cls mk = .method mk := by rw [Launch.admits_selectMethod X.admits]; exact q4
  obtain ⟨vm₁, X₁, hstep₁⟩ := X.invokevirtual hexec hown hlink hnamed hmethM hstM hkP hkPi hy (a := b) (cell := cellB) hcell
    (fun z h => by rw [h] at hobj; cases hobj) hselP hmethM habM hkP hkPi (g := g) hg (argsL := argsL) (rest := rest) (hlen _ hsigM) hstack hdg
  obtain ⟨v, B, X', hpost, hsteps⟩ := hK m meth c ⟨T.setVm vm₁, locs, cells, slots⟩ { g with stack := rest } (.invokevirtual index) mk (Value.ref b :: argsL).toArray X₁ hg hsize hdg hW (X₁.named hnamed) (hpre vm₁ X₁.warmed)
  exact ⟨v, vm₁, B, X₁.warmed, X', hpost, fun target h => hstep₁ _ fun acts => by rw [doInvoke_state]; exact hsteps.trans h⟩
abbrev vx_CVW (R : Room) (s : State) (args : Array Value) (own C : String) (index : Nat) (y : MethodName) (bytes : ByteArray) (maxL : Nat) (ret : Option FieldType) (hh : List (Nat × Nat × Nat × Nat)) (ws : List Cond) (rm : Room) (mc ms n : Nat) : Prop :=
  (rm.cells = mc ∧ rm.slots = ms ∧ rm.frames + 1 ≤ R.frames ∧ 8 + (maxL + 11) + rm.locals ≤ R.locals ∧ (∀ w ∈ ws, ∀ (a' : Array Value) (U : State), s.WarmedH U.vm → w.before a' U = true) ∧ Cond.codeWith y bytes maxL ret hh ∈ ws) ∧
  (Cond.codeWith y bytes maxL ret hh).before args s = true ∧ (Cond.initialized y.cls).before args s = true ∧ (y.cls ≠ "java/lang/invoke/MethodHandle" ∧ y.cls ≠ "java/lang/invoke/VarHandle") ∧
  (∀ sig, parseMethodDescriptor y.desc = some sig → n = sig.parameters.length) ∧ (Cond.methodLink own index y).before args s = true ∧ (Cond.instanceMethod y).before args s = true ∧ (Cond.selects C y y).before args s = true
theorem vx_cwVW {own C : String} {index maxL mc ms : Nat} {y : MethodName} {bytes : ByteArray} {ret : Option FieldType} {hh : List (Nat × Nat × Nat × Nat)} {Ts ws ws' : List Cond} {rm : Room} (n : Nat) (ht : ∀ w ∈ Ts, w.before args s = true) (hT : GoodIn Ts (wsV own index C y ws)) (hw : ws = Cond.codeWith y bytes maxL ret hh :: ws') (hrc : rm.cells = mc) (hrs : rm.slots = ms)
    (hd : y.cls = C ∧ y.cls ≠ "java/lang/invoke/MethodHandle" ∧ y.cls ≠ "java/lang/invoke/VarHandle" ∧ (parseMethodDescriptor y.desc).map (fun d => d.parameters.length) = some n) (hR : rm.frames + 1 ≤ R.frames ∧ 8 + (maxL + 11) + rm.locals ≤ R.locals) :
    vx_CVW R s args own C index y bytes maxL ret hh ws rm mc ms n := by
  obtain ⟨hC, hd⟩ := hd
  subst hC
  have ok : ∀ w ∈ wsV own index y.cls y ws, w.before args s = true := fun w h => ht w (hT w h).1
  have hG : GoodIn Ts ws := fun w h => hT w (by unfold wsV; exact List.mem_append_right _ h)
  have hc : Cond.codeWith y bytes maxL ret hh ∈ ws := by rw [hw]; exact List.mem_cons_self
  refine ⟨⟨hrc, hrs, hR.1, hR.2, pay_in ht hG, hc⟩, ht _ (hG _ hc).1, ok _ (by simp [wsV]), ⟨hd.1, hd.2.1⟩, fun sig h => ?_, ok _ (by simp [wsV]), ok _ (by simp [wsV]), ok _ (by simp [wsV])⟩
  have h2 := hd.2.2
  rw [h] at h2
  exact (Option.some.inj h2).symm
theorem vx_runVW {y : MethodName} {bytes cc : ByteArray} {maxL nL mc ms n index : Nat} {ret : Option FieldType} {hh : List (Nat × Nat × Nat × Nat)} {ws : List Cond} {rm : Room} {Pc : Array Value → State → Prop} {Qc : Array Value → State → Outcome → State → Prop} {free : Addr → Prop} {Ts : List Cond} {own C : String} {b : Addr} {As rest : List Value} {g : JFrame}
    (S : CallFix p m c cc nL s args Ts own) (hM : Met l y ws rm Pc Qc mc ms free) (cw : vx_CVW R s args own C index y bytes maxL ret hh ws rm mc ms n) (hp : PreV s H C b Pc As)
    (hg : g.method = m) (hn : As.length = n) (hsize : g.locals.size = nL) (hstack : g.stack = As.reverse ++ .ref b :: rest) (hW : 2 * g.monitorRoom + (rest.map fun v => v.category).sum ≤ 8) (hdg : decode cc g.pc = .ok (.invokevirtual index, 3)) (hf : cells + mc ≤ R.cells ∧ slots + ms ≤ R.slots) :
    va_Run p l e R s m args below meth c H locs cells slots mc ms g rest (Qc (Value.ref b :: As).toArray) free := by
  obtain ⟨⟨hrc, hrs, hfr, hlo, hws, hcw⟩, hcode, hini, hy, hlen, hl, hin, hse⟩ := cw
  have hK : Back l R p e below s args y 3 8 (PreOf R mc ms Pc) (PostOf Qc mc ms free) := va_backW (hh := hh) (bytes := bytes) (maxL := maxL) (ret := ret) hM hp.1 hrc hrs hfr hlo hws hcw (fun a' U hW => word_at hW (Or.inl (by first | rfl | simp [Cond.onTables, Cond.keeps, Cond.steady])) hini)
  obtain ⟨hx, hb, hml, ho, -⟩ := S
  obtain ⟨-, ⟨cellB, hcB, hoB, hclB⟩, hPc⟩ := hp
  intro T hT X
  obtain ⟨v, vm₁, ⟨U', l2, c2, s2⟩, hW₁, X', ⟨g', mk, t, L, e1, e2, hq, h1, hL, h2, h3⟩, st⟩ := vx_callVW X hx (C := C) (hh := hh) (bytes := bytes) (maxL := maxL) (ret := ret) ho hl hin hse hcode hy hK (by rw [hT]; exact hcB) hoB hclB hg (hsize.trans hml.symm) (argsL := As) (rest := rest) (fun sig h => hn.trans (hlen sig h)) hstack hW (by rw [hb]; exact hdg)
    (fun vm₁ hW₁ => ⟨hf.1, hf.2, hPc (T.setVm vm₁) hT hW₁⟩)
  dsimp only [Pt.U, Pt.locs, Pt.cells, Pt.slots] at X' e1 e2 h1 h2 h3 st
  subst h1; subst h2; subst h3
  exact ⟨v, (T.setVm vm₁).calling g' mk (Value.ref b :: As).toArray, t, U', L, hT, X', hL, e1, e2, hq, st⟩
section
variable {y : MethodName} {bytes cc : ByteArray} {maxL nL mc ms n index : Nat} {ret : Option FieldType} {ws : List Cond} {rm : Room} {Pc : Array Value → State → Prop} {Qc : Array Value → State → Outcome → State → Prop} {XC : String → State → State → Prop} {free : Addr → Prop} {Ts : List Cond} {own C : String} {b : Addr} {As rest : List Value} {g : JFrame}
theorem vx_runVX {hh : List (Nat × Nat × Nat × Nat)} (S : CallFix p m c cc nL s args Ts own) (hM : vx_Met l y ws rm Pc Qc XC mc ms free) (cw : vx_CVW R s args own C index y bytes maxL ret hh ws rm mc ms n) (hp : PreV s H C b Pc As)
    (hg : g.method = m) (hn : As.length = n) (hsize : g.locals.size = nL) (hstack : g.stack = As.reverse ++ .ref b :: rest) (hW : 2 * g.monitorRoom + (rest.map fun v => v.category).sum ≤ 8) (hdg : decode cc g.pc = .ok (.invokevirtual index, 3)) (hf : cells + mc ≤ R.cells ∧ slots + ms ≤ R.slots) :
    vx_Run p l e R s m args below meth c H locs cells slots mc ms g rest (Qc (Value.ref b :: As).toArray) XC free := by
  obtain ⟨⟨hrc, hrs, hfr, hlo, hws, hcw⟩, hcode, hini, hy, hlen, hl, hin, hse⟩ := cw
  have hK : vx_Back l R p e below s args y 3 8 (PreOf R mc ms Pc) (PostOf Qc mc ms free) (vx_Post XC mc ms free) := vx_backW (hh := hh) (bytes := bytes) (maxL := maxL) (ret := ret) hM hp.1 hrc hrs hfr hlo hws hcw (fun a' U hW => word_at hW (Or.inl (by first | rfl | simp [Cond.onTables, Cond.keeps, Cond.steady])) hini)
  obtain ⟨hx, hb, hml, ho, -⟩ := S
  obtain ⟨-, ⟨cellB, hcB, hoB, hclB⟩, hPc⟩ := hp
  intro T hT X
  rcases vx_callVX X hx (C := C) (hh := hh) (bytes := bytes) (maxL := maxL) (ret := ret) ho hl hin hse hcode hy hK (by rw [hT]; exact hcB) hoB hclB hg (hsize.trans hml.symm) (argsL := As) (rest := rest) (fun sig h => hn.trans (hlen sig h)) hstack hW (by rw [hb]; exact hdg)
    (fun vm₁ hW₁ => ⟨hf.1, hf.2, hPc (T.setVm vm₁) hT hW₁⟩) with ⟨v, vm₁, ⟨U', l2, c2, s2⟩, hW₁, X', ⟨g', mk, t, L, e1, e2, hq, h1, hL, h2, h3⟩, st⟩ | ⟨q, vm₁, ⟨U', l2, c2, s2⟩, hW₁, X', ⟨g', mk, t, L, E, ce, e1, e2, hq, hce, hcv, hcl, h1, hL, h2, h3⟩, st⟩
  · dsimp only [Pt.U, Pt.locs, Pt.cells, Pt.slots] at X' e1 e2 h1 h2 h3 st
    subst h1; subst h2; subst h3
    exact Or.inl ⟨v, (T.setVm vm₁).calling g' mk (Value.ref b :: As).toArray, t, U', L, hT, X', hL, e1, e2, hq, st⟩
  · dsimp only [Pt.U, Pt.locs, Pt.cells, Pt.slots] at X' e1 e2 h1 h2 h3 st hcl
    subst h1; subst h2; subst h3
    exact Or.inr ⟨q, (T.setVm vm₁).calling g' mk (Value.ref b :: As).toArray, t, U', L, E, ce, hT, X', hL, e1, e2, hq, hce, hcv, vx_cls hW₁ hcl, st⟩
theorem vx_runSX {hh : List (Nat × Nat × Nat × Nat)} (S : CallFix p m c cc nL s args Ts own) (hM : vx_Met l y ws rm Pc Qc XC mc ms free) (cw : vx_CSW R s args own index y bytes maxL ret hh ws rm mc ms n) (hp : PreS s H Pc As)
    (hg : g.method = m) (hn : As.length = n) (hsize : g.locals.size = nL) (hstack : g.stack = As.reverse ++ rest) (hW : 2 * g.monitorRoom + (rest.map fun v => v.category).sum ≤ 8) (hdg : decode cc g.pc = .ok (.invokestatic index, 3)) (hf : cells + mc ≤ R.cells ∧ slots + ms ≤ R.slots) :
    vx_Run p l e R s m args below meth c H locs cells slots mc ms g rest (Qc As.toArray) XC free := by
  obtain ⟨⟨hrc, hrs, hfr, hlo, hws, hcw⟩, hcode, hini, hy, hlen, hl, hstt⟩ := cw
  have hK : vx_Back l R p e below s args y 3 8 (PreOf R mc ms Pc) (PostOf Qc mc ms free) (vx_Post XC mc ms free) := vx_backW (hh := hh) (bytes := bytes) (maxL := maxL) (ret := ret) hM hp.1 hrc hrs hfr hlo hws hcw (fun a' U hW => word_at hW (Or.inl (by first | rfl | simp [Cond.onTables, Cond.keeps, Cond.steady])) hini)
  obtain ⟨hx, hb, hml, ho, -⟩ := S
  intro T hT X
  rcases vx_callSX X hx (hh := hh) (bytes := bytes) (maxL := maxL) (ret := ret) ho hl hstt hini hcode hy hK hg (hsize.trans hml.symm) (argsL := As) (rest := rest) (fun sig h => hn.trans (hlen sig h)) hstack hW (by rw [hb]; exact hdg)
    (fun vm₁ hW₁ => ⟨hf.1, hf.2, hp.2 (T.setVm vm₁) hT hW₁⟩) with ⟨v, vm₁, ⟨U', l2, c2, s2⟩, hW₁, X', ⟨g', mk, t, L, e1, e2, hq, h1, hL, h2, h3⟩, st⟩ | ⟨q, vm₁, ⟨U', l2, c2, s2⟩, hW₁, X', ⟨g', mk, t, L, E, ce, e1, e2, hq, hce, hcv, hcl, h1, hL, h2, h3⟩, st⟩
  · dsimp only [Pt.U, Pt.locs, Pt.cells, Pt.slots] at X' e1 e2 h1 h2 h3 st
    subst h1; subst h2; subst h3
    exact Or.inl ⟨v, (T.setVm vm₁).calling g' mk As.toArray, t, U', L, hT, X', hL, e1, e2, hq, st⟩
  · dsimp only [Pt.U, Pt.locs, Pt.cells, Pt.slots] at X' e1 e2 h1 h2 h3 st hcl
    subst h1; subst h2; subst h3
    exact Or.inr ⟨q, (T.setVm vm₁).calling g' mk As.toArray, t, U', L, E, ce, hT, X', hL, e1, e2, hq, hce, hcv, vx_cls hW₁ hcl, st⟩
end
end VXH
theorem vx_ofWH {l : Launch} {y : MethodName} {ws ws' : List Cond} {rm : Room} {Pc : Array Value → State → Prop} {Qc : Array Value → State → Outcome → State → Prop} {XC : String → State → State → Prop} {mc ms : Nat} {free : Addr → Prop} {cc : ByteArray} {maxL : Nat} {ret : Option FieldType} {hh : List (Nat × Nat × Nat × Nat)}
    (hy : plainName y.cls = true) (hw : ws = Cond.codeWith y cc maxL ret hh :: ws')
    (body : ∀ p e s m args below meth c s₁, BodyLoose p l y (headSpec ws rm) cc maxL ret e s m args below meth c s₁ → c.maxLocals = maxL → Pc args s →
      W p l e (headSpec ws rm).room s m args below meth c s.heap [] 0 0 (vx_MQ below Qc XC args s mc ms free) (entryFrame m args maxL)) : vx_Met l y ws rm Pc Qc XC mc ms free := by
  refine MetFree.of_bodyS (code := cc) (maxLocals := maxL) (ret := ret) hy ?_ ?_
  · intro args s m h hn
    obtain ⟨m9, meth, c, hn9, h1, h2, h3, h4, -, h5, h6, -⟩ := Cond.codeWith_spec (atoms_spec (ws := ws) h _ (by rw [hw]; exact List.mem_cons_self))
    cases hn.symm.trans hn9
    exact ⟨meth, c, h1, h2, h3, h4, h5, h6⟩
  · intro p e s m args below meth c s₁ B hml hP _
    have hh0 : s₁.heap = s.heap := by rw [B.state]; rfl
    obtain ⟨t, a1, o, b1, b2, b3⟩ := body p e s m args below meth c s₁ B hml hP s₁ hh0 (Stand.of_body B)
    exact ⟨t, o, a1, b1, b2, b3⟩
/-! ===== END ===== -/
end
section
/-! Names of the classes and methods, by my own program out of the claim's tables. -/
def R_BS : String := "SpillQueue$BlockSet"
def R_DK : String := "SpillQueue$Disk"
def R_ME : String := "SpillQueue$Memory"
def R_RU : String := "SpillQueue$Runs"
def R_SB : String := "SpillQueue$Superblocks"
def R_SQ : String := "SpillQueue"
def R_MO : String := "SpillQueueModel"
def R_KE : String := "SpillQueue$Keys"
def R_AR : String := "java/util/Arrays"
def R_LA : String := "SpillQueueLaw"
def T_BS : u_T := fun k => match k with
  | _ => ("SpillQueue$BlockSet", "in", "[Z", true)
def ty_BS : Nat → FieldType := fun k => match k with
  | _ => .array .boolean
theorem nm_BS : ∀ a, a < 1 → ∀ b, b < 1 → a ≠ b → (T_BS a).2.1 ≠ (T_BS b).2.1 := by decide +kernel
theorem tyok_BS : ∀ k, k < 1 → parseFieldDescriptor (T_BS k).2.2.1 = some (ty_BS k) := by decide +kernel
def T_DK : u_T := fun k => match k with
  | 0 => ("SpillQueue$Disk", "cells", "[I", true)
  | 1 => ("SpillQueue$Disk", "row", "[I", true)
  | 2 => ("SpillQueue$Disk", "blocks", "I", false)
  | 3 => ("SpillQueue$Disk", "words", "I", false)
  | 4 => ("SpillQueue$Disk", "writes", "I", false)
  | _ => ("SpillQueue$Disk", "cutIn", "I", false)
def ty_DK : Nat → FieldType := fun k => match k with
  | 0 => .array .int
  | 1 => .array .int
  | 2 => .int
  | 3 => .int
  | 4 => .int
  | _ => .int
theorem nm_DK : ∀ a, a < 6 → ∀ b, b < 6 → a ≠ b → (T_DK a).2.1 ≠ (T_DK b).2.1 := by decide +kernel
theorem tyok_DK : ∀ k, k < 6 → parseFieldDescriptor (T_DK k).2.2.1 = some (ty_DK k) := by decide +kernel
def T_ME : u_T := fun k => match k with
  | 0 => ("SpillQueue$Memory", "keys", "[I", true)
  | 1 => ("SpillQueue$Memory", "count", "I", false)
  | _ => ("SpillQueue$Memory", "most", "I", false)
def ty_ME : Nat → FieldType := fun k => match k with
  | 0 => .array .int
  | 1 => .int
  | _ => .int
theorem nm_ME : ∀ a, a < 3 → ∀ b, b < 3 → a ≠ b → (T_ME a).2.1 ≠ (T_ME b).2.1 := by decide +kernel
theorem tyok_ME : ∀ k, k < 3 → parseFieldDescriptor (T_ME k).2.2.1 = some (ty_ME k) := by decide +kernel
def T_RU : u_T := fun k => match k with
  | 0 => ("SpillQueue$Runs", "disk", "LSpillQueue$Disk;", true)
  | 1 => ("SpillQueue$Runs", "first", "[I", true)
  | 2 => ("SpillQueue$Runs", "begin", "[I", true)
  | 3 => ("SpillQueue$Runs", "count", "[I", true)
  | 4 => ("SpillQueue$Runs", "level", "[I", true)
  | 5 => ("SpillQueue$Runs", "head", "[I", true)
  | 6 => ("SpillQueue$Runs", "chosen", "[Z", true)
  | _ => ("SpillQueue$Runs", "number", "I", false)
def ty_RU : Nat → FieldType := fun k => match k with
  | 0 => .object "SpillQueue$Disk"
  | 1 => .array .int
  | 2 => .array .int
  | 3 => .array .int
  | 4 => .array .int
  | 5 => .array .int
  | 6 => .array .boolean
  | _ => .int
theorem nm_RU : ∀ a, a < 8 → ∀ b, b < 8 → a ≠ b → (T_RU a).2.1 ≠ (T_RU b).2.1 := by decide +kernel
theorem tyok_RU : ∀ k, k < 8 → parseFieldDescriptor (T_RU k).2.2.1 = some (ty_RU k) := by decide +kernel
def T_SB : u_T := fun k => match k with
  | 0 => ("SpillQueue$Superblocks", "disk", "LSpillQueue$Disk;", true)
  | _ => ("SpillQueue$Superblocks", "seen", "LSpillQueue$BlockSet;", true)
def ty_SB : Nat → FieldType := fun k => match k with
  | 0 => .object "SpillQueue$Disk"
  | _ => .object "SpillQueue$BlockSet"
theorem nm_SB : ∀ a, a < 2 → ∀ b, b < 2 → a ≠ b → (T_SB a).2.1 ≠ (T_SB b).2.1 := by decide +kernel
theorem tyok_SB : ∀ k, k < 2 → parseFieldDescriptor (T_SB k).2.2.1 = some (ty_SB k) := by decide +kernel
def T_SQ : u_T := fun k => match k with
  | 0 => ("SpillQueue", "disk", "LSpillQueue$Disk;", true)
  | 1 => ("SpillQueue", "memory", "LSpillQueue$Memory;", true)
  | 2 => ("SpillQueue", "runs", "LSpillQueue$Runs;", true)
  | 3 => ("SpillQueue", "superblocks", "LSpillQueue$Superblocks;", true)
  | 4 => ("SpillQueue", "synced", "LSpillQueue$BlockSet;", true)
  | 5 => ("SpillQueue", "used", "LSpillQueue$BlockSet;", true)
  | 6 => ("SpillQueue", "free", "[I", true)
  | 7 => ("SpillQueue", "fan", "I", false)
  | 8 => ("SpillQueue", "epoch", "I", false)
  | _ => ("SpillQueue", "live", "Z", false)
def ty_SQ : Nat → FieldType := fun k => match k with
  | 0 => .object "SpillQueue$Disk"
  | 1 => .object "SpillQueue$Memory"
  | 2 => .object "SpillQueue$Runs"
  | 3 => .object "SpillQueue$Superblocks"
  | 4 => .object "SpillQueue$BlockSet"
  | 5 => .object "SpillQueue$BlockSet"
  | 6 => .array .int
  | 7 => .int
  | 8 => .int
  | _ => .boolean
theorem nm_SQ : ∀ a, a < 10 → ∀ b, b < 10 → a ≠ b → (T_SQ a).2.1 ≠ (T_SQ b).2.1 := by decide +kernel
theorem tyok_SQ : ∀ k, k < 10 → parseFieldDescriptor (T_SQ k).2.2.1 = some (ty_SQ k) := by decide +kernel
def T_MO : u_T := fun k => match k with
  | 0 => ("SpillQueueModel", "thrown", "I", false)
  | 1 => ("SpillQueueModel", "isDisk", "Z", false)
  | 2 => ("SpillQueueModel", "blocks", "I", false)
  | 3 => ("SpillQueueModel", "words", "I", false)
  | 4 => ("SpillQueueModel", "mem", "I", false)
  | 5 => ("SpillQueueModel", "fan", "I", false)
  | 6 => ("SpillQueueModel", "disk", "[I", true)
  | 7 => ("SpillQueueModel", "writes", "I", false)
  | 8 => ("SpillQueueModel", "left", "I", false)
  | 9 => ("SpillQueueModel", "live", "Z", false)
  | 10 => ("SpillQueueModel", "off", "Z", false)
  | 11 => ("SpillQueueModel", "memory", "I", false)
  | 12 => ("SpillQueueModel", "keys", "[I", true)
  | 13 => ("SpillQueueModel", "epoch", "I", false)
  | 14 => ("SpillQueueModel", "runs", "I", false)
  | 15 => ("SpillQueueModel", "first", "[I", true)
  | 16 => ("SpillQueueModel", "begin", "[I", true)
  | 17 => ("SpillQueueModel", "count", "[I", true)
  | 18 => ("SpillQueueModel", "level", "[I", true)
  | 19 => ("SpillQueueModel", "synced", "[Z", true)
  | 20 => ("SpillQueueModel", "taken", "[Z", true)
  | 21 => ("SpillQueueModel", "row", "[I", true)
  | 22 => ("SpillQueueModel", "chosen", "[I", true)
  | 23 => ("SpillQueueModel", "atBlock", "[I", true)
  | 24 => ("SpillQueueModel", "atPlace", "[I", true)
  | 25 => ("SpillQueueModel", "keysLeft", "[I", true)
  | _ => ("SpillQueueModel", "merged", "[Z", true)
def ty_MO : Nat → FieldType := fun k => match k with
  | 0 => .int
  | 1 => .boolean
  | 2 => .int
  | 3 => .int
  | 4 => .int
  | 5 => .int
  | 6 => .array .int
  | 7 => .int
  | 8 => .int
  | 9 => .boolean
  | 10 => .boolean
  | 11 => .int
  | 12 => .array .int
  | 13 => .int
  | 14 => .int
  | 15 => .array .int
  | 16 => .array .int
  | 17 => .array .int
  | 18 => .array .int
  | 19 => .array .boolean
  | 20 => .array .boolean
  | 21 => .array .int
  | 22 => .array .int
  | 23 => .array .int
  | 24 => .array .int
  | 25 => .array .int
  | _ => .array .boolean
theorem nm_MO : ∀ a, a < 27 → ∀ b, b < 27 → a ≠ b → (T_MO a).2.1 ≠ (T_MO b).2.1 := by decide +kernel
theorem tyok_MO : ∀ k, k < 27 → parseFieldDescriptor (T_MO k).2.2.1 = some (ty_MO k) := by decide +kernel
abbrev vwCl : List vw_C := [(R_BS, T_BS, 1), (R_DK, T_DK, 6), (R_ME, T_ME, 3), (R_RU, T_RU, 8), (R_SB, T_SB, 2), (R_SQ, T_SQ, 10), (R_MO, T_MO, 27)]
def gTs : List Cond := lw_tbl.filter goodWord
def gNest : Cond → Bool
  | .fieldLinkNest .. => true
  | .methodLinkNest .. => true
  | _ => false
def gNok (w : Cond) : Bool := gNest w || (w.onTables && w.keepsFace)
def gNl : List Cond := lw_tbl.filter gNok
theorem gt {w : Cond} (i : Nat) (h : lw_tbl[i]? = some w) (hg : goodWord w = true) : w ∈ gTs := List.mem_filter.mpr ⟨List.mem_of_getElem? h, hg⟩
theorem gn {w : Cond} (i : Nat) (h : lw_tbl[i]? = some w) (hg : gNok w = true) : w ∈ gNl := List.mem_filter.mpr ⟨List.mem_of_getElem? h, hg⟩
theorem gTs_good : ∀ w ∈ gTs, ((w.onTables && w.keeps) = true ∨ ∃ ty, w = .arrayClass ty) := fun w h => good_of_word (List.mem_filter.mp h).2
theorem gNl_ok : ∀ w ∈ gNl, gNok w = true := fun w h => (List.mem_filter.mp h).2
theorem iw_BS : ∀ w ∈ u_ws R_BS T_BS 1, w ∈ gTs := by
  intro w h
  simp only [u_ws, List.mem_map, List.mem_range] at h
  obtain ⟨k, hk, rfl⟩ := h
  match k, hk with
  | 0, _ => exact gt 217 (by decide +kernel) (by decide +kernel)
  | k + 1, hk => exact absurd hk (by omega)
theorem iw_DK : ∀ w ∈ u_ws R_DK T_DK 6, w ∈ gTs := by
  intro w h
  simp only [u_ws, List.mem_map, List.mem_range] at h
  obtain ⟨k, hk, rfl⟩ := h
  match k, hk with
  | 0, _ => exact gt 128 (by decide +kernel) (by decide +kernel)
  | 1, _ => exact gt 130 (by decide +kernel) (by decide +kernel)
  | 2, _ => exact gt 132 (by decide +kernel) (by decide +kernel)
  | 3, _ => exact gt 134 (by decide +kernel) (by decide +kernel)
  | 4, _ => exact gt 136 (by decide +kernel) (by decide +kernel)
  | 5, _ => exact gt 138 (by decide +kernel) (by decide +kernel)
  | k + 6, hk => exact absurd hk (by omega)
theorem iw_ME : ∀ w ∈ u_ws R_ME T_ME 3, w ∈ gTs := by
  intro w h
  simp only [u_ws, List.mem_map, List.mem_range] at h
  obtain ⟨k, hk, rfl⟩ := h
  match k, hk with
  | 0, _ => exact gt 155 (by decide +kernel) (by decide +kernel)
  | 1, _ => exact gt 157 (by decide +kernel) (by decide +kernel)
  | 2, _ => exact gt 159 (by decide +kernel) (by decide +kernel)
  | k + 3, hk => exact absurd hk (by omega)
theorem iw_RU : ∀ w ∈ u_ws R_RU T_RU 8, w ∈ gTs := by
  intro w h
  simp only [u_ws, List.mem_map, List.mem_range] at h
  obtain ⟨k, hk, rfl⟩ := h
  match k, hk with
  | 0, _ => exact gt 186 (by decide +kernel) (by decide +kernel)
  | 1, _ => exact gt 188 (by decide +kernel) (by decide +kernel)
  | 2, _ => exact gt 190 (by decide +kernel) (by decide +kernel)
  | 3, _ => exact gt 192 (by decide +kernel) (by decide +kernel)
  | 4, _ => exact gt 194 (by decide +kernel) (by decide +kernel)
  | 5, _ => exact gt 196 (by decide +kernel) (by decide +kernel)
  | 6, _ => exact gt 198 (by decide +kernel) (by decide +kernel)
  | 7, _ => exact gt 200 (by decide +kernel) (by decide +kernel)
  | k + 8, hk => exact absurd hk (by omega)
theorem iw_SB : ∀ w ∈ u_ws R_SB T_SB 2, w ∈ gTs := by
  intro w h
  simp only [u_ws, List.mem_map, List.mem_range] at h
  obtain ⟨k, hk, rfl⟩ := h
  match k, hk with
  | 0, _ => exact gt 222 (by decide +kernel) (by decide +kernel)
  | 1, _ => exact gt 224 (by decide +kernel) (by decide +kernel)
  | k + 2, hk => exact absurd hk (by omega)
theorem iw_SQ : ∀ w ∈ u_ws R_SQ T_SQ 10, w ∈ gTs := by
  intro w h
  simp only [u_ws, List.mem_map, List.mem_range] at h
  obtain ⟨k, hk, rfl⟩ := h
  match k, hk with
  | 0, _ => exact gt 239 (by decide +kernel) (by decide +kernel)
  | 1, _ => exact gt 241 (by decide +kernel) (by decide +kernel)
  | 2, _ => exact gt 243 (by decide +kernel) (by decide +kernel)
  | 3, _ => exact gt 245 (by decide +kernel) (by decide +kernel)
  | 4, _ => exact gt 247 (by decide +kernel) (by decide +kernel)
  | 5, _ => exact gt 249 (by decide +kernel) (by decide +kernel)
  | 6, _ => exact gt 251 (by decide +kernel) (by decide +kernel)
  | 7, _ => exact gt 253 (by decide +kernel) (by decide +kernel)
  | 8, _ => exact gt 255 (by decide +kernel) (by decide +kernel)
  | 9, _ => exact gt 257 (by decide +kernel) (by decide +kernel)
  | k + 10, hk => exact absurd hk (by omega)
theorem iw_MO : ∀ w ∈ u_ws R_MO T_MO 27, w ∈ gTs := by
  intro w h
  simp only [u_ws, List.mem_map, List.mem_range] at h
  obtain ⟨k, hk, rfl⟩ := h
  match k, hk with
  | 0, _ => exact gt 758 (by decide +kernel) (by decide +kernel)
  | 1, _ => exact gt 760 (by decide +kernel) (by decide +kernel)
  | 2, _ => exact gt 762 (by decide +kernel) (by decide +kernel)
  | 3, _ => exact gt 764 (by decide +kernel) (by decide +kernel)
  | 4, _ => exact gt 766 (by decide +kernel) (by decide +kernel)
  | 5, _ => exact gt 768 (by decide +kernel) (by decide +kernel)
  | 6, _ => exact gt 770 (by decide +kernel) (by decide +kernel)
  | 7, _ => exact gt 772 (by decide +kernel) (by decide +kernel)
  | 8, _ => exact gt 774 (by decide +kernel) (by decide +kernel)
  | 9, _ => exact gt 776 (by decide +kernel) (by decide +kernel)
  | 10, _ => exact gt 778 (by decide +kernel) (by decide +kernel)
  | 11, _ => exact gt 780 (by decide +kernel) (by decide +kernel)
  | 12, _ => exact gt 782 (by decide +kernel) (by decide +kernel)
  | 13, _ => exact gt 784 (by decide +kernel) (by decide +kernel)
  | 14, _ => exact gt 786 (by decide +kernel) (by decide +kernel)
  | 15, _ => exact gt 788 (by decide +kernel) (by decide +kernel)
  | 16, _ => exact gt 790 (by decide +kernel) (by decide +kernel)
  | 17, _ => exact gt 792 (by decide +kernel) (by decide +kernel)
  | 18, _ => exact gt 794 (by decide +kernel) (by decide +kernel)
  | 19, _ => exact gt 796 (by decide +kernel) (by decide +kernel)
  | 20, _ => exact gt 798 (by decide +kernel) (by decide +kernel)
  | 21, _ => exact gt 800 (by decide +kernel) (by decide +kernel)
  | 22, _ => exact gt 802 (by decide +kernel) (by decide +kernel)
  | 23, _ => exact gt 804 (by decide +kernel) (by decide +kernel)
  | 24, _ => exact gt 806 (by decide +kernel) (by decide +kernel)
  | 25, _ => exact gt 808 (by decide +kernel) (by decide +kernel)
  | 26, _ => exact gt 810 (by decide +kernel) (by decide +kernel)
  | k + 27, hk => exact absurd hk (by omega)
/-- the texts of the thrown -/
def gStr : List (Nat × String) := [(55, "blocks are 4 .. 200"), (60, "words are 11 .. 40"), (62, "mem is 1 .. 100"), (64, "fan is 2 .. 5"), (91, "a key is 0 or more"), (131, "n is 0 .. 10000"), (164, "no such run"), (182, "what is 0 .. 5"), (196, "what is 0 .. 6"), (207, "the queue is not dead"), (214, "the queue is dead"), (219, "there is no disk"), (224, "no such word")]
/-- what a call asks of the callee's words -/
def gCb (y : MethodName) (C0 : String) (bytes : ByteArray) (maxL : Nat) (ret : Option FieldType) (n : Nat) : Prop := (Cond.instanceMethod y ∈ gTs ∧ Cond.selects C0 y y ∈ gTs ∧ Cond.initialized y.cls ∈ gTs ∧ Cond.code y bytes maxL ret ∈ gTs) ∧ (y.cls ≠ "java/lang/invoke/MethodHandle" ∧ y.cls ≠ "java/lang/invoke/VarHandle" ∧ (parseMethodDescriptor y.desc).map (fun d => d.parameters.length) = some n)
def gSb (y : MethodName) (bytes : ByteArray) (maxL : Nat) (ret : Option FieldType) (n : Nat) : Prop := (Cond.static y ∈ gTs ∧ Cond.initialized y.cls ∈ gTs ∧ Cond.code y bytes maxL ret ∈ gTs) ∧ (y.cls ≠ "java/lang/invoke/MethodHandle" ∧ y.cls ≠ "java/lang/invoke/VarHandle" ∧ (parseMethodDescriptor y.desc).map (fun d => d.parameters.length) = some n)
abbrev b_BS_init : ByteArray := prog_2_method_1_code
def y_BS_init : MethodName := ⟨R_BS, "<init>", "()V"⟩
abbrev b_BS_clear : ByteArray := prog_2_method_2_code
def y_BS_clear : MethodName := ⟨R_BS, "clear", "()V"⟩
set_option maxRecDepth 20000 in
theorem cb_BS_clear : gCb y_BS_clear R_BS b_BS_clear 2 none 0 := ⟨⟨gt 365 (by decide +kernel) rfl, gt 5 (by decide +kernel) rfl, gt 93 (by decide +kernel) rfl, gt 366 rfl rfl⟩, by decide +kernel⟩
abbrev b_BS_copyOf : ByteArray := prog_2_method_3_code
def y_BS_copyOf : MethodName := ⟨R_BS, "copyOf", "(LSpillQueue$BlockSet;)V"⟩
set_option maxRecDepth 20000 in
theorem cb_BS_copyOf : gCb y_BS_copyOf R_BS b_BS_copyOf 3 none 1 := ⟨⟨gt 490 (by decide +kernel) rfl, gt 26 (by decide +kernel) rfl, gt 93 (by decide +kernel) rfl, gt 491 rfl rfl⟩, by decide +kernel⟩
abbrev b_BS_add : ByteArray := prog_2_method_4_code
def y_BS_add : MethodName := ⟨R_BS, "add", "(I)V"⟩
set_option maxRecDepth 20000 in
theorem cb_BS_add : gCb y_BS_add R_BS b_BS_add 2 none 1 := ⟨⟨gt 407 (by decide +kernel) rfl, gt 14 (by decide +kernel) rfl, gt 93 (by decide +kernel) rfl, gt 408 rfl rfl⟩, by decide +kernel⟩
abbrev b_BS_has : ByteArray := prog_2_method_5_code
def y_BS_has : MethodName := ⟨R_BS, "has", "(I)Z"⟩
set_option maxRecDepth 20000 in
theorem cb_BS_has : gCb y_BS_has R_BS b_BS_has 2 (some .boolean) 1 := ⟨⟨gt 494 (by decide +kernel) rfl, gt 27 (by decide +kernel) rfl, gt 93 (by decide +kernel) rfl, gt 495 rfl rfl⟩, by decide +kernel⟩
abbrev b_DK_init : ByteArray := prog_3_method_1_code
def y_DK_init : MethodName := ⟨R_DK, "<init>", "()V"⟩
abbrev b_DK_renew : ByteArray := prog_3_method_2_code
def y_DK_renew : MethodName := ⟨R_DK, "renew", "(II)V"⟩
set_option maxRecDepth 20000 in
theorem cb_DK_renew : gCb y_DK_renew R_DK b_DK_renew 3 none 2 := ⟨⟨gt 369 (by decide +kernel) rfl, gt 6 (by decide +kernel) rfl, gt 88 (by decide +kernel) rfl, gt 370 rfl rfl⟩, by decide +kernel⟩
abbrev b_DK_has : ByteArray := prog_3_method_3_code
def y_DK_has : MethodName := ⟨R_DK, "has", "(II)Z"⟩
set_option maxRecDepth 20000 in
theorem cb_DK_has : gCb y_DK_has R_DK b_DK_has 3 (some .boolean) 2 := ⟨⟨gt 708 (by decide +kernel) rfl, gt 51 (by decide +kernel) rfl, gt 88 (by decide +kernel) rfl, gt 709 rfl rfl⟩, by decide +kernel⟩
abbrev b_DK_get : ByteArray := prog_3_method_4_code
def y_DK_get : MethodName := ⟨R_DK, "get", "(II)I"⟩
set_option maxRecDepth 20000 in
theorem cb_DK_get : gCb y_DK_get R_DK b_DK_get 3 (some .int) 2 := ⟨⟨gt 411 (by decide +kernel) rfl, gt 15 (by decide +kernel) rfl, gt 88 (by decide +kernel) rfl, gt 412 rfl rfl⟩, by decide +kernel⟩
abbrev b_DK_turnOver : ByteArray := prog_3_method_5_code
def y_DK_turnOver : MethodName := ⟨R_DK, "turnOver", "(III)V"⟩
set_option maxRecDepth 20000 in
theorem cb_DK_turnOver : gCb y_DK_turnOver R_DK b_DK_turnOver 4 none 3 := ⟨⟨gt 722 (by decide +kernel) rfl, gt 52 (by decide +kernel) rfl, gt 88 (by decide +kernel) rfl, gt 723 rfl rfl⟩, by decide +kernel⟩
abbrev b_DK_keysPerBlock : ByteArray := prog_3_method_6_code
def y_DK_keysPerBlock : MethodName := ⟨R_DK, "keysPerBlock", "()I"⟩
set_option maxRecDepth 20000 in
theorem cb_DK_keysPerBlock : gCb y_DK_keysPerBlock R_DK b_DK_keysPerBlock 1 (some .int) 0 := ⟨⟨gt 482 (by decide +kernel) rfl, gt 24 (by decide +kernel) rfl, gt 88 (by decide +kernel) rfl, gt 483 rfl rfl⟩, by decide +kernel⟩
abbrev b_DK_mostRuns : ByteArray := prog_3_method_7_code
def y_DK_mostRuns : MethodName := ⟨R_DK, "mostRuns", "()I"⟩
set_option maxRecDepth 20000 in
theorem cb_DK_mostRuns : gCb y_DK_mostRuns R_DK b_DK_mostRuns 1 (some .int) 0 := ⟨⟨gt 452 (by decide +kernel) rfl, gt 19 (by decide +kernel) rfl, gt 88 (by decide +kernel) rfl, gt 453 rfl rfl⟩, by decide +kernel⟩
abbrev b_DK_blocksFor : ByteArray := prog_3_method_8_code
def y_DK_blocksFor : MethodName := ⟨R_DK, "blocksFor", "(I)I"⟩
set_option maxRecDepth 20000 in
theorem cb_DK_blocksFor : gCb y_DK_blocksFor R_DK b_DK_blocksFor 3 (some .int) 1 := ⟨⟨gt 478 (by decide +kernel) rfl, gt 23 (by decide +kernel) rfl, gt 88 (by decide +kernel) rfl, gt 479 rfl rfl⟩, by decide +kernel⟩
abbrev b_DK_clearRow : ByteArray := prog_3_method_9_code
def y_DK_clearRow : MethodName := ⟨R_DK, "clearRow", "()V"⟩
set_option maxRecDepth 20000 in
theorem cb_DK_clearRow : gCb y_DK_clearRow R_DK b_DK_clearRow 1 none 0 := ⟨⟨gt 384 (by decide +kernel) rfl, gt 9 (by decide +kernel) rfl, gt 88 (by decide +kernel) rfl, gt 385 rfl rfl⟩, by decide +kernel⟩
abbrev b_DK_setRow : ByteArray := prog_3_method_10_code
def y_DK_setRow : MethodName := ⟨R_DK, "setRow", "(II)V"⟩
set_option maxRecDepth 20000 in
theorem cb_DK_setRow : gCb y_DK_setRow R_DK b_DK_setRow 3 none 2 := ⟨⟨gt 388 (by decide +kernel) rfl, gt 10 (by decide +kernel) rfl, gt 88 (by decide +kernel) rfl, gt 389 rfl rfl⟩, by decide +kernel⟩
abbrev b_DK_writeRow : ByteArray := prog_3_method_11_code
def y_DK_writeRow : MethodName := ⟨R_DK, "writeRow", "(I)Z"⟩
set_option maxRecDepth 20000 in
theorem cb_DK_writeRow : gCb y_DK_writeRow R_DK b_DK_writeRow 2 (some .boolean) 1 := ⟨⟨gt 392 (by decide +kernel) rfl, gt 11 (by decide +kernel) rfl, gt 88 (by decide +kernel) rfl, gt 393 rfl rfl⟩, by decide +kernel⟩
abbrev b_DK_sumOf : ByteArray := prog_3_method_12_code
def y_DK_sumOf : MethodName := ⟨R_DK, "sumOf", "(I)I"⟩
set_option maxRecDepth 20000 in
theorem cb_DK_sumOf : gCb y_DK_sumOf R_DK b_DK_sumOf 5 (some .int) 1 := ⟨⟨gt 399 (by decide +kernel) rfl, gt 12 (by decide +kernel) rfl, gt 88 (by decide +kernel) rfl, gt 400 rfl rfl⟩, by decide +kernel⟩
abbrev b_ME_init : ByteArray := prog_5_method_1_code
def y_ME_init : MethodName := ⟨R_ME, "<init>", "()V"⟩
abbrev b_ME_clear : ByteArray := prog_5_method_2_code
def y_ME_clear : MethodName := ⟨R_ME, "clear", "()V"⟩
set_option maxRecDepth 20000 in
theorem cb_ME_clear : gCb y_ME_clear R_ME b_ME_clear 1 none 0 := ⟨⟨gt 357 (by decide +kernel) rfl, gt 3 (by decide +kernel) rfl, gt 90 (by decide +kernel) rfl, gt 358 rfl rfl⟩, by decide +kernel⟩
abbrev b_ME_isFull : ByteArray := prog_5_method_3_code
def y_ME_isFull : MethodName := ⟨R_ME, "isFull", "()Z"⟩
set_option maxRecDepth 20000 in
theorem cb_ME_isFull : gCb y_ME_isFull R_ME b_ME_isFull 1 (some .boolean) 0 := ⟨⟨gt 444 (by decide +kernel) rfl, gt 17 (by decide +kernel) rfl, gt 90 (by decide +kernel) rfl, gt 445 rfl rfl⟩, by decide +kernel⟩
abbrev b_ME_add : ByteArray := prog_5_method_4_code
def y_ME_add : MethodName := ⟨R_ME, "add", "(I)V"⟩
set_option maxRecDepth 20000 in
theorem cb_ME_add : gCb y_ME_add R_ME b_ME_add 3 none 1 := ⟨⟨gt 556 (by decide +kernel) rfl, gt 38 (by decide +kernel) rfl, gt 90 (by decide +kernel) rfl, gt 557 rfl rfl⟩, by decide +kernel⟩
abbrev b_ME_least : ByteArray := prog_5_method_5_code
def y_ME_least : MethodName := ⟨R_ME, "least", "()I"⟩
set_option maxRecDepth 20000 in
theorem cb_ME_least : gCb y_ME_least R_ME b_ME_least 1 (some .int) 0 := ⟨⟨gt 511 (by decide +kernel) rfl, gt 28 (by decide +kernel) rfl, gt 90 (by decide +kernel) rfl, gt 512 rfl rfl⟩, by decide +kernel⟩
abbrev b_ME_howMany : ByteArray := prog_5_method_6_code
def y_ME_howMany : MethodName := ⟨R_ME, "howMany", "()I"⟩
set_option maxRecDepth 20000 in
theorem cb_ME_howMany : gCb y_ME_howMany R_ME b_ME_howMany 1 (some .int) 0 := ⟨⟨gt 265 (by decide +kernel) rfl, gt 266 (by decide +kernel) rfl, gt 90 (by decide +kernel) rfl, gt 267 rfl rfl⟩, by decide +kernel⟩
abbrev b_ME_takeLeast : ByteArray := prog_5_method_7_code
def y_ME_takeLeast : MethodName := ⟨R_ME, "takeLeast", "()I"⟩
set_option maxRecDepth 20000 in
theorem cb_ME_takeLeast : gCb y_ME_takeLeast R_ME b_ME_takeLeast 2 (some .int) 0 := ⟨⟨gt 507 (by decide +kernel) rfl, gt 1006 (by decide +kernel) rfl, gt 90 (by decide +kernel) rfl, gt 508 rfl rfl⟩, by decide +kernel⟩
abbrev b_RU_init : ByteArray := prog_6_method_1_code
def y_RU_init : MethodName := ⟨R_RU, "<init>", "(LSpillQueue$Disk;)V"⟩
abbrev b_RU_clear : ByteArray := prog_6_method_2_code
def y_RU_clear : MethodName := ⟨R_RU, "clear", "()V"⟩
set_option maxRecDepth 20000 in
theorem cb_RU_clear : gCb y_RU_clear R_RU b_RU_clear 1 none 0 := ⟨⟨gt 361 (by decide +kernel) rfl, gt 4 (by decide +kernel) rfl, gt 91 (by decide +kernel) rfl, gt 362 rfl rfl⟩, by decide +kernel⟩
abbrev b_RU_has : ByteArray := prog_6_method_3_code
def y_RU_has : MethodName := ⟨R_RU, "has", "(I)Z"⟩
set_option maxRecDepth 20000 in
theorem cb_RU_has : gCb y_RU_has R_RU b_RU_has 2 (some .boolean) 1 := ⟨⟨gt 526 (by decide +kernel) rfl, gt 31 (by decide +kernel) rfl, gt 91 (by decide +kernel) rfl, gt 527 rfl rfl⟩, by decide +kernel⟩
abbrev b_RU_add : ByteArray := prog_6_method_4_code
def y_RU_add : MethodName := ⟨R_RU, "add", "(IIII)V"⟩
set_option maxRecDepth 20000 in
theorem cb_RU_add : gCb y_RU_add R_RU b_RU_add 5 none 4 := ⟨⟨gt 536 (by decide +kernel) rfl, gt 33 (by decide +kernel) rfl, gt 91 (by decide +kernel) rfl, gt 537 rfl rfl⟩, by decide +kernel⟩
abbrev b_RU_dropEmpty : ByteArray := prog_6_method_5_code
def y_RU_dropEmpty : MethodName := ⟨R_RU, "dropEmpty", "()V"⟩
set_option maxRecDepth 20000 in
theorem cb_RU_dropEmpty : gCb y_RU_dropEmpty R_RU b_RU_dropEmpty 3 none 0 := ⟨⟨gt 532 (by decide +kernel) rfl, gt 32 (by decide +kernel) rfl, gt 91 (by decide +kernel) rfl, gt 533 rfl rfl⟩, by decide +kernel⟩
abbrev b_RU_headOf : ByteArray := prog_6_method_6_code
def y_RU_headOf : MethodName := ⟨R_RU, "headOf", "(I)I"⟩
set_option maxRecDepth 20000 in
theorem cb_RU_headOf : gCb y_RU_headOf R_RU b_RU_headOf 2 (some .int) 1 := ⟨⟨gt 573 (by decide +kernel) rfl, gt 40 (by decide +kernel) rfl, gt 91 (by decide +kernel) rfl, gt 574 rfl rfl⟩, by decide +kernel⟩
abbrev b_RU_leastAt : ByteArray := prog_6_method_7_code
def y_RU_leastAt : MethodName := ⟨R_RU, "leastAt", "(Z)I"⟩
set_option maxRecDepth 20000 in
theorem cb_RU_leastAt : gCb y_RU_leastAt R_RU b_RU_leastAt 5 (some .int) 1 := ⟨⟨gt 518 (by decide +kernel) rfl, gt 29 (by decide +kernel) rfl, gt 91 (by decide +kernel) rfl, gt 519 rfl rfl⟩, by decide +kernel⟩
abbrev b_RU_takeFrom : ByteArray := prog_6_method_8_code
def y_RU_takeFrom : MethodName := ⟨R_RU, "takeFrom", "(I)I"⟩
set_option maxRecDepth 20000 in
theorem cb_RU_takeFrom : gCb y_RU_takeFrom R_RU b_RU_takeFrom 3 (some .int) 1 := ⟨⟨gt 522 (by decide +kernel) rfl, gt 30 (by decide +kernel) rfl, gt 91 (by decide +kernel) rfl, gt 523 rfl rfl⟩, by decide +kernel⟩
abbrev b_RU_keysInAll : ByteArray := prog_6_method_9_code
def y_RU_keysInAll : MethodName := ⟨R_RU, "keysInAll", "()I"⟩
set_option maxRecDepth 20000 in
theorem cb_RU_keysInAll : gCb y_RU_keysInAll R_RU b_RU_keysInAll 3 (some .int) 0 := ⟨⟨gt 270 (by decide +kernel) rfl, gt 0 (by decide +kernel) rfl, gt 91 (by decide +kernel) rfl, gt 271 rfl rfl⟩, by decide +kernel⟩
abbrev b_RU_markBlocks : ByteArray := prog_6_method_10_code
def y_RU_markBlocks : MethodName := ⟨R_RU, "markBlocks", "(LSpillQueue$BlockSet;)V"⟩
set_option maxRecDepth 20000 in
theorem cb_RU_markBlocks : gCb y_RU_markBlocks R_RU b_RU_markBlocks 5 none 1 := ⟨⟨gt 403 (by decide +kernel) rfl, gt 13 (by decide +kernel) rfl, gt 91 (by decide +kernel) rfl, gt 404 rfl rfl⟩, by decide +kernel⟩
abbrev b_RU_greatestLevel : ByteArray := prog_6_method_11_code
def y_RU_greatestLevel : MethodName := ⟨R_RU, "greatestLevel", "()I"⟩
set_option maxRecDepth 20000 in
theorem cb_RU_greatestLevel : gCb y_RU_greatestLevel R_RU b_RU_greatestLevel 3 (some .int) 0 := ⟨⟨gt 460 (by decide +kernel) rfl, gt 21 (by decide +kernel) rfl, gt 91 (by decide +kernel) rfl, gt 461 rfl rfl⟩, by decide +kernel⟩
abbrev b_RU_crowdedAt : ByteArray := prog_6_method_12_code
def y_RU_crowdedAt : MethodName := ⟨R_RU, "crowdedAt", "(I)I"⟩
set_option maxRecDepth 20000 in
theorem cb_RU_crowdedAt : gCb y_RU_crowdedAt R_RU b_RU_crowdedAt 4 (some .int) 1 := ⟨⟨gt 544 (by decide +kernel) rfl, gt 35 (by decide +kernel) rfl, gt 91 (by decide +kernel) rfl, gt 545 rfl rfl⟩, by decide +kernel⟩
abbrev b_RU_runsAtLevelOf : ByteArray := prog_6_method_13_code
def y_RU_runsAtLevelOf : MethodName := ⟨R_RU, "runsAtLevelOf", "(I)I"⟩
set_option maxRecDepth 20000 in
theorem cb_RU_runsAtLevelOf : gCb y_RU_runsAtLevelOf R_RU b_RU_runsAtLevelOf 4 (some .int) 1 := ⟨⟨gt 548 (by decide +kernel) rfl, gt 36 (by decide +kernel) rfl, gt 91 (by decide +kernel) rfl, gt 549 rfl rfl⟩, by decide +kernel⟩
abbrev b_RU_chooseAll : ByteArray := prog_6_method_14_code
def y_RU_chooseAll : MethodName := ⟨R_RU, "chooseAll", "()V"⟩
set_option maxRecDepth 20000 in
theorem cb_RU_chooseAll : gCb y_RU_chooseAll R_RU b_RU_chooseAll 2 none 0 := ⟨⟨gt 456 (by decide +kernel) rfl, gt 20 (by decide +kernel) rfl, gt 91 (by decide +kernel) rfl, gt 457 rfl rfl⟩, by decide +kernel⟩
abbrev b_RU_chooseLevel : ByteArray := prog_6_method_15_code
def y_RU_chooseLevel : MethodName := ⟨R_RU, "chooseLevel", "(I)V"⟩
set_option maxRecDepth 20000 in
theorem cb_RU_chooseLevel : gCb y_RU_chooseLevel R_RU b_RU_chooseLevel 3 none 1 := ⟨⟨gt 552 (by decide +kernel) rfl, gt 37 (by decide +kernel) rfl, gt 91 (by decide +kernel) rfl, gt 553 rfl rfl⟩, by decide +kernel⟩
abbrev b_RU_howMany : ByteArray := prog_6_method_16_code
def y_RU_howMany : MethodName := ⟨R_RU, "howMany", "()I"⟩
abbrev b_RU_takeLeast : ByteArray := prog_6_method_17_code
def y_RU_takeLeast : MethodName := ⟨R_RU, "takeLeast", "()I"⟩
abbrev b_SB_init : ByteArray := prog_7_method_1_code
def y_SB_init : MethodName := ⟨R_SB, "<init>", "(LSpillQueue$Disk;)V"⟩
abbrev b_SB_store : ByteArray := prog_7_method_2_code
def y_SB_store : MethodName := ⟨R_SB, "store", "(ILSpillQueue$Runs;)Z"⟩
set_option maxRecDepth 20000 in
theorem cb_SB_store : gCb y_SB_store R_SB b_SB_store 5 (some .boolean) 2 := ⟨⟨gt 380 (by decide +kernel) rfl, gt 8 (by decide +kernel) rfl, gt 92 (by decide +kernel) rfl, gt 381 rfl rfl⟩, by decide +kernel⟩
abbrev b_SB_load : ByteArray := prog_7_method_3_code
def y_SB_load : MethodName := ⟨R_SB, "load", "(ILSpillQueue$Runs;)V"⟩
set_option maxRecDepth 20000 in
theorem cb_SB_load : gCb y_SB_load R_SB b_SB_load 6 none 2 := ⟨⟨gt 657 (by decide +kernel) rfl, gt 49 (by decide +kernel) rfl, gt 92 (by decide +kernel) rfl, gt 658 rfl rfl⟩, by decide +kernel⟩
abbrev b_SB_epochOf : ByteArray := prog_7_method_4_code
def y_SB_epochOf : MethodName := ⟨R_SB, "epochOf", "(I)I"⟩
set_option maxRecDepth 20000 in
theorem cb_SB_epochOf : gCb y_SB_epochOf R_SB b_SB_epochOf 2 (some .int) 1 := ⟨⟨gt 628 (by decide +kernel) rfl, gt 44 (by decide +kernel) rfl, gt 92 (by decide +kernel) rfl, gt 629 rfl rfl⟩, by decide +kernel⟩
abbrev b_SB_newestGood : ByteArray := prog_7_method_5_code
def y_SB_newestGood : MethodName := ⟨R_SB, "newestGood", "()I"⟩
set_option maxRecDepth 20000 in
theorem cb_SB_newestGood : gCb y_SB_newestGood R_SB b_SB_newestGood 3 (some .int) 0 := ⟨⟨gt 620 (by decide +kernel) rfl, gt 42 (by decide +kernel) rfl, gt 92 (by decide +kernel) rfl, gt 621 rfl rfl⟩, by decide +kernel⟩
abbrev b_SB_isGood : ByteArray := prog_7_method_6_code
def y_SB_isGood : MethodName := ⟨R_SB, "isGood", "(I)Z"⟩
set_option maxRecDepth 20000 in
theorem cb_SB_isGood : gCb y_SB_isGood R_SB b_SB_isGood 5 (some .boolean) 1 := ⟨⟨gt 624 (by decide +kernel) rfl, gt 43 (by decide +kernel) rfl, gt 92 (by decide +kernel) rfl, gt 625 rfl rfl⟩, by decide +kernel⟩
abbrev b_SB_isRunRight : ByteArray := prog_7_method_7_code
def y_SB_isRunRight : MethodName := ⟨R_SB, "isRunRight", "(II)Z"⟩
set_option maxRecDepth 20000 in
theorem cb_SB_isRunRight : gCb y_SB_isRunRight R_SB b_SB_isRunRight 6 (some .boolean) 2 := ⟨⟨gt 636 (by decide +kernel) rfl, gt 45 (by decide +kernel) rfl, gt 92 (by decide +kernel) rfl, gt 637 rfl rfl⟩, by decide +kernel⟩
abbrev b_SB_isChainRight : ByteArray := prog_7_method_8_code
def y_SB_isChainRight : MethodName := ⟨R_SB, "isChainRight", "(III)Z"⟩
set_option maxRecDepth 20000 in
theorem cb_SB_isChainRight : gCb y_SB_isChainRight R_SB b_SB_isChainRight 10 (some .boolean) 3 := ⟨⟨gt 641 (by decide +kernel) rfl, gt 46 (by decide +kernel) rfl, gt 92 (by decide +kernel) rfl, gt 642 rfl rfl⟩, by decide +kernel⟩
abbrev b_SB_isNewRightBlock : ByteArray := prog_7_method_9_code
def y_SB_isNewRightBlock : MethodName := ⟨R_SB, "isNewRightBlock", "(I)Z"⟩
set_option maxRecDepth 20000 in
theorem cb_SB_isNewRightBlock : gCb y_SB_isNewRightBlock R_SB b_SB_isNewRightBlock 2 (some .boolean) 1 := ⟨⟨gt 646 (by decide +kernel) rfl, gt 47 (by decide +kernel) rfl, gt 92 (by decide +kernel) rfl, gt 647 rfl rfl⟩, by decide +kernel⟩
abbrev b_SB_lastOfRising : ByteArray := prog_7_method_10_code
def y_SB_lastOfRising : MethodName := ⟨R_SB, "lastOfRising", "(IIII)I"⟩
set_option maxRecDepth 20000 in
theorem cb_SB_lastOfRising : gCb y_SB_lastOfRising R_SB b_SB_lastOfRising 8 (some .int) 4 := ⟨⟨gt 653 (by decide +kernel) rfl, gt 48 (by decide +kernel) rfl, gt 92 (by decide +kernel) rfl, gt 654 rfl rfl⟩, by decide +kernel⟩
abbrev b_SQ_init : ByteArray := prog_1_method_1_code
def y_SQ_init : MethodName := ⟨R_SQ, "<init>", "()V"⟩
abbrev b_SQ_format : ByteArray := prog_1_method_2_code
def y_SQ_format : MethodName := ⟨R_SQ, "format", "(IIII)V"⟩
set_option maxRecDepth 20000 in
theorem cb_SQ_format : gCb y_SQ_format R_SQ b_SQ_format 5 none 4 := ⟨⟨gt 277 (by decide +kernel) rfl, gt 278 (by decide +kernel) rfl, gt 87 (by decide +kernel) rfl, gt 279 rfl rfl⟩, by decide +kernel⟩
abbrev b_SQ_insert : ByteArray := prog_1_method_3_code
def y_SQ_insert : MethodName := ⟨R_SQ, "insert", "(I)I"⟩
set_option maxRecDepth 20000 in
theorem cb_SQ_insert : gCb y_SQ_insert R_SQ b_SQ_insert 3 (some .int) 1 := ⟨⟨gt 418 (by decide +kernel) rfl, gt 419 (by decide +kernel) rfl, gt 87 (by decide +kernel) rfl, gt 420 rfl rfl⟩, by decide +kernel⟩
abbrev b_SQ_min : ByteArray := prog_1_method_4_code
def y_SQ_min : MethodName := ⟨R_SQ, "min", "()I"⟩
set_option maxRecDepth 20000 in
theorem cb_SQ_min : gCb y_SQ_min R_SQ b_SQ_min 2 (some .int) 0 := ⟨⟨gt 562 (by decide +kernel) rfl, gt 563 (by decide +kernel) rfl, gt 87 (by decide +kernel) rfl, gt 564 rfl rfl⟩, by decide +kernel⟩
abbrev b_SQ_take : ByteArray := prog_1_method_5_code
def y_SQ_take : MethodName := ⟨R_SQ, "take", "()I"⟩
set_option maxRecDepth 20000 in
theorem cb_SQ_take : gCb y_SQ_take R_SQ b_SQ_take 3 (some .int) 0 := ⟨⟨gt 579 (by decide +kernel) rfl, gt 580 (by decide +kernel) rfl, gt 87 (by decide +kernel) rfl, gt 581 rfl rfl⟩, by decide +kernel⟩
abbrev b_SQ_sync : ByteArray := prog_1_method_6_code
def y_SQ_sync : MethodName := ⟨R_SQ, "sync", "()I"⟩
set_option maxRecDepth 20000 in
theorem cb_SQ_sync : gCb y_SQ_sync R_SQ b_SQ_sync 2 (some .int) 0 := ⟨⟨gt 588 (by decide +kernel) rfl, gt 589 (by decide +kernel) rfl, gt 87 (by decide +kernel) rfl, gt 590 rfl rfl⟩, by decide +kernel⟩
abbrev b_SQ_cutAt : ByteArray := prog_1_method_7_code
def y_SQ_cutAt : MethodName := ⟨R_SQ, "cutAt", "(I)V"⟩
set_option maxRecDepth 20000 in
theorem cb_SQ_cutAt : gCb y_SQ_cutAt R_SQ b_SQ_cutAt 2 none 1 := ⟨⟨gt 595 (by decide +kernel) rfl, gt 596 (by decide +kernel) rfl, gt 87 (by decide +kernel) rfl, gt 597 rfl rfl⟩, by decide +kernel⟩
abbrev b_SQ_cut : ByteArray := prog_1_method_8_code
def y_SQ_cut : MethodName := ⟨R_SQ, "cut", "()V"⟩
set_option maxRecDepth 20000 in
theorem cb_SQ_cut : gCb y_SQ_cut R_SQ b_SQ_cut 1 none 0 := ⟨⟨gt 603 (by decide +kernel) rfl, gt 604 (by decide +kernel) rfl, gt 87 (by decide +kernel) rfl, gt 605 rfl rfl⟩, by decide +kernel⟩
abbrev b_SQ_recover : ByteArray := prog_1_method_9_code
def y_SQ_recover : MethodName := ⟨R_SQ, "recover", "()I"⟩
set_option maxRecDepth 20000 in
theorem cb_SQ_recover : gCb y_SQ_recover R_SQ b_SQ_recover 2 (some .int) 0 := ⟨⟨gt 615 (by decide +kernel) rfl, gt 616 (by decide +kernel) rfl, gt 87 (by decide +kernel) rfl, gt 617 rfl rfl⟩, by decide +kernel⟩
abbrev b_SQ_size : ByteArray := prog_1_method_10_code
def y_SQ_size : MethodName := ⟨R_SQ, "size", "()I"⟩
set_option maxRecDepth 20000 in
theorem cb_SQ_size : gCb y_SQ_size R_SQ b_SQ_size 1 (some .int) 0 := ⟨⟨gt 261 (by decide +kernel) rfl, gt 262 (by decide +kernel) rfl, gt 87 (by decide +kernel) rfl, gt 263 rfl rfl⟩, by decide +kernel⟩
abbrev b_SQ_run : ByteArray := prog_1_method_11_code
def y_SQ_run : MethodName := ⟨R_SQ, "run", "(II)I"⟩
set_option maxRecDepth 20000 in
theorem cb_SQ_run : gCb y_SQ_run R_SQ b_SQ_run 3 (some .int) 2 := ⟨⟨gt 666 (by decide +kernel) rfl, gt 667 (by decide +kernel) rfl, gt 87 (by decide +kernel) rfl, gt 668 rfl rfl⟩, by decide +kernel⟩
abbrev b_SQ_about : ByteArray := prog_1_method_12_code
def y_SQ_about : MethodName := ⟨R_SQ, "about", "(I)I"⟩
set_option maxRecDepth 20000 in
theorem cb_SQ_about : gCb y_SQ_about R_SQ b_SQ_about 2 (some .int) 1 := ⟨⟨gt 691 (by decide +kernel) rfl, gt 692 (by decide +kernel) rfl, gt 87 (by decide +kernel) rfl, gt 693 rfl rfl⟩, by decide +kernel⟩
abbrev b_SQ_word : ByteArray := prog_1_method_13_code
def y_SQ_word : MethodName := ⟨R_SQ, "word", "(II)I"⟩
set_option maxRecDepth 20000 in
theorem cb_SQ_word : gCb y_SQ_word R_SQ b_SQ_word 3 (some .int) 2 := ⟨⟨gt 699 (by decide +kernel) rfl, gt 700 (by decide +kernel) rfl, gt 87 (by decide +kernel) rfl, gt 701 rfl rfl⟩, by decide +kernel⟩
abbrev b_SQ_spoil : ByteArray := prog_1_method_14_code
def y_SQ_spoil : MethodName := ⟨R_SQ, "spoil", "(III)V"⟩
set_option maxRecDepth 20000 in
theorem cb_SQ_spoil : gCb y_SQ_spoil R_SQ b_SQ_spoil 4 none 3 := ⟨⟨gt 716 (by decide +kernel) rfl, gt 717 (by decide +kernel) rfl, gt 87 (by decide +kernel) rfl, gt 718 rfl rfl⟩, by decide +kernel⟩
abbrev b_SQ_requireLive : ByteArray := prog_1_method_15_code
def y_SQ_requireLive : MethodName := ⟨R_SQ, "requireLive", "()V"⟩
set_option maxRecDepth 20000 in
theorem cb_SQ_requireLive : gCb y_SQ_requireLive R_SQ b_SQ_requireLive 1 none 0 := ⟨⟨gt 423 (by decide +kernel) rfl, gt 16 (by decide +kernel) rfl, gt 87 (by decide +kernel) rfl, gt 424 rfl rfl⟩, by decide +kernel⟩
abbrev b_SQ_requireDisk : ByteArray := prog_1_method_16_code
def y_SQ_requireDisk : MethodName := ⟨R_SQ, "requireDisk", "()V"⟩
set_option maxRecDepth 20000 in
theorem cb_SQ_requireDisk : gCb y_SQ_requireDisk R_SQ b_SQ_requireDisk 1 none 0 := ⟨⟨gt 608 (by decide +kernel) rfl, gt 41 (by decide +kernel) rfl, gt 87 (by decide +kernel) rfl, gt 609 rfl rfl⟩, by decide +kernel⟩
abbrev b_SQ_requireWord : ByteArray := prog_1_method_17_code
def y_SQ_requireWord : MethodName := ⟨R_SQ, "requireWord", "(II)V"⟩
set_option maxRecDepth 20000 in
theorem cb_SQ_requireWord : gCb y_SQ_requireWord R_SQ b_SQ_requireWord 3 none 2 := ⟨⟨gt 704 (by decide +kernel) rfl, gt 50 (by decide +kernel) rfl, gt 87 (by decide +kernel) rfl, gt 705 rfl rfl⟩, by decide +kernel⟩
abbrev b_SQ_powerOff : ByteArray := prog_1_method_18_code
def y_SQ_powerOff : MethodName := ⟨R_SQ, "powerOff", "()V"⟩
set_option maxRecDepth 20000 in
theorem cb_SQ_powerOff : gCb y_SQ_powerOff R_SQ b_SQ_powerOff 1 none 0 := ⟨⟨gt 353 (by decide +kernel) rfl, gt 2 (by decide +kernel) rfl, gt 87 (by decide +kernel) rfl, gt 354 rfl rfl⟩, by decide +kernel⟩
abbrev b_SQ_isLeastInMemory : ByteArray := prog_1_method_19_code
def y_SQ_isLeastInMemory : MethodName := ⟨R_SQ, "isLeastInMemory", "(I)Z"⟩
set_option maxRecDepth 20000 in
theorem cb_SQ_isLeastInMemory : gCb y_SQ_isLeastInMemory R_SQ b_SQ_isLeastInMemory 2 (some .boolean) 1 := ⟨⟨gt 568 (by decide +kernel) rfl, gt 39 (by decide +kernel) rfl, gt 87 (by decide +kernel) rfl, gt 569 rfl rfl⟩, by decide +kernel⟩
abbrev b_SQ_spill : ByteArray := prog_1_method_20_code
def y_SQ_spill : MethodName := ⟨R_SQ, "spill", "()I"⟩
set_option maxRecDepth 20000 in
theorem cb_SQ_spill : gCb y_SQ_spill R_SQ b_SQ_spill 2 (some .int) 0 := ⟨⟨gt 448 (by decide +kernel) rfl, gt 18 (by decide +kernel) rfl, gt 87 (by decide +kernel) rfl, gt 449 rfl rfl⟩, by decide +kernel⟩
abbrev b_SQ_mergeCrowdedLevels : ByteArray := prog_1_method_21_code
def y_SQ_mergeCrowdedLevels : MethodName := ⟨R_SQ, "mergeCrowdedLevels", "()I"⟩
set_option maxRecDepth 20000 in
theorem cb_SQ_mergeCrowdedLevels : gCb y_SQ_mergeCrowdedLevels R_SQ b_SQ_mergeCrowdedLevels 5 (some .int) 0 := ⟨⟨gt 540 (by decide +kernel) rfl, gt 34 (by decide +kernel) rfl, gt 87 (by decide +kernel) rfl, gt 541 rfl rfl⟩, by decide +kernel⟩
abbrev b_SQ_makeRun : ByteArray := prog_1_method_22_code
def y_SQ_makeRun : MethodName := ⟨R_SQ, "makeRun", "(LSpillQueue$Keys;I)I"⟩
set_option maxRecDepth 20000 in
theorem cb_SQ_makeRun : gCb y_SQ_makeRun R_SQ b_SQ_makeRun 9 (some .int) 2 := ⟨⟨gt 467 (by decide +kernel) rfl, gt 22 (by decide +kernel) rfl, gt 87 (by decide +kernel) rfl, gt 468 rfl rfl⟩, by decide +kernel⟩
abbrev b_SQ_gatherFree : ByteArray := prog_1_method_23_code
def y_SQ_gatherFree : MethodName := ⟨R_SQ, "gatherFree", "()I"⟩
set_option maxRecDepth 20000 in
theorem cb_SQ_gatherFree : gCb y_SQ_gatherFree R_SQ b_SQ_gatherFree 3 (some .int) 0 := ⟨⟨gt 486 (by decide +kernel) rfl, gt 25 (by decide +kernel) rfl, gt 87 (by decide +kernel) rfl, gt 487 rfl rfl⟩, by decide +kernel⟩
abbrev b_SQ_writeNextEpoch : ByteArray := prog_1_method_24_code
def y_SQ_writeNextEpoch : MethodName := ⟨R_SQ, "writeNextEpoch", "()I"⟩
set_option maxRecDepth 20000 in
theorem cb_SQ_writeNextEpoch : gCb y_SQ_writeNextEpoch R_SQ b_SQ_writeNextEpoch 1 (some .int) 0 := ⟨⟨gt 376 (by decide +kernel) rfl, gt 7 (by decide +kernel) rfl, gt 87 (by decide +kernel) rfl, gt 377 rfl rfl⟩, by decide +kernel⟩
abbrev b_MO_init : ByteArray := prog_9_method_1_code
def y_MO_init : MethodName := ⟨R_MO, "<init>", "()V"⟩
abbrev b_MO_thrown : ByteArray := prog_9_method_2_code
def y_MO_thrown : MethodName := ⟨R_MO, "thrown", "()I"⟩
set_option maxRecDepth 20000 in
theorem cb_MO_thrown : gCb y_MO_thrown R_MO b_MO_thrown 1 (some .int) 0 := ⟨⟨gt 814 (by decide +kernel) rfl, gt 815 (by decide +kernel) rfl, gt 94 (by decide +kernel) rfl, gt 816 rfl rfl⟩, by decide +kernel⟩
abbrev b_MO_within : ByteArray := prog_9_method_3_code
def y_MO_within : MethodName := ⟨R_MO, "within", "(III)Z"⟩
set_option maxRecDepth 20000 in
theorem cb_MO_within : gSb y_MO_within b_MO_within 3 (some .boolean) 3 := ⟨⟨gt 822 (by decide +kernel) rfl, gt 94 (by decide +kernel) rfl, gt 823 rfl rfl⟩, by decide +kernel⟩
abbrev b_MO_at : ByteArray := prog_9_method_4_code
def y_MO_at : MethodName := ⟨R_MO, "at", "(II)I"⟩
set_option maxRecDepth 20000 in
theorem cb_MO_at : gCb y_MO_at R_MO b_MO_at 3 (some .int) 2 := ⟨⟨gt 842 (by decide +kernel) rfl, gt 57 (by decide +kernel) rfl, gt 94 (by decide +kernel) rfl, gt 843 rfl rfl⟩, by decide +kernel⟩
abbrev b_MO_room : ByteArray := prog_9_method_5_code
def y_MO_room : MethodName := ⟨R_MO, "room", "()I"⟩
set_option maxRecDepth 20000 in
theorem cb_MO_room : gCb y_MO_room R_MO b_MO_room 1 (some .int) 0 := ⟨⟨gt 854 (by decide +kernel) rfl, gt 60 (by decide +kernel) rfl, gt 94 (by decide +kernel) rfl, gt 855 rfl rfl⟩, by decide +kernel⟩
abbrev b_MO_most : ByteArray := prog_9_method_6_code
def y_MO_most : MethodName := ⟨R_MO, "most", "()I"⟩
set_option maxRecDepth 20000 in
theorem cb_MO_most : gCb y_MO_most R_MO b_MO_most 1 (some .int) 0 := ⟨⟨gt 866 (by decide +kernel) rfl, gt 62 (by decide +kernel) rfl, gt 94 (by decide +kernel) rfl, gt 867 rfl rfl⟩, by decide +kernel⟩
abbrev b_MO_sumOf : ByteArray := prog_9_method_7_code
def y_MO_sumOf : MethodName := ⟨R_MO, "sumOf", "(I)I"⟩
set_option maxRecDepth 20000 in
theorem cb_MO_sumOf : gCb y_MO_sumOf R_MO b_MO_sumOf 4 (some .int) 1 := ⟨⟨gt 838 (by decide +kernel) rfl, gt 56 (by decide +kernel) rfl, gt 94 (by decide +kernel) rfl, gt 839 rfl rfl⟩, by decide +kernel⟩
abbrev b_MO_clearRow : ByteArray := prog_9_method_8_code
def y_MO_clearRow : MethodName := ⟨R_MO, "clearRow", "()V"⟩
set_option maxRecDepth 20000 in
theorem cb_MO_clearRow : gCb y_MO_clearRow R_MO b_MO_clearRow 2 none 0 := ⟨⟨gt 830 (by decide +kernel) rfl, gt 54 (by decide +kernel) rfl, gt 94 (by decide +kernel) rfl, gt 831 rfl rfl⟩, by decide +kernel⟩
abbrev b_MO_write : ByteArray := prog_9_method_9_code
def y_MO_write : MethodName := ⟨R_MO, "write", "(I)V"⟩
set_option maxRecDepth 20000 in
theorem cb_MO_write : gCb y_MO_write R_MO b_MO_write 3 none 1 := ⟨⟨gt 834 (by decide +kernel) rfl, gt 55 (by decide +kernel) rfl, gt 94 (by decide +kernel) rfl, gt 835 rfl rfl⟩, by decide +kernel⟩
abbrev b_MO_blocksOf : ByteArray := prog_9_method_10_code
def y_MO_blocksOf : MethodName := ⟨R_MO, "blocksOf", "(II)I"⟩
set_option maxRecDepth 20000 in
theorem cb_MO_blocksOf : gCb y_MO_blocksOf R_MO b_MO_blocksOf 3 (some .int) 2 := ⟨⟨gt 850 (by decide +kernel) rfl, gt 59 (by decide +kernel) rfl, gt 94 (by decide +kernel) rfl, gt 851 rfl rfl⟩, by decide +kernel⟩
abbrev b_MO_markTaken : ByteArray := prog_9_method_11_code
def y_MO_markTaken : MethodName := ⟨R_MO, "markTaken", "()V"⟩
set_option maxRecDepth 20000 in
theorem cb_MO_markTaken : gCb y_MO_markTaken R_MO b_MO_markTaken 5 none 0 := ⟨⟨gt 846 (by decide +kernel) rfl, gt 58 (by decide +kernel) rfl, gt 94 (by decide +kernel) rfl, gt 847 rfl rfl⟩, by decide +kernel⟩
abbrev b_MO_isFree : ByteArray := prog_9_method_12_code
def y_MO_isFree : MethodName := ⟨R_MO, "isFree", "(I)Z"⟩
set_option maxRecDepth 20000 in
theorem cb_MO_isFree : gCb y_MO_isFree R_MO b_MO_isFree 2 (some .boolean) 1 := ⟨⟨gt 886 (by decide +kernel) rfl, gt 67 (by decide +kernel) rfl, gt 94 (by decide +kernel) rfl, gt 887 rfl rfl⟩, by decide +kernel⟩
abbrev b_MO_free : ByteArray := prog_9_method_13_code
def y_MO_free : MethodName := ⟨R_MO, "free", "()I"⟩
set_option maxRecDepth 20000 in
theorem cb_MO_free : gCb y_MO_free R_MO b_MO_free 3 (some .int) 0 := ⟨⟨gt 882 (by decide +kernel) rfl, gt 66 (by decide +kernel) rfl, gt 94 (by decide +kernel) rfl, gt 883 rfl rfl⟩, by decide +kernel⟩
abbrev b_MO_least : ByteArray := prog_9_method_14_code
def y_MO_least : MethodName := ⟨R_MO, "least", "(I)I"⟩
set_option maxRecDepth 20000 in
theorem cb_MO_least : gCb y_MO_least R_MO b_MO_least 2 (some .int) 1 := ⟨⟨gt 942 (by decide +kernel) rfl, gt 80 (by decide +kernel) rfl, gt 94 (by decide +kernel) rfl, gt 943 rfl rfl⟩, by decide +kernel⟩
abbrev b_MO_dropRun : ByteArray := prog_9_method_15_code
def y_MO_dropRun : MethodName := ⟨R_MO, "dropRun", "(I)V"⟩
set_option maxRecDepth 20000 in
theorem cb_MO_dropRun : gCb y_MO_dropRun R_MO b_MO_dropRun 3 none 1 := ⟨⟨gt 906 (by decide +kernel) rfl, gt 72 (by decide +kernel) rfl, gt 94 (by decide +kernel) rfl, gt 907 rfl rfl⟩, by decide +kernel⟩
abbrev b_MO_addRun : ByteArray := prog_9_method_16_code
def y_MO_addRun : MethodName := ⟨R_MO, "addRun", "(III)V"⟩
set_option maxRecDepth 20000 in
theorem cb_MO_addRun : gCb y_MO_addRun R_MO b_MO_addRun 4 none 3 := ⟨⟨gt 910 (by decide +kernel) rfl, gt 73 (by decide +kernel) rfl, gt 94 (by decide +kernel) rfl, gt 911 rfl rfl⟩, by decide +kernel⟩
abbrev b_MO_choose : ByteArray := prog_9_method_17_code
def y_MO_choose : MethodName := ⟨R_MO, "choose", "(I)Z"⟩
set_option maxRecDepth 20000 in
theorem cb_MO_choose : gCb y_MO_choose R_MO b_MO_choose 5 (some .boolean) 1 := ⟨⟨gt 878 (by decide +kernel) rfl, gt 65 (by decide +kernel) rfl, gt 94 (by decide +kernel) rfl, gt 879 rfl rfl⟩, by decide +kernel⟩
abbrev b_MO_takeFromMemory : ByteArray := prog_9_method_18_code
def y_MO_takeFromMemory : MethodName := ⟨R_MO, "takeFromMemory", "()I"⟩
set_option maxRecDepth 20000 in
theorem cb_MO_takeFromMemory : gCb y_MO_takeFromMemory R_MO b_MO_takeFromMemory 3 (some .int) 0 := ⟨⟨gt 894 (by decide +kernel) rfl, gt 69 (by decide +kernel) rfl, gt 94 (by decide +kernel) rfl, gt 895 rfl rfl⟩, by decide +kernel⟩
abbrev b_MO_headOf : ByteArray := prog_9_method_19_code
def y_MO_headOf : MethodName := ⟨R_MO, "headOf", "(I)I"⟩
set_option maxRecDepth 20000 in
theorem cb_MO_headOf : gCb y_MO_headOf R_MO b_MO_headOf 2 (some .int) 1 := ⟨⟨gt 902 (by decide +kernel) rfl, gt 71 (by decide +kernel) rfl, gt 94 (by decide +kernel) rfl, gt 903 rfl rfl⟩, by decide +kernel⟩
abbrev b_MO_takeFromRuns : ByteArray := prog_9_method_20_code
def y_MO_takeFromRuns : MethodName := ⟨R_MO, "takeFromRuns", "()I"⟩
set_option maxRecDepth 20000 in
theorem cb_MO_takeFromRuns : gCb y_MO_takeFromRuns R_MO b_MO_takeFromRuns 3 (some .int) 0 := ⟨⟨gt 898 (by decide +kernel) rfl, gt 70 (by decide +kernel) rfl, gt 94 (by decide +kernel) rfl, gt 899 rfl rfl⟩, by decide +kernel⟩
abbrev b_MO_writeKeys : ByteArray := prog_9_method_21_code
def y_MO_writeKeys : MethodName := ⟨R_MO, "writeKeys", "(IZ)V"⟩
set_option maxRecDepth 20000 in
theorem cb_MO_writeKeys : gCb y_MO_writeKeys R_MO b_MO_writeKeys 7 none 2 := ⟨⟨gt 890 (by decide +kernel) rfl, gt 68 (by decide +kernel) rfl, gt 94 (by decide +kernel) rfl, gt 891 rfl rfl⟩, by decide +kernel⟩
abbrev b_MO_merge : ByteArray := prog_9_method_22_code
def y_MO_merge : MethodName := ⟨R_MO, "merge", "(ZII)Z"⟩
set_option maxRecDepth 20000 in
theorem cb_MO_merge : gCb y_MO_merge R_MO b_MO_merge 7 (some .boolean) 3 := ⟨⟨gt 874 (by decide +kernel) rfl, gt 64 (by decide +kernel) rfl, gt 94 (by decide +kernel) rfl, gt 875 rfl rfl⟩, by decide +kernel⟩
abbrev b_MO_mergeAll : ByteArray := prog_9_method_23_code
def y_MO_mergeAll : MethodName := ⟨R_MO, "mergeAll", "()Z"⟩
set_option maxRecDepth 20000 in
theorem cb_MO_mergeAll : gCb y_MO_mergeAll R_MO b_MO_mergeAll 3 (some .boolean) 0 := ⟨⟨gt 870 (by decide +kernel) rfl, gt 63 (by decide +kernel) rfl, gt 94 (by decide +kernel) rfl, gt 871 rfl rfl⟩, by decide +kernel⟩
abbrev b_MO_runsOf : ByteArray := prog_9_method_24_code
def y_MO_runsOf : MethodName := ⟨R_MO, "runsOf", "(I)I"⟩
set_option maxRecDepth 20000 in
theorem cb_MO_runsOf : gCb y_MO_runsOf R_MO b_MO_runsOf 4 (some .int) 1 := ⟨⟨gt 918 (by decide +kernel) rfl, gt 75 (by decide +kernel) rfl, gt 94 (by decide +kernel) rfl, gt 919 rfl rfl⟩, by decide +kernel⟩
abbrev b_MO_crowded : ByteArray := prog_9_method_25_code
def y_MO_crowded : MethodName := ⟨R_MO, "crowded", "()I"⟩
set_option maxRecDepth 20000 in
theorem cb_MO_crowded : gCb y_MO_crowded R_MO b_MO_crowded 3 (some .int) 0 := ⟨⟨gt 914 (by decide +kernel) rfl, gt 74 (by decide +kernel) rfl, gt 94 (by decide +kernel) rfl, gt 915 rfl rfl⟩, by decide +kernel⟩
abbrev b_MO_spill : ByteArray := prog_9_method_26_code
def y_MO_spill : MethodName := ⟨R_MO, "spill", "()Z"⟩
set_option maxRecDepth 20000 in
theorem cb_MO_spill : gCb y_MO_spill R_MO b_MO_spill 4 (some .boolean) 0 := ⟨⟨gt 862 (by decide +kernel) rfl, gt 61 (by decide +kernel) rfl, gt 94 (by decide +kernel) rfl, gt 863 rfl rfl⟩, by decide +kernel⟩
abbrev b_MO_writeSuper : ByteArray := prog_9_method_27_code
def y_MO_writeSuper : MethodName := ⟨R_MO, "writeSuper", "()V"⟩
set_option maxRecDepth 20000 in
theorem cb_MO_writeSuper : gCb y_MO_writeSuper R_MO b_MO_writeSuper 2 none 0 := ⟨⟨gt 826 (by decide +kernel) rfl, gt 53 (by decide +kernel) rfl, gt 94 (by decide +kernel) rfl, gt 827 rfl rfl⟩, by decide +kernel⟩
abbrev b_MO_die : ByteArray := prog_9_method_28_code
def y_MO_die : MethodName := ⟨R_MO, "die", "()V"⟩
set_option maxRecDepth 20000 in
theorem cb_MO_die : gCb y_MO_die R_MO b_MO_die 1 none 0 := ⟨⟨gt 926 (by decide +kernel) rfl, gt 77 (by decide +kernel) rfl, gt 94 (by decide +kernel) rfl, gt 927 rfl rfl⟩, by decide +kernel⟩
abbrev b_MO_after : ByteArray := prog_9_method_29_code
def y_MO_after : MethodName := ⟨R_MO, "after", "(I)I"⟩
set_option maxRecDepth 20000 in
theorem cb_MO_after : gCb y_MO_after R_MO b_MO_after 2 (some .int) 1 := ⟨⟨gt 922 (by decide +kernel) rfl, gt 76 (by decide +kernel) rfl, gt 94 (by decide +kernel) rfl, gt 923 rfl rfl⟩, by decide +kernel⟩
abbrev b_MO_format : ByteArray := prog_9_method_30_code
def y_MO_format : MethodName := ⟨R_MO, "format", "(IIII)V"⟩
set_option maxRecDepth 20000 in
theorem cb_MO_format : gCb y_MO_format R_MO b_MO_format 6 none 4 := ⟨⟨gt 818 (by decide +kernel) rfl, gt 819 (by decide +kernel) rfl, gt 94 (by decide +kernel) rfl, gt 820 rfl rfl⟩, by decide +kernel⟩
abbrev b_MO_insert : ByteArray := prog_9_method_31_code
def y_MO_insert : MethodName := ⟨R_MO, "insert", "(I)I"⟩
set_option maxRecDepth 20000 in
theorem cb_MO_insert : gCb y_MO_insert R_MO b_MO_insert 3 (some .int) 1 := ⟨⟨gt 857 (by decide +kernel) rfl, gt 858 (by decide +kernel) rfl, gt 94 (by decide +kernel) rfl, gt 859 rfl rfl⟩, by decide +kernel⟩
abbrev b_MO_leastRun : ByteArray := prog_9_method_32_code
def y_MO_leastRun : MethodName := ⟨R_MO, "leastRun", "()I"⟩
set_option maxRecDepth 20000 in
theorem cb_MO_leastRun : gCb y_MO_leastRun R_MO b_MO_leastRun 3 (some .int) 0 := ⟨⟨gt 938 (by decide +kernel) rfl, gt 79 (by decide +kernel) rfl, gt 94 (by decide +kernel) rfl, gt 939 rfl rfl⟩, by decide +kernel⟩
abbrev b_MO_leastInMemory : ByteArray := prog_9_method_33_code
def y_MO_leastInMemory : MethodName := ⟨R_MO, "leastInMemory", "()I"⟩
set_option maxRecDepth 20000 in
theorem cb_MO_leastInMemory : gCb y_MO_leastInMemory R_MO b_MO_leastInMemory 3 (some .int) 0 := ⟨⟨gt 946 (by decide +kernel) rfl, gt 81 (by decide +kernel) rfl, gt 94 (by decide +kernel) rfl, gt 947 rfl rfl⟩, by decide +kernel⟩
abbrev b_MO_leastKey : ByteArray := prog_9_method_34_code
def y_MO_leastKey : MethodName := ⟨R_MO, "leastKey", "()I"⟩
set_option maxRecDepth 20000 in
theorem cb_MO_leastKey : gCb y_MO_leastKey R_MO b_MO_leastKey 3 (some .int) 0 := ⟨⟨gt 934 (by decide +kernel) rfl, gt 78 (by decide +kernel) rfl, gt 94 (by decide +kernel) rfl, gt 935 rfl rfl⟩, by decide +kernel⟩
abbrev b_MO_min : ByteArray := prog_9_method_35_code
def y_MO_min : MethodName := ⟨R_MO, "min", "()I"⟩
set_option maxRecDepth 20000 in
theorem cb_MO_min : gCb y_MO_min R_MO b_MO_min 1 (some .int) 0 := ⟨⟨gt 929 (by decide +kernel) rfl, gt 930 (by decide +kernel) rfl, gt 94 (by decide +kernel) rfl, gt 931 rfl rfl⟩, by decide +kernel⟩
abbrev b_MO_take : ByteArray := prog_9_method_36_code
def y_MO_take : MethodName := ⟨R_MO, "take", "()I"⟩
set_option maxRecDepth 20000 in
theorem cb_MO_take : gCb y_MO_take R_MO b_MO_take 3 (some .int) 0 := ⟨⟨gt 949 (by decide +kernel) rfl, gt 950 (by decide +kernel) rfl, gt 94 (by decide +kernel) rfl, gt 951 rfl rfl⟩, by decide +kernel⟩
abbrev b_MO_sync : ByteArray := prog_9_method_37_code
def y_MO_sync : MethodName := ⟨R_MO, "sync", "()I"⟩
set_option maxRecDepth 20000 in
theorem cb_MO_sync : gCb y_MO_sync R_MO b_MO_sync 1 (some .int) 0 := ⟨⟨gt 953 (by decide +kernel) rfl, gt 954 (by decide +kernel) rfl, gt 94 (by decide +kernel) rfl, gt 955 rfl rfl⟩, by decide +kernel⟩
abbrev b_MO_cutAt : ByteArray := prog_9_method_38_code
def y_MO_cutAt : MethodName := ⟨R_MO, "cutAt", "(I)V"⟩
set_option maxRecDepth 20000 in
theorem cb_MO_cutAt : gCb y_MO_cutAt R_MO b_MO_cutAt 2 none 1 := ⟨⟨gt 957 (by decide +kernel) rfl, gt 958 (by decide +kernel) rfl, gt 94 (by decide +kernel) rfl, gt 959 rfl rfl⟩, by decide +kernel⟩
abbrev b_MO_cut : ByteArray := prog_9_method_39_code
def y_MO_cut : MethodName := ⟨R_MO, "cut", "()V"⟩
set_option maxRecDepth 20000 in
theorem cb_MO_cut : gCb y_MO_cut R_MO b_MO_cut 1 none 0 := ⟨⟨gt 961 (by decide +kernel) rfl, gt 962 (by decide +kernel) rfl, gt 94 (by decide +kernel) rfl, gt 963 rfl rfl⟩, by decide +kernel⟩
abbrev b_MO_readRun : ByteArray := prog_9_method_40_code
def y_MO_readRun : MethodName := ⟨R_MO, "readRun", "(II)Z"⟩
set_option maxRecDepth 20000 in
theorem cb_MO_readRun : gCb y_MO_readRun R_MO b_MO_readRun 10 (some .boolean) 2 := ⟨⟨gt 974 (by decide +kernel) rfl, gt 83 (by decide +kernel) rfl, gt 94 (by decide +kernel) rfl, gt 975 rfl rfl⟩, by decide +kernel⟩
abbrev b_MO_readSuper : ByteArray := prog_9_method_41_code
def y_MO_readSuper : MethodName := ⟨R_MO, "readSuper", "(I)Z"⟩
set_option maxRecDepth 20000 in
theorem cb_MO_readSuper : gCb y_MO_readSuper R_MO b_MO_readSuper 6 (some .boolean) 1 := ⟨⟨gt 970 (by decide +kernel) rfl, gt 82 (by decide +kernel) rfl, gt 94 (by decide +kernel) rfl, gt 971 rfl rfl⟩, by decide +kernel⟩
abbrev b_MO_size0 : ByteArray := prog_9_method_42_code
def y_MO_size0 : MethodName := ⟨R_MO, "size0", "()I"⟩
set_option maxRecDepth 20000 in
theorem cb_MO_size0 : gCb y_MO_size0 R_MO b_MO_size0 3 (some .int) 0 := ⟨⟨gt 978 (by decide +kernel) rfl, gt 84 (by decide +kernel) rfl, gt 94 (by decide +kernel) rfl, gt 979 rfl rfl⟩, by decide +kernel⟩
abbrev b_MO_recover : ByteArray := prog_9_method_43_code
def y_MO_recover : MethodName := ⟨R_MO, "recover", "()I"⟩
set_option maxRecDepth 20000 in
theorem cb_MO_recover : gCb y_MO_recover R_MO b_MO_recover 5 (some .int) 0 := ⟨⟨gt 965 (by decide +kernel) rfl, gt 966 (by decide +kernel) rfl, gt 94 (by decide +kernel) rfl, gt 967 rfl rfl⟩, by decide +kernel⟩
abbrev b_MO_size : ByteArray := prog_9_method_44_code
def y_MO_size : MethodName := ⟨R_MO, "size", "()I"⟩
set_option maxRecDepth 20000 in
theorem cb_MO_size : gCb y_MO_size R_MO b_MO_size 1 (some .int) 0 := ⟨⟨gt 981 (by decide +kernel) rfl, gt 982 (by decide +kernel) rfl, gt 94 (by decide +kernel) rfl, gt 983 rfl rfl⟩, by decide +kernel⟩
abbrev b_MO_run : ByteArray := prog_9_method_45_code
def y_MO_run : MethodName := ⟨R_MO, "run", "(II)I"⟩
set_option maxRecDepth 20000 in
theorem cb_MO_run : gCb y_MO_run R_MO b_MO_run 3 (some .int) 2 := ⟨⟨gt 985 (by decide +kernel) rfl, gt 986 (by decide +kernel) rfl, gt 94 (by decide +kernel) rfl, gt 987 rfl rfl⟩, by decide +kernel⟩
abbrev b_MO_about : ByteArray := prog_9_method_46_code
def y_MO_about : MethodName := ⟨R_MO, "about", "(I)I"⟩
set_option maxRecDepth 20000 in
theorem cb_MO_about : gCb y_MO_about R_MO b_MO_about 2 (some .int) 1 := ⟨⟨gt 989 (by decide +kernel) rfl, gt 990 (by decide +kernel) rfl, gt 94 (by decide +kernel) rfl, gt 991 rfl rfl⟩, by decide +kernel⟩
abbrev b_MO_isWord : ByteArray := prog_9_method_47_code
def y_MO_isWord : MethodName := ⟨R_MO, "isWord", "(II)Z"⟩
set_option maxRecDepth 20000 in
theorem cb_MO_isWord : gCb y_MO_isWord R_MO b_MO_isWord 3 (some .boolean) 2 := ⟨⟨gt 998 (by decide +kernel) rfl, gt 85 (by decide +kernel) rfl, gt 94 (by decide +kernel) rfl, gt 999 rfl rfl⟩, by decide +kernel⟩
abbrev b_MO_word : ByteArray := prog_9_method_48_code
def y_MO_word : MethodName := ⟨R_MO, "word", "(II)I"⟩
set_option maxRecDepth 20000 in
theorem cb_MO_word : gCb y_MO_word R_MO b_MO_word 3 (some .int) 2 := ⟨⟨gt 993 (by decide +kernel) rfl, gt 994 (by decide +kernel) rfl, gt 94 (by decide +kernel) rfl, gt 995 rfl rfl⟩, by decide +kernel⟩
abbrev b_MO_spoil : ByteArray := prog_9_method_49_code
def y_MO_spoil : MethodName := ⟨R_MO, "spoil", "(III)V"⟩
set_option maxRecDepth 20000 in
theorem cb_MO_spoil : gCb y_MO_spoil R_MO b_MO_spoil 4 none 3 := ⟨⟨gt 1001 (by decide +kernel) rfl, gt 1002 (by decide +kernel) rfl, gt 94 (by decide +kernel) rfl, gt 1003 rfl rfl⟩, by decide +kernel⟩
abbrev b_KE_init : ByteArray := prog_4_method_1_code
def y_KE_init : MethodName := ⟨R_KE, "<init>", "()V"⟩
abbrev b_AR_fill : ByteArray := prog_19_method_103_code
def y_AR_fill : MethodName := ⟨R_AR, "fill", "([II)V"⟩
set_option maxRecDepth 20000 in
theorem cb_AR_fill : gSb y_AR_fill b_AR_fill 4 none 2 := ⟨⟨gt 372 (by decide +kernel) rfl, gt 99 (by decide +kernel) rfl, gt 373 rfl rfl⟩, by decide +kernel⟩
abbrev b_LA_format : ByteArray := method_3_code
def y_LA_format : MethodName := ⟨R_LA, "format", "(LSpillQueue;IIII)I"⟩
abbrev b_LA_insert : ByteArray := method_4_code
def y_LA_insert : MethodName := ⟨R_LA, "insert", "(LSpillQueue;I[J)I"⟩
abbrev b_LA_min : ByteArray := method_5_code
def y_LA_min : MethodName := ⟨R_LA, "min", "(LSpillQueue;[J)I"⟩
abbrev b_LA_take : ByteArray := method_6_code
def y_LA_take : MethodName := ⟨R_LA, "take", "(LSpillQueue;[J)I"⟩
abbrev b_LA_sync : ByteArray := method_7_code
def y_LA_sync : MethodName := ⟨R_LA, "sync", "(LSpillQueue;[J)I"⟩
abbrev b_LA_cutAt : ByteArray := method_8_code
def y_LA_cutAt : MethodName := ⟨R_LA, "cutAt", "(LSpillQueue;I)I"⟩
abbrev b_LA_cut : ByteArray := method_9_code
def y_LA_cut : MethodName := ⟨R_LA, "cut", "(LSpillQueue;)I"⟩
abbrev b_LA_recover : ByteArray := method_10_code
def y_LA_recover : MethodName := ⟨R_LA, "recover", "(LSpillQueue;[J)I"⟩
abbrev b_LA_run : ByteArray := method_11_code
def y_LA_run : MethodName := ⟨R_LA, "run", "(LSpillQueue;II[J)I"⟩
abbrev b_LA_about : ByteArray := method_12_code
def y_LA_about : MethodName := ⟨R_LA, "about", "(LSpillQueue;I[J)I"⟩
abbrev b_LA_word : ByteArray := method_13_code
def y_LA_word : MethodName := ⟨R_LA, "word", "(LSpillQueue;II[J)I"⟩
abbrev b_LA_spoil : ByteArray := method_14_code
def y_LA_spoil : MethodName := ⟨R_LA, "spoil", "(LSpillQueue;III)I"⟩
end
section
theorem d_BS_init_0 : decode b_BS_init 0 = .ok (.aload_n 0, 1) := by decide +kernel
theorem d_BS_init_1 : decode b_BS_init 1 = .ok (.invokespecial 3, 3) := by decide +kernel
theorem d_BS_init_4 : decode b_BS_init 4 = .ok (.aload_n 0, 1) := by decide +kernel
theorem d_BS_init_5 : decode b_BS_init 5 = .ok (.sipush 200, 3) := by decide +kernel
theorem d_BS_init_8 : decode b_BS_init 8 = .ok (.newarray .boolean, 2) := by decide +kernel
theorem d_BS_init_10 : decode b_BS_init 10 = .ok (.putfield 9, 3) := by decide +kernel
theorem d_BS_init_13 : decode b_BS_init 13 = .ok (.return_, 1) := by decide +kernel
theorem d_BS_clear_0 : decode b_BS_clear 0 = .ok (.iconst 0, 1) := by decide +kernel
theorem d_BS_clear_1 : decode b_BS_clear 1 = .ok (.istore_n 1, 1) := by decide +kernel
theorem d_BS_clear_2 : decode b_BS_clear 2 = .ok (.iload_n 1, 1) := by decide +kernel
theorem d_BS_clear_3 : decode b_BS_clear 3 = .ok (.aload_n 0, 1) := by decide +kernel
theorem d_BS_clear_4 : decode b_BS_clear 4 = .ok (.getfield 9, 3) := by decide +kernel
theorem d_BS_clear_7 : decode b_BS_clear 7 = .ok (.arraylength, 1) := by decide +kernel
theorem d_BS_clear_8 : decode b_BS_clear 8 = .ok (.if_icmp .ge 16, 3) := by decide +kernel
theorem d_BS_clear_11 : decode b_BS_clear 11 = .ok (.aload_n 0, 1) := by decide +kernel
theorem d_BS_clear_12 : decode b_BS_clear 12 = .ok (.getfield 9, 3) := by decide +kernel
theorem d_BS_clear_15 : decode b_BS_clear 15 = .ok (.iload_n 1, 1) := by decide +kernel
theorem d_BS_clear_16 : decode b_BS_clear 16 = .ok (.iconst 0, 1) := by decide +kernel
theorem d_BS_clear_17 : decode b_BS_clear 17 = .ok (.bastore, 1) := by decide +kernel
theorem d_BS_clear_18 : decode b_BS_clear 18 = .ok (.iinc 1 1, 3) := by decide +kernel
theorem d_BS_clear_21 : decode b_BS_clear 21 = .ok (.goto (-19), 3) := by decide +kernel
theorem d_BS_clear_24 : decode b_BS_clear 24 = .ok (.return_, 1) := by decide +kernel
theorem d_BS_copyOf_0 : decode b_BS_copyOf 0 = .ok (.iconst 0, 1) := by decide +kernel
theorem d_BS_copyOf_1 : decode b_BS_copyOf 1 = .ok (.istore_n 2, 1) := by decide +kernel
theorem d_BS_copyOf_2 : decode b_BS_copyOf 2 = .ok (.iload_n 2, 1) := by decide +kernel
theorem d_BS_copyOf_3 : decode b_BS_copyOf 3 = .ok (.aload_n 0, 1) := by decide +kernel
theorem d_BS_copyOf_4 : decode b_BS_copyOf 4 = .ok (.getfield 9, 3) := by decide +kernel
theorem d_BS_copyOf_7 : decode b_BS_copyOf 7 = .ok (.arraylength, 1) := by decide +kernel
theorem d_BS_copyOf_8 : decode b_BS_copyOf 8 = .ok (.if_icmp .ge 20, 3) := by decide +kernel
theorem d_BS_copyOf_11 : decode b_BS_copyOf 11 = .ok (.aload_n 0, 1) := by decide +kernel
theorem d_BS_copyOf_12 : decode b_BS_copyOf 12 = .ok (.getfield 9, 3) := by decide +kernel
theorem d_BS_copyOf_15 : decode b_BS_copyOf 15 = .ok (.iload_n 2, 1) := by decide +kernel
theorem d_BS_copyOf_16 : decode b_BS_copyOf 16 = .ok (.aload_n 1, 1) := by decide +kernel
theorem d_BS_copyOf_17 : decode b_BS_copyOf 17 = .ok (.iload_n 2, 1) := by decide +kernel
theorem d_BS_copyOf_18 : decode b_BS_copyOf 18 = .ok (.invokevirtual 15, 3) := by decide +kernel
theorem d_BS_copyOf_21 : decode b_BS_copyOf 21 = .ok (.bastore, 1) := by decide +kernel
theorem d_BS_copyOf_22 : decode b_BS_copyOf 22 = .ok (.iinc 2 1, 3) := by decide +kernel
theorem d_BS_copyOf_25 : decode b_BS_copyOf 25 = .ok (.goto (-23), 3) := by decide +kernel
theorem d_BS_copyOf_28 : decode b_BS_copyOf 28 = .ok (.return_, 1) := by decide +kernel
theorem d_BS_add_0 : decode b_BS_add 0 = .ok (.iload_n 1, 1) := by decide +kernel
theorem d_BS_add_1 : decode b_BS_add 1 = .ok (.ifCond .lt 19, 3) := by decide +kernel
theorem d_BS_add_4 : decode b_BS_add 4 = .ok (.iload_n 1, 1) := by decide +kernel
theorem d_BS_add_5 : decode b_BS_add 5 = .ok (.aload_n 0, 1) := by decide +kernel
theorem d_BS_add_6 : decode b_BS_add 6 = .ok (.getfield 9, 3) := by decide +kernel
theorem d_BS_add_9 : decode b_BS_add 9 = .ok (.arraylength, 1) := by decide +kernel
theorem d_BS_add_10 : decode b_BS_add 10 = .ok (.if_icmp .ge 10, 3) := by decide +kernel
theorem d_BS_add_13 : decode b_BS_add 13 = .ok (.aload_n 0, 1) := by decide +kernel
theorem d_BS_add_14 : decode b_BS_add 14 = .ok (.getfield 9, 3) := by decide +kernel
theorem d_BS_add_17 : decode b_BS_add 17 = .ok (.iload_n 1, 1) := by decide +kernel
theorem d_BS_add_18 : decode b_BS_add 18 = .ok (.iconst 1, 1) := by decide +kernel
theorem d_BS_add_19 : decode b_BS_add 19 = .ok (.bastore, 1) := by decide +kernel
theorem d_BS_add_20 : decode b_BS_add 20 = .ok (.return_, 1) := by decide +kernel
theorem d_BS_has_0 : decode b_BS_has 0 = .ok (.iload_n 1, 1) := by decide +kernel
theorem d_BS_has_1 : decode b_BS_has 1 = .ok (.ifCond .lt 25, 3) := by decide +kernel
theorem d_BS_has_4 : decode b_BS_has 4 = .ok (.iload_n 1, 1) := by decide +kernel
theorem d_BS_has_5 : decode b_BS_has 5 = .ok (.aload_n 0, 1) := by decide +kernel
theorem d_BS_has_6 : decode b_BS_has 6 = .ok (.getfield 9, 3) := by decide +kernel
theorem d_BS_has_9 : decode b_BS_has 9 = .ok (.arraylength, 1) := by decide +kernel
theorem d_BS_has_10 : decode b_BS_has 10 = .ok (.if_icmp .ge 16, 3) := by decide +kernel
theorem d_BS_has_13 : decode b_BS_has 13 = .ok (.aload_n 0, 1) := by decide +kernel
theorem d_BS_has_14 : decode b_BS_has 14 = .ok (.getfield 9, 3) := by decide +kernel
theorem d_BS_has_17 : decode b_BS_has 17 = .ok (.iload_n 1, 1) := by decide +kernel
theorem d_BS_has_18 : decode b_BS_has 18 = .ok (.baload, 1) := by decide +kernel
theorem d_BS_has_19 : decode b_BS_has 19 = .ok (.ifCond .eq 7, 3) := by decide +kernel
theorem d_BS_has_22 : decode b_BS_has 22 = .ok (.iconst 1, 1) := by decide +kernel
theorem d_BS_has_23 : decode b_BS_has 23 = .ok (.goto 4, 3) := by decide +kernel
theorem d_BS_has_26 : decode b_BS_has 26 = .ok (.iconst 0, 1) := by decide +kernel
theorem d_BS_has_27 : decode b_BS_has 27 = .ok (.ireturn, 1) := by decide +kernel
theorem d_DK_init_0 : decode b_DK_init 0 = .ok (.aload_n 0, 1) := by decide +kernel
theorem d_DK_init_1 : decode b_DK_init 1 = .ok (.invokespecial 3, 3) := by decide +kernel
theorem d_DK_init_4 : decode b_DK_init 4 = .ok (.aload_n 0, 1) := by decide +kernel
theorem d_DK_init_5 : decode b_DK_init 5 = .ok (.sipush 8000, 3) := by decide +kernel
theorem d_DK_init_8 : decode b_DK_init 8 = .ok (.newarray .int, 2) := by decide +kernel
theorem d_DK_init_10 : decode b_DK_init 10 = .ok (.putfield 9, 3) := by decide +kernel
theorem d_DK_init_13 : decode b_DK_init 13 = .ok (.aload_n 0, 1) := by decide +kernel
theorem d_DK_init_14 : decode b_DK_init 14 = .ok (.bipush 40, 2) := by decide +kernel
theorem d_DK_init_16 : decode b_DK_init 16 = .ok (.newarray .int, 2) := by decide +kernel
theorem d_DK_init_18 : decode b_DK_init 18 = .ok (.putfield 15, 3) := by decide +kernel
theorem d_DK_init_21 : decode b_DK_init 21 = .ok (.return_, 1) := by decide +kernel
theorem d_DK_renew_0 : decode b_DK_renew 0 = .ok (.aload_n 0, 1) := by decide +kernel
theorem d_DK_renew_1 : decode b_DK_renew 1 = .ok (.iload_n 1, 1) := by decide +kernel
theorem d_DK_renew_2 : decode b_DK_renew 2 = .ok (.putfield 18, 3) := by decide +kernel
theorem d_DK_renew_5 : decode b_DK_renew 5 = .ok (.aload_n 0, 1) := by decide +kernel
theorem d_DK_renew_6 : decode b_DK_renew 6 = .ok (.iload_n 2, 1) := by decide +kernel
theorem d_DK_renew_7 : decode b_DK_renew 7 = .ok (.putfield 22, 3) := by decide +kernel
theorem d_DK_renew_10 : decode b_DK_renew 10 = .ok (.aload_n 0, 1) := by decide +kernel
theorem d_DK_renew_11 : decode b_DK_renew 11 = .ok (.iconst 0, 1) := by decide +kernel
theorem d_DK_renew_12 : decode b_DK_renew 12 = .ok (.putfield 25, 3) := by decide +kernel
theorem d_DK_renew_15 : decode b_DK_renew 15 = .ok (.aload_n 0, 1) := by decide +kernel
theorem d_DK_renew_16 : decode b_DK_renew 16 = .ok (.iconst 0, 1) := by decide +kernel
theorem d_DK_renew_17 : decode b_DK_renew 17 = .ok (.putfield 28, 3) := by decide +kernel
theorem d_DK_renew_20 : decode b_DK_renew 20 = .ok (.aload_n 0, 1) := by decide +kernel
theorem d_DK_renew_21 : decode b_DK_renew 21 = .ok (.getfield 9, 3) := by decide +kernel
theorem d_DK_renew_24 : decode b_DK_renew 24 = .ok (.iconst 0, 1) := by decide +kernel
theorem d_DK_renew_25 : decode b_DK_renew 25 = .ok (.invokestatic 31, 3) := by decide +kernel
theorem d_DK_renew_28 : decode b_DK_renew 28 = .ok (.return_, 1) := by decide +kernel
theorem d_DK_has_0 : decode b_DK_has 0 = .ok (.iload_n 1, 1) := by decide +kernel
theorem d_DK_has_1 : decode b_DK_has 1 = .ok (.ifCond .lt 27, 3) := by decide +kernel
theorem d_DK_has_4 : decode b_DK_has 4 = .ok (.iload_n 1, 1) := by decide +kernel
theorem d_DK_has_5 : decode b_DK_has 5 = .ok (.aload_n 0, 1) := by decide +kernel
theorem d_DK_has_6 : decode b_DK_has 6 = .ok (.getfield 18, 3) := by decide +kernel
theorem d_DK_has_9 : decode b_DK_has 9 = .ok (.if_icmp .ge 19, 3) := by decide +kernel
theorem d_DK_has_12 : decode b_DK_has 12 = .ok (.iload_n 2, 1) := by decide +kernel
theorem d_DK_has_13 : decode b_DK_has 13 = .ok (.ifCond .lt 15, 3) := by decide +kernel
theorem d_DK_has_16 : decode b_DK_has 16 = .ok (.iload_n 2, 1) := by decide +kernel
theorem d_DK_has_17 : decode b_DK_has 17 = .ok (.aload_n 0, 1) := by decide +kernel
theorem d_DK_has_18 : decode b_DK_has 18 = .ok (.getfield 22, 3) := by decide +kernel
theorem d_DK_has_21 : decode b_DK_has 21 = .ok (.if_icmp .ge 7, 3) := by decide +kernel
theorem d_DK_has_24 : decode b_DK_has 24 = .ok (.iconst 1, 1) := by decide +kernel
theorem d_DK_has_25 : decode b_DK_has 25 = .ok (.goto 4, 3) := by decide +kernel
theorem d_DK_has_28 : decode b_DK_has 28 = .ok (.iconst 0, 1) := by decide +kernel
theorem d_DK_has_29 : decode b_DK_has 29 = .ok (.ireturn, 1) := by decide +kernel
theorem d_DK_get_0 : decode b_DK_get 0 = .ok (.iload_n 1, 1) := by decide +kernel
theorem d_DK_get_1 : decode b_DK_get 1 = .ok (.ifCond .lt 23, 3) := by decide +kernel
theorem d_DK_get_4 : decode b_DK_get 4 = .ok (.iload_n 1, 1) := by decide +kernel
theorem d_DK_get_5 : decode b_DK_get 5 = .ok (.aload_n 0, 1) := by decide +kernel
theorem d_DK_get_6 : decode b_DK_get 6 = .ok (.getfield 18, 3) := by decide +kernel
theorem d_DK_get_9 : decode b_DK_get 9 = .ok (.if_icmp .ge 15, 3) := by decide +kernel
theorem d_DK_get_12 : decode b_DK_get 12 = .ok (.iload_n 2, 1) := by decide +kernel
theorem d_DK_get_13 : decode b_DK_get 13 = .ok (.ifCond .lt 11, 3) := by decide +kernel
theorem d_DK_get_16 : decode b_DK_get 16 = .ok (.iload_n 2, 1) := by decide +kernel
theorem d_DK_get_17 : decode b_DK_get 17 = .ok (.aload_n 0, 1) := by decide +kernel
theorem d_DK_get_18 : decode b_DK_get 18 = .ok (.getfield 22, 3) := by decide +kernel
theorem d_DK_get_21 : decode b_DK_get 21 = .ok (.if_icmp .lt 5, 3) := by decide +kernel
theorem d_DK_get_24 : decode b_DK_get 24 = .ok (.iconst 0, 1) := by decide +kernel
theorem d_DK_get_25 : decode b_DK_get 25 = .ok (.ireturn, 1) := by decide +kernel
theorem d_DK_get_26 : decode b_DK_get 26 = .ok (.aload_n 0, 1) := by decide +kernel
theorem d_DK_get_27 : decode b_DK_get 27 = .ok (.getfield 9, 3) := by decide +kernel
theorem d_DK_get_30 : decode b_DK_get 30 = .ok (.iload_n 1, 1) := by decide +kernel
theorem d_DK_get_31 : decode b_DK_get 31 = .ok (.aload_n 0, 1) := by decide +kernel
theorem d_DK_get_32 : decode b_DK_get 32 = .ok (.getfield 22, 3) := by decide +kernel
theorem d_DK_get_35 : decode b_DK_get 35 = .ok (.imul, 1) := by decide +kernel
theorem d_DK_get_36 : decode b_DK_get 36 = .ok (.iload_n 2, 1) := by decide +kernel
theorem d_DK_get_37 : decode b_DK_get 37 = .ok (.iadd, 1) := by decide +kernel
theorem d_DK_get_38 : decode b_DK_get 38 = .ok (.iaload, 1) := by decide +kernel
theorem d_DK_get_39 : decode b_DK_get 39 = .ok (.ireturn, 1) := by decide +kernel
theorem d_DK_turnOver_0 : decode b_DK_turnOver 0 = .ok (.aload_n 0, 1) := by decide +kernel
theorem d_DK_turnOver_1 : decode b_DK_turnOver 1 = .ok (.iload_n 1, 1) := by decide +kernel
theorem d_DK_turnOver_2 : decode b_DK_turnOver 2 = .ok (.iload_n 2, 1) := by decide +kernel
theorem d_DK_turnOver_3 : decode b_DK_turnOver 3 = .ok (.invokevirtual 37, 3) := by decide +kernel
theorem d_DK_turnOver_6 : decode b_DK_turnOver 6 = .ok (.ifCond .eq 20, 3) := by decide +kernel
theorem d_DK_turnOver_9 : decode b_DK_turnOver 9 = .ok (.aload_n 0, 1) := by decide +kernel
theorem d_DK_turnOver_10 : decode b_DK_turnOver 10 = .ok (.getfield 9, 3) := by decide +kernel
theorem d_DK_turnOver_13 : decode b_DK_turnOver 13 = .ok (.iload_n 1, 1) := by decide +kernel
theorem d_DK_turnOver_14 : decode b_DK_turnOver 14 = .ok (.aload_n 0, 1) := by decide +kernel
theorem d_DK_turnOver_15 : decode b_DK_turnOver 15 = .ok (.getfield 22, 3) := by decide +kernel
theorem d_DK_turnOver_18 : decode b_DK_turnOver 18 = .ok (.imul, 1) := by decide +kernel
theorem d_DK_turnOver_19 : decode b_DK_turnOver 19 = .ok (.iload_n 2, 1) := by decide +kernel
theorem d_DK_turnOver_20 : decode b_DK_turnOver 20 = .ok (.iadd, 1) := by decide +kernel
theorem d_DK_turnOver_21 : decode b_DK_turnOver 21 = .ok (.dup2, 1) := by decide +kernel
theorem d_DK_turnOver_22 : decode b_DK_turnOver 22 = .ok (.iaload, 1) := by decide +kernel
theorem d_DK_turnOver_23 : decode b_DK_turnOver 23 = .ok (.iload_n 3, 1) := by decide +kernel
theorem d_DK_turnOver_24 : decode b_DK_turnOver 24 = .ok (.ixor, 1) := by decide +kernel
theorem d_DK_turnOver_25 : decode b_DK_turnOver 25 = .ok (.iastore, 1) := by decide +kernel
theorem d_DK_turnOver_26 : decode b_DK_turnOver 26 = .ok (.return_, 1) := by decide +kernel
theorem d_DK_keysPerBlock_0 : decode b_DK_keysPerBlock 0 = .ok (.aload_n 0, 1) := by decide +kernel
theorem d_DK_keysPerBlock_1 : decode b_DK_keysPerBlock 1 = .ok (.getfield 22, 3) := by decide +kernel
theorem d_DK_keysPerBlock_4 : decode b_DK_keysPerBlock 4 = .ok (.iconst 2, 1) := by decide +kernel
theorem d_DK_keysPerBlock_5 : decode b_DK_keysPerBlock 5 = .ok (.isub, 1) := by decide +kernel
theorem d_DK_keysPerBlock_6 : decode b_DK_keysPerBlock 6 = .ok (.ireturn, 1) := by decide +kernel
theorem d_DK_mostRuns_0 : decode b_DK_mostRuns 0 = .ok (.aload_n 0, 1) := by decide +kernel
theorem d_DK_mostRuns_1 : decode b_DK_mostRuns 1 = .ok (.getfield 22, 3) := by decide +kernel
theorem d_DK_mostRuns_4 : decode b_DK_mostRuns 4 = .ok (.iconst 3, 1) := by decide +kernel
theorem d_DK_mostRuns_5 : decode b_DK_mostRuns 5 = .ok (.isub, 1) := by decide +kernel
theorem d_DK_mostRuns_6 : decode b_DK_mostRuns 6 = .ok (.iconst 4, 1) := by decide +kernel
theorem d_DK_mostRuns_7 : decode b_DK_mostRuns 7 = .ok (.idiv, 1) := by decide +kernel
theorem d_DK_mostRuns_8 : decode b_DK_mostRuns 8 = .ok (.ireturn, 1) := by decide +kernel
theorem d_DK_blocksFor_0 : decode b_DK_blocksFor 0 = .ok (.aload_n 0, 1) := by decide +kernel
theorem d_DK_blocksFor_1 : decode b_DK_blocksFor 1 = .ok (.invokevirtual 41, 3) := by decide +kernel
theorem d_DK_blocksFor_4 : decode b_DK_blocksFor 4 = .ok (.istore_n 2, 1) := by decide +kernel
theorem d_DK_blocksFor_5 : decode b_DK_blocksFor 5 = .ok (.iload_n 2, 1) := by decide +kernel
theorem d_DK_blocksFor_6 : decode b_DK_blocksFor 6 = .ok (.ifCond .le 13, 3) := by decide +kernel
theorem d_DK_blocksFor_9 : decode b_DK_blocksFor 9 = .ok (.iload_n 1, 1) := by decide +kernel
theorem d_DK_blocksFor_10 : decode b_DK_blocksFor 10 = .ok (.iload_n 2, 1) := by decide +kernel
theorem d_DK_blocksFor_11 : decode b_DK_blocksFor 11 = .ok (.iadd, 1) := by decide +kernel
theorem d_DK_blocksFor_12 : decode b_DK_blocksFor 12 = .ok (.iconst 1, 1) := by decide +kernel
theorem d_DK_blocksFor_13 : decode b_DK_blocksFor 13 = .ok (.isub, 1) := by decide +kernel
theorem d_DK_blocksFor_14 : decode b_DK_blocksFor 14 = .ok (.iload_n 2, 1) := by decide +kernel
theorem d_DK_blocksFor_15 : decode b_DK_blocksFor 15 = .ok (.idiv, 1) := by decide +kernel
theorem d_DK_blocksFor_16 : decode b_DK_blocksFor 16 = .ok (.goto 4, 3) := by decide +kernel
theorem d_DK_blocksFor_19 : decode b_DK_blocksFor 19 = .ok (.iconst 0, 1) := by decide +kernel
theorem d_DK_blocksFor_20 : decode b_DK_blocksFor 20 = .ok (.ireturn, 1) := by decide +kernel
theorem d_DK_clearRow_0 : decode b_DK_clearRow 0 = .ok (.aload_n 0, 1) := by decide +kernel
theorem d_DK_clearRow_1 : decode b_DK_clearRow 1 = .ok (.getfield 15, 3) := by decide +kernel
theorem d_DK_clearRow_4 : decode b_DK_clearRow 4 = .ok (.iconst 0, 1) := by decide +kernel
theorem d_DK_clearRow_5 : decode b_DK_clearRow 5 = .ok (.invokestatic 31, 3) := by decide +kernel
theorem d_DK_clearRow_8 : decode b_DK_clearRow 8 = .ok (.return_, 1) := by decide +kernel
theorem d_DK_setRow_0 : decode b_DK_setRow 0 = .ok (.iload_n 1, 1) := by decide +kernel
theorem d_DK_setRow_1 : decode b_DK_setRow 1 = .ok (.ifCond .lt 19, 3) := by decide +kernel
theorem d_DK_setRow_4 : decode b_DK_setRow 4 = .ok (.iload_n 1, 1) := by decide +kernel
theorem d_DK_setRow_5 : decode b_DK_setRow 5 = .ok (.aload_n 0, 1) := by decide +kernel
theorem d_DK_setRow_6 : decode b_DK_setRow 6 = .ok (.getfield 15, 3) := by decide +kernel
theorem d_DK_setRow_9 : decode b_DK_setRow 9 = .ok (.arraylength, 1) := by decide +kernel
theorem d_DK_setRow_10 : decode b_DK_setRow 10 = .ok (.if_icmp .ge 10, 3) := by decide +kernel
theorem d_DK_setRow_13 : decode b_DK_setRow 13 = .ok (.aload_n 0, 1) := by decide +kernel
theorem d_DK_setRow_14 : decode b_DK_setRow 14 = .ok (.getfield 15, 3) := by decide +kernel
theorem d_DK_setRow_17 : decode b_DK_setRow 17 = .ok (.iload_n 1, 1) := by decide +kernel
theorem d_DK_setRow_18 : decode b_DK_setRow 18 = .ok (.iload_n 2, 1) := by decide +kernel
theorem d_DK_setRow_19 : decode b_DK_setRow 19 = .ok (.iastore, 1) := by decide +kernel
theorem d_DK_setRow_20 : decode b_DK_setRow 20 = .ok (.return_, 1) := by decide +kernel
theorem d_DK_writeRow_0 : decode b_DK_writeRow 0 = .ok (.aload_n 0, 1) := by decide +kernel
theorem d_DK_writeRow_1 : decode b_DK_writeRow 1 = .ok (.getfield 28, 3) := by decide +kernel
theorem d_DK_writeRow_4 : decode b_DK_writeRow 4 = .ok (.ifCond .le 22, 3) := by decide +kernel
theorem d_DK_writeRow_7 : decode b_DK_writeRow 7 = .ok (.aload_n 0, 1) := by decide +kernel
theorem d_DK_writeRow_8 : decode b_DK_writeRow 8 = .ok (.dup, 1) := by decide +kernel
theorem d_DK_writeRow_9 : decode b_DK_writeRow 9 = .ok (.getfield 28, 3) := by decide +kernel
theorem d_DK_writeRow_12 : decode b_DK_writeRow 12 = .ok (.iconst 1, 1) := by decide +kernel
theorem d_DK_writeRow_13 : decode b_DK_writeRow 13 = .ok (.isub, 1) := by decide +kernel
theorem d_DK_writeRow_14 : decode b_DK_writeRow 14 = .ok (.putfield 28, 3) := by decide +kernel
theorem d_DK_writeRow_17 : decode b_DK_writeRow 17 = .ok (.aload_n 0, 1) := by decide +kernel
theorem d_DK_writeRow_18 : decode b_DK_writeRow 18 = .ok (.getfield 28, 3) := by decide +kernel
theorem d_DK_writeRow_21 : decode b_DK_writeRow 21 = .ok (.ifCond .ne 5, 3) := by decide +kernel
theorem d_DK_writeRow_24 : decode b_DK_writeRow 24 = .ok (.iconst 0, 1) := by decide +kernel
theorem d_DK_writeRow_25 : decode b_DK_writeRow 25 = .ok (.ireturn, 1) := by decide +kernel
theorem d_DK_writeRow_26 : decode b_DK_writeRow 26 = .ok (.iload_n 1, 1) := by decide +kernel
theorem d_DK_writeRow_27 : decode b_DK_writeRow 27 = .ok (.ifCond .lt 61, 3) := by decide +kernel
theorem d_DK_writeRow_30 : decode b_DK_writeRow 30 = .ok (.iload_n 1, 1) := by decide +kernel
theorem d_DK_writeRow_31 : decode b_DK_writeRow 31 = .ok (.aload_n 0, 1) := by decide +kernel
theorem d_DK_writeRow_32 : decode b_DK_writeRow 32 = .ok (.getfield 18, 3) := by decide +kernel
theorem d_DK_writeRow_35 : decode b_DK_writeRow 35 = .ok (.if_icmp .ge 53, 3) := by decide +kernel
theorem d_DK_writeRow_38 : decode b_DK_writeRow 38 = .ok (.aload_n 0, 1) := by decide +kernel
theorem d_DK_writeRow_39 : decode b_DK_writeRow 39 = .ok (.getfield 15, 3) := by decide +kernel
theorem d_DK_writeRow_42 : decode b_DK_writeRow 42 = .ok (.iconst 0, 1) := by decide +kernel
theorem d_DK_writeRow_43 : decode b_DK_writeRow 43 = .ok (.aload_n 0, 1) := by decide +kernel
theorem d_DK_writeRow_44 : decode b_DK_writeRow 44 = .ok (.getfield 9, 3) := by decide +kernel
theorem d_DK_writeRow_47 : decode b_DK_writeRow 47 = .ok (.iload_n 1, 1) := by decide +kernel
theorem d_DK_writeRow_48 : decode b_DK_writeRow 48 = .ok (.aload_n 0, 1) := by decide +kernel
theorem d_DK_writeRow_49 : decode b_DK_writeRow 49 = .ok (.getfield 22, 3) := by decide +kernel
theorem d_DK_writeRow_52 : decode b_DK_writeRow 52 = .ok (.imul, 1) := by decide +kernel
theorem d_DK_writeRow_53 : decode b_DK_writeRow 53 = .ok (.aload_n 0, 1) := by decide +kernel
theorem d_DK_writeRow_54 : decode b_DK_writeRow 54 = .ok (.getfield 22, 3) := by decide +kernel
theorem d_DK_writeRow_57 : decode b_DK_writeRow 57 = .ok (.invokestatic 45, 3) := by decide +kernel
theorem d_DK_writeRow_60 : decode b_DK_writeRow 60 = .ok (.aload_n 0, 1) := by decide +kernel
theorem d_DK_writeRow_61 : decode b_DK_writeRow 61 = .ok (.getfield 9, 3) := by decide +kernel
theorem d_DK_writeRow_64 : decode b_DK_writeRow 64 = .ok (.iload_n 1, 1) := by decide +kernel
theorem d_DK_writeRow_65 : decode b_DK_writeRow 65 = .ok (.aload_n 0, 1) := by decide +kernel
theorem d_DK_writeRow_66 : decode b_DK_writeRow 66 = .ok (.getfield 22, 3) := by decide +kernel
theorem d_DK_writeRow_69 : decode b_DK_writeRow 69 = .ok (.imul, 1) := by decide +kernel
theorem d_DK_writeRow_70 : decode b_DK_writeRow 70 = .ok (.iconst 0, 1) := by decide +kernel
theorem d_DK_writeRow_71 : decode b_DK_writeRow 71 = .ok (.iadd, 1) := by decide +kernel
theorem d_DK_writeRow_72 : decode b_DK_writeRow 72 = .ok (.aload_n 0, 1) := by decide +kernel
theorem d_DK_writeRow_73 : decode b_DK_writeRow 73 = .ok (.iload_n 1, 1) := by decide +kernel
theorem d_DK_writeRow_74 : decode b_DK_writeRow 74 = .ok (.invokevirtual 51, 3) := by decide +kernel
theorem d_DK_writeRow_77 : decode b_DK_writeRow 77 = .ok (.iastore, 1) := by decide +kernel
theorem d_DK_writeRow_78 : decode b_DK_writeRow 78 = .ok (.aload_n 0, 1) := by decide +kernel
theorem d_DK_writeRow_79 : decode b_DK_writeRow 79 = .ok (.dup, 1) := by decide +kernel
theorem d_DK_writeRow_80 : decode b_DK_writeRow 80 = .ok (.getfield 25, 3) := by decide +kernel
theorem d_DK_writeRow_83 : decode b_DK_writeRow 83 = .ok (.iconst 1, 1) := by decide +kernel
theorem d_DK_writeRow_84 : decode b_DK_writeRow 84 = .ok (.iadd, 1) := by decide +kernel
theorem d_DK_writeRow_85 : decode b_DK_writeRow 85 = .ok (.putfield 25, 3) := by decide +kernel
theorem d_DK_writeRow_88 : decode b_DK_writeRow 88 = .ok (.iconst 1, 1) := by decide +kernel
theorem d_DK_writeRow_89 : decode b_DK_writeRow 89 = .ok (.ireturn, 1) := by decide +kernel
theorem d_DK_sumOf_0 : decode b_DK_sumOf 0 = .ok (.bipush 7, 2) := by decide +kernel
theorem d_DK_sumOf_2 : decode b_DK_sumOf 2 = .ok (.istore_n 2, 1) := by decide +kernel
theorem d_DK_sumOf_3 : decode b_DK_sumOf 3 = .ok (.iload_n 1, 1) := by decide +kernel
theorem d_DK_sumOf_4 : decode b_DK_sumOf 4 = .ok (.ifCond .lt 55, 3) := by decide +kernel
theorem d_DK_sumOf_7 : decode b_DK_sumOf 7 = .ok (.iload_n 1, 1) := by decide +kernel
theorem d_DK_sumOf_8 : decode b_DK_sumOf 8 = .ok (.aload_n 0, 1) := by decide +kernel
theorem d_DK_sumOf_9 : decode b_DK_sumOf 9 = .ok (.getfield 18, 3) := by decide +kernel
theorem d_DK_sumOf_12 : decode b_DK_sumOf 12 = .ok (.if_icmp .ge 47, 3) := by decide +kernel
theorem d_DK_sumOf_15 : decode b_DK_sumOf 15 = .ok (.iload_n 1, 1) := by decide +kernel
theorem d_DK_sumOf_16 : decode b_DK_sumOf 16 = .ok (.aload_n 0, 1) := by decide +kernel
theorem d_DK_sumOf_17 : decode b_DK_sumOf 17 = .ok (.getfield 22, 3) := by decide +kernel
theorem d_DK_sumOf_20 : decode b_DK_sumOf 20 = .ok (.imul, 1) := by decide +kernel
theorem d_DK_sumOf_21 : decode b_DK_sumOf 21 = .ok (.istore_n 3, 1) := by decide +kernel
theorem d_DK_sumOf_22 : decode b_DK_sumOf 22 = .ok (.iconst 1, 1) := by decide +kernel
theorem d_DK_sumOf_23 : decode b_DK_sumOf 23 = .ok (.istore 4, 2) := by decide +kernel
theorem d_DK_sumOf_25 : decode b_DK_sumOf 25 = .ok (.iload 4, 2) := by decide +kernel
theorem d_DK_sumOf_27 : decode b_DK_sumOf 27 = .ok (.aload_n 0, 1) := by decide +kernel
theorem d_DK_sumOf_28 : decode b_DK_sumOf 28 = .ok (.getfield 22, 3) := by decide +kernel
theorem d_DK_sumOf_31 : decode b_DK_sumOf 31 = .ok (.if_icmp .ge 28, 3) := by decide +kernel
theorem d_DK_sumOf_34 : decode b_DK_sumOf 34 = .ok (.iload_n 2, 1) := by decide +kernel
theorem d_DK_sumOf_35 : decode b_DK_sumOf 35 = .ok (.aload_n 0, 1) := by decide +kernel
theorem d_DK_sumOf_36 : decode b_DK_sumOf 36 = .ok (.getfield 9, 3) := by decide +kernel
theorem d_DK_sumOf_39 : decode b_DK_sumOf 39 = .ok (.iload_n 3, 1) := by decide +kernel
theorem d_DK_sumOf_40 : decode b_DK_sumOf 40 = .ok (.iload 4, 2) := by decide +kernel
theorem d_DK_sumOf_42 : decode b_DK_sumOf 42 = .ok (.iadd, 1) := by decide +kernel
theorem d_DK_sumOf_43 : decode b_DK_sumOf 43 = .ok (.iaload, 1) := by decide +kernel
theorem d_DK_sumOf_44 : decode b_DK_sumOf 44 = .ok (.iconst 2, 1) := by decide +kernel
theorem d_DK_sumOf_45 : decode b_DK_sumOf 45 = .ok (.iload 4, 2) := by decide +kernel
theorem d_DK_sumOf_47 : decode b_DK_sumOf 47 = .ok (.imul, 1) := by decide +kernel
theorem d_DK_sumOf_48 : decode b_DK_sumOf 48 = .ok (.iconst 1, 1) := by decide +kernel
theorem d_DK_sumOf_49 : decode b_DK_sumOf 49 = .ok (.iadd, 1) := by decide +kernel
theorem d_DK_sumOf_50 : decode b_DK_sumOf 50 = .ok (.imul, 1) := by decide +kernel
theorem d_DK_sumOf_51 : decode b_DK_sumOf 51 = .ok (.iadd, 1) := by decide +kernel
theorem d_DK_sumOf_52 : decode b_DK_sumOf 52 = .ok (.istore_n 2, 1) := by decide +kernel
theorem d_DK_sumOf_53 : decode b_DK_sumOf 53 = .ok (.iinc 4 1, 3) := by decide +kernel
theorem d_DK_sumOf_56 : decode b_DK_sumOf 56 = .ok (.goto (-31), 3) := by decide +kernel
theorem d_DK_sumOf_59 : decode b_DK_sumOf 59 = .ok (.iload_n 2, 1) := by decide +kernel
theorem d_DK_sumOf_60 : decode b_DK_sumOf 60 = .ok (.ireturn, 1) := by decide +kernel
theorem d_ME_init_0 : decode b_ME_init 0 = .ok (.aload_n 0, 1) := by decide +kernel
theorem d_ME_init_1 : decode b_ME_init 1 = .ok (.invokespecial 3, 3) := by decide +kernel
theorem d_ME_init_4 : decode b_ME_init 4 = .ok (.aload_n 0, 1) := by decide +kernel
theorem d_ME_init_5 : decode b_ME_init 5 = .ok (.bipush 100, 2) := by decide +kernel
theorem d_ME_init_7 : decode b_ME_init 7 = .ok (.newarray .int, 2) := by decide +kernel
theorem d_ME_init_9 : decode b_ME_init 9 = .ok (.putfield 9, 3) := by decide +kernel
theorem d_ME_init_12 : decode b_ME_init 12 = .ok (.return_, 1) := by decide +kernel
theorem d_ME_clear_0 : decode b_ME_clear 0 = .ok (.aload_n 0, 1) := by decide +kernel
theorem d_ME_clear_1 : decode b_ME_clear 1 = .ok (.iconst 0, 1) := by decide +kernel
theorem d_ME_clear_2 : decode b_ME_clear 2 = .ok (.putfield 15, 3) := by decide +kernel
theorem d_ME_clear_5 : decode b_ME_clear 5 = .ok (.return_, 1) := by decide +kernel
theorem d_ME_isFull_0 : decode b_ME_isFull 0 = .ok (.aload_n 0, 1) := by decide +kernel
theorem d_ME_isFull_1 : decode b_ME_isFull 1 = .ok (.getfield 15, 3) := by decide +kernel
theorem d_ME_isFull_4 : decode b_ME_isFull 4 = .ok (.aload_n 0, 1) := by decide +kernel
theorem d_ME_isFull_5 : decode b_ME_isFull 5 = .ok (.getfield 19, 3) := by decide +kernel
theorem d_ME_isFull_8 : decode b_ME_isFull 8 = .ok (.if_icmp .lt 7, 3) := by decide +kernel
theorem d_ME_isFull_11 : decode b_ME_isFull 11 = .ok (.iconst 1, 1) := by decide +kernel
theorem d_ME_isFull_12 : decode b_ME_isFull 12 = .ok (.goto 4, 3) := by decide +kernel
theorem d_ME_isFull_15 : decode b_ME_isFull 15 = .ok (.iconst 0, 1) := by decide +kernel
theorem d_ME_isFull_16 : decode b_ME_isFull 16 = .ok (.ireturn, 1) := by decide +kernel
theorem d_ME_add_0 : decode b_ME_add 0 = .ok (.aload_n 0, 1) := by decide +kernel
theorem d_ME_add_1 : decode b_ME_add 1 = .ok (.getfield 15, 3) := by decide +kernel
theorem d_ME_add_4 : decode b_ME_add 4 = .ok (.aload_n 0, 1) := by decide +kernel
theorem d_ME_add_5 : decode b_ME_add 5 = .ok (.getfield 9, 3) := by decide +kernel
theorem d_ME_add_8 : decode b_ME_add 8 = .ok (.arraylength, 1) := by decide +kernel
theorem d_ME_add_9 : decode b_ME_add 9 = .ok (.if_icmp .lt 4, 3) := by decide +kernel
theorem d_ME_add_12 : decode b_ME_add 12 = .ok (.return_, 1) := by decide +kernel
theorem d_ME_add_13 : decode b_ME_add 13 = .ok (.aload_n 0, 1) := by decide +kernel
theorem d_ME_add_14 : decode b_ME_add 14 = .ok (.getfield 15, 3) := by decide +kernel
theorem d_ME_add_17 : decode b_ME_add 17 = .ok (.istore_n 2, 1) := by decide +kernel
theorem d_ME_add_18 : decode b_ME_add 18 = .ok (.iload_n 2, 1) := by decide +kernel
theorem d_ME_add_19 : decode b_ME_add 19 = .ok (.ifCond .le 35, 3) := by decide +kernel
theorem d_ME_add_22 : decode b_ME_add 22 = .ok (.aload_n 0, 1) := by decide +kernel
theorem d_ME_add_23 : decode b_ME_add 23 = .ok (.getfield 9, 3) := by decide +kernel
theorem d_ME_add_26 : decode b_ME_add 26 = .ok (.iload_n 2, 1) := by decide +kernel
theorem d_ME_add_27 : decode b_ME_add 27 = .ok (.iconst 1, 1) := by decide +kernel
theorem d_ME_add_28 : decode b_ME_add 28 = .ok (.isub, 1) := by decide +kernel
theorem d_ME_add_29 : decode b_ME_add 29 = .ok (.iaload, 1) := by decide +kernel
theorem d_ME_add_30 : decode b_ME_add 30 = .ok (.iload_n 1, 1) := by decide +kernel
theorem d_ME_add_31 : decode b_ME_add 31 = .ok (.if_icmp .ge 23, 3) := by decide +kernel
theorem d_ME_add_34 : decode b_ME_add 34 = .ok (.aload_n 0, 1) := by decide +kernel
theorem d_ME_add_35 : decode b_ME_add 35 = .ok (.getfield 9, 3) := by decide +kernel
theorem d_ME_add_38 : decode b_ME_add 38 = .ok (.iload_n 2, 1) := by decide +kernel
theorem d_ME_add_39 : decode b_ME_add 39 = .ok (.aload_n 0, 1) := by decide +kernel
theorem d_ME_add_40 : decode b_ME_add 40 = .ok (.getfield 9, 3) := by decide +kernel
theorem d_ME_add_43 : decode b_ME_add 43 = .ok (.iload_n 2, 1) := by decide +kernel
theorem d_ME_add_44 : decode b_ME_add 44 = .ok (.iconst 1, 1) := by decide +kernel
theorem d_ME_add_45 : decode b_ME_add 45 = .ok (.isub, 1) := by decide +kernel
theorem d_ME_add_46 : decode b_ME_add 46 = .ok (.iaload, 1) := by decide +kernel
theorem d_ME_add_47 : decode b_ME_add 47 = .ok (.iastore, 1) := by decide +kernel
theorem d_ME_add_48 : decode b_ME_add 48 = .ok (.iinc 2 (-1), 3) := by decide +kernel
theorem d_ME_add_51 : decode b_ME_add 51 = .ok (.goto (-33), 3) := by decide +kernel
theorem d_ME_add_54 : decode b_ME_add 54 = .ok (.aload_n 0, 1) := by decide +kernel
theorem d_ME_add_55 : decode b_ME_add 55 = .ok (.getfield 9, 3) := by decide +kernel
theorem d_ME_add_58 : decode b_ME_add 58 = .ok (.iload_n 2, 1) := by decide +kernel
theorem d_ME_add_59 : decode b_ME_add 59 = .ok (.iload_n 1, 1) := by decide +kernel
theorem d_ME_add_60 : decode b_ME_add 60 = .ok (.iastore, 1) := by decide +kernel
theorem d_ME_add_61 : decode b_ME_add 61 = .ok (.aload_n 0, 1) := by decide +kernel
theorem d_ME_add_62 : decode b_ME_add 62 = .ok (.dup, 1) := by decide +kernel
theorem d_ME_add_63 : decode b_ME_add 63 = .ok (.getfield 15, 3) := by decide +kernel
theorem d_ME_add_66 : decode b_ME_add 66 = .ok (.iconst 1, 1) := by decide +kernel
theorem d_ME_add_67 : decode b_ME_add 67 = .ok (.iadd, 1) := by decide +kernel
theorem d_ME_add_68 : decode b_ME_add 68 = .ok (.putfield 15, 3) := by decide +kernel
theorem d_ME_add_71 : decode b_ME_add 71 = .ok (.return_, 1) := by decide +kernel
theorem d_ME_least_0 : decode b_ME_least 0 = .ok (.aload_n 0, 1) := by decide +kernel
theorem d_ME_least_1 : decode b_ME_least 1 = .ok (.getfield 15, 3) := by decide +kernel
theorem d_ME_least_4 : decode b_ME_least 4 = .ok (.ifCond .le 17, 3) := by decide +kernel
theorem d_ME_least_7 : decode b_ME_least 7 = .ok (.aload_n 0, 1) := by decide +kernel
theorem d_ME_least_8 : decode b_ME_least 8 = .ok (.getfield 9, 3) := by decide +kernel
theorem d_ME_least_11 : decode b_ME_least 11 = .ok (.aload_n 0, 1) := by decide +kernel
theorem d_ME_least_12 : decode b_ME_least 12 = .ok (.getfield 15, 3) := by decide +kernel
theorem d_ME_least_15 : decode b_ME_least 15 = .ok (.iconst 1, 1) := by decide +kernel
theorem d_ME_least_16 : decode b_ME_least 16 = .ok (.isub, 1) := by decide +kernel
theorem d_ME_least_17 : decode b_ME_least 17 = .ok (.iaload, 1) := by decide +kernel
theorem d_ME_least_18 : decode b_ME_least 18 = .ok (.goto 4, 3) := by decide +kernel
theorem d_ME_least_21 : decode b_ME_least 21 = .ok (.iconst (-1), 1) := by decide +kernel
theorem d_ME_least_22 : decode b_ME_least 22 = .ok (.ireturn, 1) := by decide +kernel
theorem d_ME_howMany_0 : decode b_ME_howMany 0 = .ok (.aload_n 0, 1) := by decide +kernel
theorem d_ME_howMany_1 : decode b_ME_howMany 1 = .ok (.getfield 15, 3) := by decide +kernel
theorem d_ME_howMany_4 : decode b_ME_howMany 4 = .ok (.ireturn, 1) := by decide +kernel
theorem d_ME_takeLeast_0 : decode b_ME_takeLeast 0 = .ok (.aload_n 0, 1) := by decide +kernel
theorem d_ME_takeLeast_1 : decode b_ME_takeLeast 1 = .ok (.invokevirtual 22, 3) := by decide +kernel
theorem d_ME_takeLeast_4 : decode b_ME_takeLeast 4 = .ok (.istore_n 1, 1) := by decide +kernel
theorem d_ME_takeLeast_5 : decode b_ME_takeLeast 5 = .ok (.aload_n 0, 1) := by decide +kernel
theorem d_ME_takeLeast_6 : decode b_ME_takeLeast 6 = .ok (.getfield 15, 3) := by decide +kernel
theorem d_ME_takeLeast_9 : decode b_ME_takeLeast 9 = .ok (.ifCond .le 13, 3) := by decide +kernel
theorem d_ME_takeLeast_12 : decode b_ME_takeLeast 12 = .ok (.aload_n 0, 1) := by decide +kernel
theorem d_ME_takeLeast_13 : decode b_ME_takeLeast 13 = .ok (.dup, 1) := by decide +kernel
theorem d_ME_takeLeast_14 : decode b_ME_takeLeast 14 = .ok (.getfield 15, 3) := by decide +kernel
theorem d_ME_takeLeast_17 : decode b_ME_takeLeast 17 = .ok (.iconst 1, 1) := by decide +kernel
theorem d_ME_takeLeast_18 : decode b_ME_takeLeast 18 = .ok (.isub, 1) := by decide +kernel
theorem d_ME_takeLeast_19 : decode b_ME_takeLeast 19 = .ok (.putfield 15, 3) := by decide +kernel
theorem d_ME_takeLeast_22 : decode b_ME_takeLeast 22 = .ok (.iload_n 1, 1) := by decide +kernel
theorem d_ME_takeLeast_23 : decode b_ME_takeLeast 23 = .ok (.ireturn, 1) := by decide +kernel
theorem d_RU_init_0 : decode b_RU_init 0 = .ok (.aload_n 0, 1) := by decide +kernel
theorem d_RU_init_1 : decode b_RU_init 1 = .ok (.invokespecial 3, 3) := by decide +kernel
theorem d_RU_init_4 : decode b_RU_init 4 = .ok (.aload_n 0, 1) := by decide +kernel
theorem d_RU_init_5 : decode b_RU_init 5 = .ok (.bipush 9, 2) := by decide +kernel
theorem d_RU_init_7 : decode b_RU_init 7 = .ok (.newarray .int, 2) := by decide +kernel
theorem d_RU_init_9 : decode b_RU_init 9 = .ok (.putfield 9, 3) := by decide +kernel
theorem d_RU_init_12 : decode b_RU_init 12 = .ok (.aload_n 0, 1) := by decide +kernel
theorem d_RU_init_13 : decode b_RU_init 13 = .ok (.bipush 9, 2) := by decide +kernel
theorem d_RU_init_15 : decode b_RU_init 15 = .ok (.newarray .int, 2) := by decide +kernel
theorem d_RU_init_17 : decode b_RU_init 17 = .ok (.putfield 15, 3) := by decide +kernel
theorem d_RU_init_20 : decode b_RU_init 20 = .ok (.aload_n 0, 1) := by decide +kernel
theorem d_RU_init_21 : decode b_RU_init 21 = .ok (.bipush 9, 2) := by decide +kernel
theorem d_RU_init_23 : decode b_RU_init 23 = .ok (.newarray .int, 2) := by decide +kernel
theorem d_RU_init_25 : decode b_RU_init 25 = .ok (.putfield 18, 3) := by decide +kernel
theorem d_RU_init_28 : decode b_RU_init 28 = .ok (.aload_n 0, 1) := by decide +kernel
theorem d_RU_init_29 : decode b_RU_init 29 = .ok (.bipush 9, 2) := by decide +kernel
theorem d_RU_init_31 : decode b_RU_init 31 = .ok (.newarray .int, 2) := by decide +kernel
theorem d_RU_init_33 : decode b_RU_init 33 = .ok (.putfield 21, 3) := by decide +kernel
theorem d_RU_init_36 : decode b_RU_init 36 = .ok (.aload_n 0, 1) := by decide +kernel
theorem d_RU_init_37 : decode b_RU_init 37 = .ok (.bipush 9, 2) := by decide +kernel
theorem d_RU_init_39 : decode b_RU_init 39 = .ok (.newarray .int, 2) := by decide +kernel
theorem d_RU_init_41 : decode b_RU_init 41 = .ok (.putfield 24, 3) := by decide +kernel
theorem d_RU_init_44 : decode b_RU_init 44 = .ok (.aload_n 0, 1) := by decide +kernel
theorem d_RU_init_45 : decode b_RU_init 45 = .ok (.bipush 9, 2) := by decide +kernel
theorem d_RU_init_47 : decode b_RU_init 47 = .ok (.newarray .boolean, 2) := by decide +kernel
theorem d_RU_init_49 : decode b_RU_init 49 = .ok (.putfield 27, 3) := by decide +kernel
theorem d_RU_init_52 : decode b_RU_init 52 = .ok (.aload_n 0, 1) := by decide +kernel
theorem d_RU_init_53 : decode b_RU_init 53 = .ok (.aload_n 1, 1) := by decide +kernel
theorem d_RU_init_54 : decode b_RU_init 54 = .ok (.putfield 31, 3) := by decide +kernel
theorem d_RU_init_57 : decode b_RU_init 57 = .ok (.return_, 1) := by decide +kernel
theorem d_RU_clear_0 : decode b_RU_clear 0 = .ok (.aload_n 0, 1) := by decide +kernel
theorem d_RU_clear_1 : decode b_RU_clear 1 = .ok (.iconst 0, 1) := by decide +kernel
theorem d_RU_clear_2 : decode b_RU_clear 2 = .ok (.putfield 35, 3) := by decide +kernel
theorem d_RU_clear_5 : decode b_RU_clear 5 = .ok (.return_, 1) := by decide +kernel
theorem d_RU_has_0 : decode b_RU_has 0 = .ok (.iload_n 1, 1) := by decide +kernel
theorem d_RU_has_1 : decode b_RU_has 1 = .ok (.ifCond .lt 15, 3) := by decide +kernel
theorem d_RU_has_4 : decode b_RU_has 4 = .ok (.iload_n 1, 1) := by decide +kernel
theorem d_RU_has_5 : decode b_RU_has 5 = .ok (.aload_n 0, 1) := by decide +kernel
theorem d_RU_has_6 : decode b_RU_has 6 = .ok (.getfield 35, 3) := by decide +kernel
theorem d_RU_has_9 : decode b_RU_has 9 = .ok (.if_icmp .ge 7, 3) := by decide +kernel
theorem d_RU_has_12 : decode b_RU_has 12 = .ok (.iconst 1, 1) := by decide +kernel
theorem d_RU_has_13 : decode b_RU_has 13 = .ok (.goto 4, 3) := by decide +kernel
theorem d_RU_has_16 : decode b_RU_has 16 = .ok (.iconst 0, 1) := by decide +kernel
theorem d_RU_has_17 : decode b_RU_has 17 = .ok (.ireturn, 1) := by decide +kernel
theorem d_RU_add_0 : decode b_RU_add 0 = .ok (.aload_n 0, 1) := by decide +kernel
theorem d_RU_add_1 : decode b_RU_add 1 = .ok (.getfield 35, 3) := by decide +kernel
theorem d_RU_add_4 : decode b_RU_add 4 = .ok (.bipush 9, 2) := by decide +kernel
theorem d_RU_add_6 : decode b_RU_add 6 = .ok (.if_icmp .lt 4, 3) := by decide +kernel
theorem d_RU_add_9 : decode b_RU_add 9 = .ok (.return_, 1) := by decide +kernel
theorem d_RU_add_10 : decode b_RU_add 10 = .ok (.aload_n 0, 1) := by decide +kernel
theorem d_RU_add_11 : decode b_RU_add 11 = .ok (.getfield 9, 3) := by decide +kernel
theorem d_RU_add_14 : decode b_RU_add 14 = .ok (.aload_n 0, 1) := by decide +kernel
theorem d_RU_add_15 : decode b_RU_add 15 = .ok (.getfield 35, 3) := by decide +kernel
theorem d_RU_add_18 : decode b_RU_add 18 = .ok (.iload_n 1, 1) := by decide +kernel
theorem d_RU_add_19 : decode b_RU_add 19 = .ok (.iastore, 1) := by decide +kernel
theorem d_RU_add_20 : decode b_RU_add 20 = .ok (.aload_n 0, 1) := by decide +kernel
theorem d_RU_add_21 : decode b_RU_add 21 = .ok (.getfield 15, 3) := by decide +kernel
theorem d_RU_add_24 : decode b_RU_add 24 = .ok (.aload_n 0, 1) := by decide +kernel
theorem d_RU_add_25 : decode b_RU_add 25 = .ok (.getfield 35, 3) := by decide +kernel
theorem d_RU_add_28 : decode b_RU_add 28 = .ok (.iload_n 2, 1) := by decide +kernel
theorem d_RU_add_29 : decode b_RU_add 29 = .ok (.iastore, 1) := by decide +kernel
theorem d_RU_add_30 : decode b_RU_add 30 = .ok (.aload_n 0, 1) := by decide +kernel
theorem d_RU_add_31 : decode b_RU_add 31 = .ok (.getfield 18, 3) := by decide +kernel
theorem d_RU_add_34 : decode b_RU_add 34 = .ok (.aload_n 0, 1) := by decide +kernel
theorem d_RU_add_35 : decode b_RU_add 35 = .ok (.getfield 35, 3) := by decide +kernel
theorem d_RU_add_38 : decode b_RU_add 38 = .ok (.iload_n 3, 1) := by decide +kernel
theorem d_RU_add_39 : decode b_RU_add 39 = .ok (.iastore, 1) := by decide +kernel
theorem d_RU_add_40 : decode b_RU_add 40 = .ok (.aload_n 0, 1) := by decide +kernel
theorem d_RU_add_41 : decode b_RU_add 41 = .ok (.getfield 21, 3) := by decide +kernel
theorem d_RU_add_44 : decode b_RU_add 44 = .ok (.aload_n 0, 1) := by decide +kernel
theorem d_RU_add_45 : decode b_RU_add 45 = .ok (.getfield 35, 3) := by decide +kernel
theorem d_RU_add_48 : decode b_RU_add 48 = .ok (.iload 4, 2) := by decide +kernel
theorem d_RU_add_50 : decode b_RU_add 50 = .ok (.iastore, 1) := by decide +kernel
theorem d_RU_add_51 : decode b_RU_add 51 = .ok (.aload_n 0, 1) := by decide +kernel
theorem d_RU_add_52 : decode b_RU_add 52 = .ok (.getfield 24, 3) := by decide +kernel
theorem d_RU_add_55 : decode b_RU_add 55 = .ok (.aload_n 0, 1) := by decide +kernel
theorem d_RU_add_56 : decode b_RU_add 56 = .ok (.getfield 35, 3) := by decide +kernel
theorem d_RU_add_59 : decode b_RU_add 59 = .ok (.aload_n 0, 1) := by decide +kernel
theorem d_RU_add_60 : decode b_RU_add 60 = .ok (.getfield 31, 3) := by decide +kernel
theorem d_RU_add_63 : decode b_RU_add 63 = .ok (.iload_n 1, 1) := by decide +kernel
theorem d_RU_add_64 : decode b_RU_add 64 = .ok (.iconst 2, 1) := by decide +kernel
theorem d_RU_add_65 : decode b_RU_add 65 = .ok (.iload_n 2, 1) := by decide +kernel
theorem d_RU_add_66 : decode b_RU_add 66 = .ok (.iadd, 1) := by decide +kernel
theorem d_RU_add_67 : decode b_RU_add 67 = .ok (.invokevirtual 39, 3) := by decide +kernel
theorem d_RU_add_70 : decode b_RU_add 70 = .ok (.iastore, 1) := by decide +kernel
theorem d_RU_add_71 : decode b_RU_add 71 = .ok (.aload_n 0, 1) := by decide +kernel
theorem d_RU_add_72 : decode b_RU_add 72 = .ok (.dup, 1) := by decide +kernel
theorem d_RU_add_73 : decode b_RU_add 73 = .ok (.getfield 35, 3) := by decide +kernel
theorem d_RU_add_76 : decode b_RU_add 76 = .ok (.iconst 1, 1) := by decide +kernel
theorem d_RU_add_77 : decode b_RU_add 77 = .ok (.iadd, 1) := by decide +kernel
theorem d_RU_add_78 : decode b_RU_add 78 = .ok (.putfield 35, 3) := by decide +kernel
theorem d_RU_add_81 : decode b_RU_add 81 = .ok (.return_, 1) := by decide +kernel
theorem d_RU_dropEmpty_0 : decode b_RU_dropEmpty 0 = .ok (.iconst 0, 1) := by decide +kernel
theorem d_RU_dropEmpty_1 : decode b_RU_dropEmpty 1 = .ok (.istore_n 1, 1) := by decide +kernel
theorem d_RU_dropEmpty_2 : decode b_RU_dropEmpty 2 = .ok (.iconst 0, 1) := by decide +kernel
theorem d_RU_dropEmpty_3 : decode b_RU_dropEmpty 3 = .ok (.istore_n 2, 1) := by decide +kernel
theorem d_RU_dropEmpty_4 : decode b_RU_dropEmpty 4 = .ok (.iload_n 2, 1) := by decide +kernel
theorem d_RU_dropEmpty_5 : decode b_RU_dropEmpty 5 = .ok (.aload_n 0, 1) := by decide +kernel
theorem d_RU_dropEmpty_6 : decode b_RU_dropEmpty 6 = .ok (.getfield 35, 3) := by decide +kernel
theorem d_RU_dropEmpty_9 : decode b_RU_dropEmpty 9 = .ok (.if_icmp .ge 81, 3) := by decide +kernel
theorem d_RU_dropEmpty_12 : decode b_RU_dropEmpty 12 = .ok (.aload_n 0, 1) := by decide +kernel
theorem d_RU_dropEmpty_13 : decode b_RU_dropEmpty 13 = .ok (.getfield 18, 3) := by decide +kernel
theorem d_RU_dropEmpty_16 : decode b_RU_dropEmpty 16 = .ok (.iload_n 2, 1) := by decide +kernel
theorem d_RU_dropEmpty_17 : decode b_RU_dropEmpty 17 = .ok (.iaload, 1) := by decide +kernel
theorem d_RU_dropEmpty_18 : decode b_RU_dropEmpty 18 = .ok (.ifCond .le 66, 3) := by decide +kernel
theorem d_RU_dropEmpty_21 : decode b_RU_dropEmpty 21 = .ok (.aload_n 0, 1) := by decide +kernel
theorem d_RU_dropEmpty_22 : decode b_RU_dropEmpty 22 = .ok (.getfield 9, 3) := by decide +kernel
theorem d_RU_dropEmpty_25 : decode b_RU_dropEmpty 25 = .ok (.iload_n 1, 1) := by decide +kernel
theorem d_RU_dropEmpty_26 : decode b_RU_dropEmpty 26 = .ok (.aload_n 0, 1) := by decide +kernel
theorem d_RU_dropEmpty_27 : decode b_RU_dropEmpty 27 = .ok (.getfield 9, 3) := by decide +kernel
theorem d_RU_dropEmpty_30 : decode b_RU_dropEmpty 30 = .ok (.iload_n 2, 1) := by decide +kernel
theorem d_RU_dropEmpty_31 : decode b_RU_dropEmpty 31 = .ok (.iaload, 1) := by decide +kernel
theorem d_RU_dropEmpty_32 : decode b_RU_dropEmpty 32 = .ok (.iastore, 1) := by decide +kernel
theorem d_RU_dropEmpty_33 : decode b_RU_dropEmpty 33 = .ok (.aload_n 0, 1) := by decide +kernel
theorem d_RU_dropEmpty_34 : decode b_RU_dropEmpty 34 = .ok (.getfield 15, 3) := by decide +kernel
theorem d_RU_dropEmpty_37 : decode b_RU_dropEmpty 37 = .ok (.iload_n 1, 1) := by decide +kernel
theorem d_RU_dropEmpty_38 : decode b_RU_dropEmpty 38 = .ok (.aload_n 0, 1) := by decide +kernel
theorem d_RU_dropEmpty_39 : decode b_RU_dropEmpty 39 = .ok (.getfield 15, 3) := by decide +kernel
theorem d_RU_dropEmpty_42 : decode b_RU_dropEmpty 42 = .ok (.iload_n 2, 1) := by decide +kernel
theorem d_RU_dropEmpty_43 : decode b_RU_dropEmpty 43 = .ok (.iaload, 1) := by decide +kernel
theorem d_RU_dropEmpty_44 : decode b_RU_dropEmpty 44 = .ok (.iastore, 1) := by decide +kernel
theorem d_RU_dropEmpty_45 : decode b_RU_dropEmpty 45 = .ok (.aload_n 0, 1) := by decide +kernel
theorem d_RU_dropEmpty_46 : decode b_RU_dropEmpty 46 = .ok (.getfield 18, 3) := by decide +kernel
theorem d_RU_dropEmpty_49 : decode b_RU_dropEmpty 49 = .ok (.iload_n 1, 1) := by decide +kernel
theorem d_RU_dropEmpty_50 : decode b_RU_dropEmpty 50 = .ok (.aload_n 0, 1) := by decide +kernel
theorem d_RU_dropEmpty_51 : decode b_RU_dropEmpty 51 = .ok (.getfield 18, 3) := by decide +kernel
theorem d_RU_dropEmpty_54 : decode b_RU_dropEmpty 54 = .ok (.iload_n 2, 1) := by decide +kernel
theorem d_RU_dropEmpty_55 : decode b_RU_dropEmpty 55 = .ok (.iaload, 1) := by decide +kernel
theorem d_RU_dropEmpty_56 : decode b_RU_dropEmpty 56 = .ok (.iastore, 1) := by decide +kernel
theorem d_RU_dropEmpty_57 : decode b_RU_dropEmpty 57 = .ok (.aload_n 0, 1) := by decide +kernel
theorem d_RU_dropEmpty_58 : decode b_RU_dropEmpty 58 = .ok (.getfield 21, 3) := by decide +kernel
theorem d_RU_dropEmpty_61 : decode b_RU_dropEmpty 61 = .ok (.iload_n 1, 1) := by decide +kernel
theorem d_RU_dropEmpty_62 : decode b_RU_dropEmpty 62 = .ok (.aload_n 0, 1) := by decide +kernel
theorem d_RU_dropEmpty_63 : decode b_RU_dropEmpty 63 = .ok (.getfield 21, 3) := by decide +kernel
theorem d_RU_dropEmpty_66 : decode b_RU_dropEmpty 66 = .ok (.iload_n 2, 1) := by decide +kernel
theorem d_RU_dropEmpty_67 : decode b_RU_dropEmpty 67 = .ok (.iaload, 1) := by decide +kernel
theorem d_RU_dropEmpty_68 : decode b_RU_dropEmpty 68 = .ok (.iastore, 1) := by decide +kernel
theorem d_RU_dropEmpty_69 : decode b_RU_dropEmpty 69 = .ok (.aload_n 0, 1) := by decide +kernel
theorem d_RU_dropEmpty_70 : decode b_RU_dropEmpty 70 = .ok (.getfield 24, 3) := by decide +kernel
theorem d_RU_dropEmpty_73 : decode b_RU_dropEmpty 73 = .ok (.iload_n 1, 1) := by decide +kernel
theorem d_RU_dropEmpty_74 : decode b_RU_dropEmpty 74 = .ok (.aload_n 0, 1) := by decide +kernel
theorem d_RU_dropEmpty_75 : decode b_RU_dropEmpty 75 = .ok (.getfield 24, 3) := by decide +kernel
theorem d_RU_dropEmpty_78 : decode b_RU_dropEmpty 78 = .ok (.iload_n 2, 1) := by decide +kernel
theorem d_RU_dropEmpty_79 : decode b_RU_dropEmpty 79 = .ok (.iaload, 1) := by decide +kernel
theorem d_RU_dropEmpty_80 : decode b_RU_dropEmpty 80 = .ok (.iastore, 1) := by decide +kernel
theorem d_RU_dropEmpty_81 : decode b_RU_dropEmpty 81 = .ok (.iinc 1 1, 3) := by decide +kernel
theorem d_RU_dropEmpty_84 : decode b_RU_dropEmpty 84 = .ok (.iinc 2 1, 3) := by decide +kernel
theorem d_RU_dropEmpty_87 : decode b_RU_dropEmpty 87 = .ok (.goto (-83), 3) := by decide +kernel
theorem d_RU_dropEmpty_90 : decode b_RU_dropEmpty 90 = .ok (.aload_n 0, 1) := by decide +kernel
theorem d_RU_dropEmpty_91 : decode b_RU_dropEmpty 91 = .ok (.iload_n 1, 1) := by decide +kernel
theorem d_RU_dropEmpty_92 : decode b_RU_dropEmpty 92 = .ok (.putfield 35, 3) := by decide +kernel
theorem d_RU_dropEmpty_95 : decode b_RU_dropEmpty 95 = .ok (.return_, 1) := by decide +kernel
theorem d_RU_headOf_0 : decode b_RU_headOf 0 = .ok (.aload_n 0, 1) := by decide +kernel
theorem d_RU_headOf_1 : decode b_RU_headOf 1 = .ok (.iload_n 1, 1) := by decide +kernel
theorem d_RU_headOf_2 : decode b_RU_headOf 2 = .ok (.invokevirtual 45, 3) := by decide +kernel
theorem d_RU_headOf_5 : decode b_RU_headOf 5 = .ok (.ifCond .eq 12, 3) := by decide +kernel
theorem d_RU_headOf_8 : decode b_RU_headOf 8 = .ok (.aload_n 0, 1) := by decide +kernel
theorem d_RU_headOf_9 : decode b_RU_headOf 9 = .ok (.getfield 24, 3) := by decide +kernel
theorem d_RU_headOf_12 : decode b_RU_headOf 12 = .ok (.iload_n 1, 1) := by decide +kernel
theorem d_RU_headOf_13 : decode b_RU_headOf 13 = .ok (.iaload, 1) := by decide +kernel
theorem d_RU_headOf_14 : decode b_RU_headOf 14 = .ok (.goto 4, 3) := by decide +kernel
theorem d_RU_headOf_17 : decode b_RU_headOf 17 = .ok (.iconst (-1), 1) := by decide +kernel
theorem d_RU_headOf_18 : decode b_RU_headOf 18 = .ok (.ireturn, 1) := by decide +kernel
theorem d_RU_leastAt_0 : decode b_RU_leastAt 0 = .ok (.iconst (-1), 1) := by decide +kernel
theorem d_RU_leastAt_1 : decode b_RU_leastAt 1 = .ok (.istore_n 2, 1) := by decide +kernel
theorem d_RU_leastAt_2 : decode b_RU_leastAt 2 = .ok (.iconst 0, 1) := by decide +kernel
theorem d_RU_leastAt_3 : decode b_RU_leastAt 3 = .ok (.istore_n 3, 1) := by decide +kernel
theorem d_RU_leastAt_4 : decode b_RU_leastAt 4 = .ok (.iload_n 3, 1) := by decide +kernel
theorem d_RU_leastAt_5 : decode b_RU_leastAt 5 = .ok (.aload_n 0, 1) := by decide +kernel
theorem d_RU_leastAt_6 : decode b_RU_leastAt 6 = .ok (.getfield 35, 3) := by decide +kernel
theorem d_RU_leastAt_9 : decode b_RU_leastAt 9 = .ok (.if_icmp .ge 64, 3) := by decide +kernel
theorem d_RU_leastAt_12 : decode b_RU_leastAt 12 = .ok (.aload_n 0, 1) := by decide +kernel
theorem d_RU_leastAt_13 : decode b_RU_leastAt 13 = .ok (.getfield 18, 3) := by decide +kernel
theorem d_RU_leastAt_16 : decode b_RU_leastAt 16 = .ok (.iload_n 3, 1) := by decide +kernel
theorem d_RU_leastAt_17 : decode b_RU_leastAt 17 = .ok (.iaload, 1) := by decide +kernel
theorem d_RU_leastAt_18 : decode b_RU_leastAt 18 = .ok (.ifCond .le 20, 3) := by decide +kernel
theorem d_RU_leastAt_21 : decode b_RU_leastAt 21 = .ok (.aload_n 0, 1) := by decide +kernel
theorem d_RU_leastAt_22 : decode b_RU_leastAt 22 = .ok (.getfield 27, 3) := by decide +kernel
theorem d_RU_leastAt_25 : decode b_RU_leastAt 25 = .ok (.iload_n 3, 1) := by decide +kernel
theorem d_RU_leastAt_26 : decode b_RU_leastAt 26 = .ok (.baload, 1) := by decide +kernel
theorem d_RU_leastAt_27 : decode b_RU_leastAt 27 = .ok (.ifCond .ne 7, 3) := by decide +kernel
theorem d_RU_leastAt_30 : decode b_RU_leastAt 30 = .ok (.iload_n 1, 1) := by decide +kernel
theorem d_RU_leastAt_31 : decode b_RU_leastAt 31 = .ok (.ifCond .ne 7, 3) := by decide +kernel
theorem d_RU_leastAt_34 : decode b_RU_leastAt 34 = .ok (.iconst 1, 1) := by decide +kernel
theorem d_RU_leastAt_35 : decode b_RU_leastAt 35 = .ok (.goto 4, 3) := by decide +kernel
theorem d_RU_leastAt_38 : decode b_RU_leastAt 38 = .ok (.iconst 0, 1) := by decide +kernel
theorem d_RU_leastAt_39 : decode b_RU_leastAt 39 = .ok (.istore 4, 2) := by decide +kernel
theorem d_RU_leastAt_41 : decode b_RU_leastAt 41 = .ok (.iload 4, 2) := by decide +kernel
theorem d_RU_leastAt_43 : decode b_RU_leastAt 43 = .ok (.ifCond .eq 24, 3) := by decide +kernel
theorem d_RU_leastAt_46 : decode b_RU_leastAt 46 = .ok (.iload_n 2, 1) := by decide +kernel
theorem d_RU_leastAt_47 : decode b_RU_leastAt 47 = .ok (.ifCond .lt 18, 3) := by decide +kernel
theorem d_RU_leastAt_50 : decode b_RU_leastAt 50 = .ok (.aload_n 0, 1) := by decide +kernel
theorem d_RU_leastAt_51 : decode b_RU_leastAt 51 = .ok (.getfield 24, 3) := by decide +kernel
theorem d_RU_leastAt_54 : decode b_RU_leastAt 54 = .ok (.iload_n 3, 1) := by decide +kernel
theorem d_RU_leastAt_55 : decode b_RU_leastAt 55 = .ok (.iaload, 1) := by decide +kernel
theorem d_RU_leastAt_56 : decode b_RU_leastAt 56 = .ok (.aload_n 0, 1) := by decide +kernel
theorem d_RU_leastAt_57 : decode b_RU_leastAt 57 = .ok (.getfield 24, 3) := by decide +kernel
theorem d_RU_leastAt_60 : decode b_RU_leastAt 60 = .ok (.iload_n 2, 1) := by decide +kernel
theorem d_RU_leastAt_61 : decode b_RU_leastAt 61 = .ok (.iaload, 1) := by decide +kernel
theorem d_RU_leastAt_62 : decode b_RU_leastAt 62 = .ok (.if_icmp .ge 5, 3) := by decide +kernel
theorem d_RU_leastAt_65 : decode b_RU_leastAt 65 = .ok (.iload_n 3, 1) := by decide +kernel
theorem d_RU_leastAt_66 : decode b_RU_leastAt 66 = .ok (.istore_n 2, 1) := by decide +kernel
theorem d_RU_leastAt_67 : decode b_RU_leastAt 67 = .ok (.iinc 3 1, 3) := by decide +kernel
theorem d_RU_leastAt_70 : decode b_RU_leastAt 70 = .ok (.goto (-66), 3) := by decide +kernel
theorem d_RU_leastAt_73 : decode b_RU_leastAt 73 = .ok (.iload_n 2, 1) := by decide +kernel
theorem d_RU_leastAt_74 : decode b_RU_leastAt 74 = .ok (.ireturn, 1) := by decide +kernel
theorem d_RU_takeFrom_0 : decode b_RU_takeFrom 0 = .ok (.aload_n 0, 1) := by decide +kernel
theorem d_RU_takeFrom_1 : decode b_RU_takeFrom 1 = .ok (.iload_n 1, 1) := by decide +kernel
theorem d_RU_takeFrom_2 : decode b_RU_takeFrom 2 = .ok (.invokevirtual 45, 3) := by decide +kernel
theorem d_RU_takeFrom_5 : decode b_RU_takeFrom 5 = .ok (.ifCond .ne 5, 3) := by decide +kernel
theorem d_RU_takeFrom_8 : decode b_RU_takeFrom 8 = .ok (.iconst (-1), 1) := by decide +kernel
theorem d_RU_takeFrom_9 : decode b_RU_takeFrom 9 = .ok (.ireturn, 1) := by decide +kernel
theorem d_RU_takeFrom_10 : decode b_RU_takeFrom 10 = .ok (.aload_n 0, 1) := by decide +kernel
theorem d_RU_takeFrom_11 : decode b_RU_takeFrom 11 = .ok (.getfield 24, 3) := by decide +kernel
theorem d_RU_takeFrom_14 : decode b_RU_takeFrom 14 = .ok (.iload_n 1, 1) := by decide +kernel
theorem d_RU_takeFrom_15 : decode b_RU_takeFrom 15 = .ok (.iaload, 1) := by decide +kernel
end
section
theorem d_RU_takeFrom_16 : decode b_RU_takeFrom 16 = .ok (.istore_n 2, 1) := by decide +kernel
theorem d_RU_takeFrom_17 : decode b_RU_takeFrom 17 = .ok (.aload_n 0, 1) := by decide +kernel
theorem d_RU_takeFrom_18 : decode b_RU_takeFrom 18 = .ok (.getfield 15, 3) := by decide +kernel
theorem d_RU_takeFrom_21 : decode b_RU_takeFrom 21 = .ok (.iload_n 1, 1) := by decide +kernel
theorem d_RU_takeFrom_22 : decode b_RU_takeFrom 22 = .ok (.dup2, 1) := by decide +kernel
theorem d_RU_takeFrom_23 : decode b_RU_takeFrom 23 = .ok (.iaload, 1) := by decide +kernel
theorem d_RU_takeFrom_24 : decode b_RU_takeFrom 24 = .ok (.iconst 1, 1) := by decide +kernel
theorem d_RU_takeFrom_25 : decode b_RU_takeFrom 25 = .ok (.iadd, 1) := by decide +kernel
theorem d_RU_takeFrom_26 : decode b_RU_takeFrom 26 = .ok (.iastore, 1) := by decide +kernel
theorem d_RU_takeFrom_27 : decode b_RU_takeFrom 27 = .ok (.aload_n 0, 1) := by decide +kernel
theorem d_RU_takeFrom_28 : decode b_RU_takeFrom 28 = .ok (.getfield 18, 3) := by decide +kernel
theorem d_RU_takeFrom_31 : decode b_RU_takeFrom 31 = .ok (.iload_n 1, 1) := by decide +kernel
theorem d_RU_takeFrom_32 : decode b_RU_takeFrom 32 = .ok (.dup2, 1) := by decide +kernel
theorem d_RU_takeFrom_33 : decode b_RU_takeFrom 33 = .ok (.iaload, 1) := by decide +kernel
theorem d_RU_takeFrom_34 : decode b_RU_takeFrom 34 = .ok (.iconst 1, 1) := by decide +kernel
theorem d_RU_takeFrom_35 : decode b_RU_takeFrom 35 = .ok (.isub, 1) := by decide +kernel
theorem d_RU_takeFrom_36 : decode b_RU_takeFrom 36 = .ok (.iastore, 1) := by decide +kernel
theorem d_RU_takeFrom_37 : decode b_RU_takeFrom 37 = .ok (.aload_n 0, 1) := by decide +kernel
theorem d_RU_takeFrom_38 : decode b_RU_takeFrom 38 = .ok (.getfield 18, 3) := by decide +kernel
theorem d_RU_takeFrom_41 : decode b_RU_takeFrom 41 = .ok (.iload_n 1, 1) := by decide +kernel
theorem d_RU_takeFrom_42 : decode b_RU_takeFrom 42 = .ok (.iaload, 1) := by decide +kernel
theorem d_RU_takeFrom_43 : decode b_RU_takeFrom 43 = .ok (.ifCond .le 46, 3) := by decide +kernel
theorem d_RU_takeFrom_46 : decode b_RU_takeFrom 46 = .ok (.aload_n 0, 1) := by decide +kernel
theorem d_RU_takeFrom_47 : decode b_RU_takeFrom 47 = .ok (.getfield 15, 3) := by decide +kernel
theorem d_RU_takeFrom_50 : decode b_RU_takeFrom 50 = .ok (.iload_n 1, 1) := by decide +kernel
theorem d_RU_takeFrom_51 : decode b_RU_takeFrom 51 = .ok (.iaload, 1) := by decide +kernel
theorem d_RU_takeFrom_52 : decode b_RU_takeFrom 52 = .ok (.aload_n 0, 1) := by decide +kernel
theorem d_RU_takeFrom_53 : decode b_RU_takeFrom 53 = .ok (.getfield 31, 3) := by decide +kernel
theorem d_RU_takeFrom_56 : decode b_RU_takeFrom 56 = .ok (.invokevirtual 49, 3) := by decide +kernel
theorem d_RU_takeFrom_59 : decode b_RU_takeFrom 59 = .ok (.if_icmp .lt 30, 3) := by decide +kernel
theorem d_RU_takeFrom_62 : decode b_RU_takeFrom 62 = .ok (.aload_n 0, 1) := by decide +kernel
theorem d_RU_takeFrom_63 : decode b_RU_takeFrom 63 = .ok (.getfield 9, 3) := by decide +kernel
theorem d_RU_takeFrom_66 : decode b_RU_takeFrom 66 = .ok (.iload_n 1, 1) := by decide +kernel
theorem d_RU_takeFrom_67 : decode b_RU_takeFrom 67 = .ok (.aload_n 0, 1) := by decide +kernel
theorem d_RU_takeFrom_68 : decode b_RU_takeFrom 68 = .ok (.getfield 31, 3) := by decide +kernel
theorem d_RU_takeFrom_71 : decode b_RU_takeFrom 71 = .ok (.aload_n 0, 1) := by decide +kernel
theorem d_RU_takeFrom_72 : decode b_RU_takeFrom 72 = .ok (.getfield 9, 3) := by decide +kernel
theorem d_RU_takeFrom_75 : decode b_RU_takeFrom 75 = .ok (.iload_n 1, 1) := by decide +kernel
theorem d_RU_takeFrom_76 : decode b_RU_takeFrom 76 = .ok (.iaload, 1) := by decide +kernel
theorem d_RU_takeFrom_77 : decode b_RU_takeFrom 77 = .ok (.iconst 1, 1) := by decide +kernel
theorem d_RU_takeFrom_78 : decode b_RU_takeFrom 78 = .ok (.invokevirtual 39, 3) := by decide +kernel
theorem d_RU_takeFrom_81 : decode b_RU_takeFrom 81 = .ok (.iastore, 1) := by decide +kernel
theorem d_RU_takeFrom_82 : decode b_RU_takeFrom 82 = .ok (.aload_n 0, 1) := by decide +kernel
theorem d_RU_takeFrom_83 : decode b_RU_takeFrom 83 = .ok (.getfield 15, 3) := by decide +kernel
theorem d_RU_takeFrom_86 : decode b_RU_takeFrom 86 = .ok (.iload_n 1, 1) := by decide +kernel
theorem d_RU_takeFrom_87 : decode b_RU_takeFrom 87 = .ok (.iconst 0, 1) := by decide +kernel
theorem d_RU_takeFrom_88 : decode b_RU_takeFrom 88 = .ok (.iastore, 1) := by decide +kernel
theorem d_RU_takeFrom_89 : decode b_RU_takeFrom 89 = .ok (.aload_n 0, 1) := by decide +kernel
theorem d_RU_takeFrom_90 : decode b_RU_takeFrom 90 = .ok (.getfield 24, 3) := by decide +kernel
theorem d_RU_takeFrom_93 : decode b_RU_takeFrom 93 = .ok (.iload_n 1, 1) := by decide +kernel
theorem d_RU_takeFrom_94 : decode b_RU_takeFrom 94 = .ok (.aload_n 0, 1) := by decide +kernel
theorem d_RU_takeFrom_95 : decode b_RU_takeFrom 95 = .ok (.getfield 31, 3) := by decide +kernel
theorem d_RU_takeFrom_98 : decode b_RU_takeFrom 98 = .ok (.aload_n 0, 1) := by decide +kernel
theorem d_RU_takeFrom_99 : decode b_RU_takeFrom 99 = .ok (.getfield 9, 3) := by decide +kernel
theorem d_RU_takeFrom_102 : decode b_RU_takeFrom 102 = .ok (.iload_n 1, 1) := by decide +kernel
theorem d_RU_takeFrom_103 : decode b_RU_takeFrom 103 = .ok (.iaload, 1) := by decide +kernel
theorem d_RU_takeFrom_104 : decode b_RU_takeFrom 104 = .ok (.iconst 2, 1) := by decide +kernel
theorem d_RU_takeFrom_105 : decode b_RU_takeFrom 105 = .ok (.aload_n 0, 1) := by decide +kernel
theorem d_RU_takeFrom_106 : decode b_RU_takeFrom 106 = .ok (.getfield 15, 3) := by decide +kernel
theorem d_RU_takeFrom_109 : decode b_RU_takeFrom 109 = .ok (.iload_n 1, 1) := by decide +kernel
theorem d_RU_takeFrom_110 : decode b_RU_takeFrom 110 = .ok (.iaload, 1) := by decide +kernel
theorem d_RU_takeFrom_111 : decode b_RU_takeFrom 111 = .ok (.iadd, 1) := by decide +kernel
theorem d_RU_takeFrom_112 : decode b_RU_takeFrom 112 = .ok (.invokevirtual 39, 3) := by decide +kernel
theorem d_RU_takeFrom_115 : decode b_RU_takeFrom 115 = .ok (.iastore, 1) := by decide +kernel
theorem d_RU_takeFrom_116 : decode b_RU_takeFrom 116 = .ok (.iload_n 2, 1) := by decide +kernel
theorem d_RU_takeFrom_117 : decode b_RU_takeFrom 117 = .ok (.ireturn, 1) := by decide +kernel
theorem d_RU_keysInAll_0 : decode b_RU_keysInAll 0 = .ok (.iconst 0, 1) := by decide +kernel
theorem d_RU_keysInAll_1 : decode b_RU_keysInAll 1 = .ok (.istore_n 1, 1) := by decide +kernel
theorem d_RU_keysInAll_2 : decode b_RU_keysInAll 2 = .ok (.iconst 0, 1) := by decide +kernel
theorem d_RU_keysInAll_3 : decode b_RU_keysInAll 3 = .ok (.istore_n 2, 1) := by decide +kernel
theorem d_RU_keysInAll_4 : decode b_RU_keysInAll 4 = .ok (.iload_n 2, 1) := by decide +kernel
theorem d_RU_keysInAll_5 : decode b_RU_keysInAll 5 = .ok (.aload_n 0, 1) := by decide +kernel
theorem d_RU_keysInAll_6 : decode b_RU_keysInAll 6 = .ok (.getfield 35, 3) := by decide +kernel
theorem d_RU_keysInAll_9 : decode b_RU_keysInAll 9 = .ok (.if_icmp .ge 18, 3) := by decide +kernel
theorem d_RU_keysInAll_12 : decode b_RU_keysInAll 12 = .ok (.iload_n 1, 1) := by decide +kernel
theorem d_RU_keysInAll_13 : decode b_RU_keysInAll 13 = .ok (.aload_n 0, 1) := by decide +kernel
theorem d_RU_keysInAll_14 : decode b_RU_keysInAll 14 = .ok (.getfield 18, 3) := by decide +kernel
theorem d_RU_keysInAll_17 : decode b_RU_keysInAll 17 = .ok (.iload_n 2, 1) := by decide +kernel
theorem d_RU_keysInAll_18 : decode b_RU_keysInAll 18 = .ok (.iaload, 1) := by decide +kernel
theorem d_RU_keysInAll_19 : decode b_RU_keysInAll 19 = .ok (.iadd, 1) := by decide +kernel
theorem d_RU_keysInAll_20 : decode b_RU_keysInAll 20 = .ok (.istore_n 1, 1) := by decide +kernel
theorem d_RU_keysInAll_21 : decode b_RU_keysInAll 21 = .ok (.iinc 2 1, 3) := by decide +kernel
theorem d_RU_keysInAll_24 : decode b_RU_keysInAll 24 = .ok (.goto (-20), 3) := by decide +kernel
theorem d_RU_keysInAll_27 : decode b_RU_keysInAll 27 = .ok (.iload_n 1, 1) := by decide +kernel
theorem d_RU_keysInAll_28 : decode b_RU_keysInAll 28 = .ok (.ireturn, 1) := by decide +kernel
theorem d_RU_markBlocks_0 : decode b_RU_markBlocks 0 = .ok (.iconst 0, 1) := by decide +kernel
theorem d_RU_markBlocks_1 : decode b_RU_markBlocks 1 = .ok (.istore_n 2, 1) := by decide +kernel
theorem d_RU_markBlocks_2 : decode b_RU_markBlocks 2 = .ok (.iload_n 2, 1) := by decide +kernel
theorem d_RU_markBlocks_3 : decode b_RU_markBlocks 3 = .ok (.aload_n 0, 1) := by decide +kernel
theorem d_RU_markBlocks_4 : decode b_RU_markBlocks 4 = .ok (.getfield 35, 3) := by decide +kernel
theorem d_RU_markBlocks_7 : decode b_RU_markBlocks 7 = .ok (.if_icmp .ge 53, 3) := by decide +kernel
theorem d_RU_markBlocks_10 : decode b_RU_markBlocks 10 = .ok (.aload_n 0, 1) := by decide +kernel
theorem d_RU_markBlocks_11 : decode b_RU_markBlocks 11 = .ok (.getfield 9, 3) := by decide +kernel
theorem d_RU_markBlocks_14 : decode b_RU_markBlocks 14 = .ok (.iload_n 2, 1) := by decide +kernel
theorem d_RU_markBlocks_15 : decode b_RU_markBlocks 15 = .ok (.iaload, 1) := by decide +kernel
theorem d_RU_markBlocks_16 : decode b_RU_markBlocks 16 = .ok (.istore_n 3, 1) := by decide +kernel
theorem d_RU_markBlocks_17 : decode b_RU_markBlocks 17 = .ok (.iconst 0, 1) := by decide +kernel
theorem d_RU_markBlocks_18 : decode b_RU_markBlocks 18 = .ok (.istore 4, 2) := by decide +kernel
theorem d_RU_markBlocks_20 : decode b_RU_markBlocks 20 = .ok (.iload 4, 2) := by decide +kernel
theorem d_RU_markBlocks_22 : decode b_RU_markBlocks 22 = .ok (.sipush 200, 3) := by decide +kernel
theorem d_RU_markBlocks_25 : decode b_RU_markBlocks 25 = .ok (.if_icmp .ge 29, 3) := by decide +kernel
theorem d_RU_markBlocks_28 : decode b_RU_markBlocks 28 = .ok (.iload_n 3, 1) := by decide +kernel
theorem d_RU_markBlocks_29 : decode b_RU_markBlocks 29 = .ok (.iconst 2, 1) := by decide +kernel
theorem d_RU_markBlocks_30 : decode b_RU_markBlocks 30 = .ok (.if_icmp .lt 24, 3) := by decide +kernel
theorem d_RU_markBlocks_33 : decode b_RU_markBlocks 33 = .ok (.aload_n 1, 1) := by decide +kernel
theorem d_RU_markBlocks_34 : decode b_RU_markBlocks 34 = .ok (.iload_n 3, 1) := by decide +kernel
theorem d_RU_markBlocks_35 : decode b_RU_markBlocks 35 = .ok (.invokevirtual 53, 3) := by decide +kernel
theorem d_RU_markBlocks_38 : decode b_RU_markBlocks 38 = .ok (.aload_n 0, 1) := by decide +kernel
theorem d_RU_markBlocks_39 : decode b_RU_markBlocks 39 = .ok (.getfield 31, 3) := by decide +kernel
theorem d_RU_markBlocks_42 : decode b_RU_markBlocks 42 = .ok (.iload_n 3, 1) := by decide +kernel
theorem d_RU_markBlocks_43 : decode b_RU_markBlocks 43 = .ok (.iconst 1, 1) := by decide +kernel
theorem d_RU_markBlocks_44 : decode b_RU_markBlocks 44 = .ok (.invokevirtual 39, 3) := by decide +kernel
theorem d_RU_markBlocks_47 : decode b_RU_markBlocks 47 = .ok (.istore_n 3, 1) := by decide +kernel
theorem d_RU_markBlocks_48 : decode b_RU_markBlocks 48 = .ok (.iinc 4 1, 3) := by decide +kernel
theorem d_RU_markBlocks_51 : decode b_RU_markBlocks 51 = .ok (.goto (-31), 3) := by decide +kernel
theorem d_RU_markBlocks_54 : decode b_RU_markBlocks 54 = .ok (.iinc 2 1, 3) := by decide +kernel
theorem d_RU_markBlocks_57 : decode b_RU_markBlocks 57 = .ok (.goto (-55), 3) := by decide +kernel
theorem d_RU_markBlocks_60 : decode b_RU_markBlocks 60 = .ok (.return_, 1) := by decide +kernel
theorem d_RU_greatestLevel_0 : decode b_RU_greatestLevel 0 = .ok (.aload_n 0, 1) := by decide +kernel
theorem d_RU_greatestLevel_1 : decode b_RU_greatestLevel 1 = .ok (.getfield 21, 3) := by decide +kernel
theorem d_RU_greatestLevel_4 : decode b_RU_greatestLevel 4 = .ok (.iconst 0, 1) := by decide +kernel
theorem d_RU_greatestLevel_5 : decode b_RU_greatestLevel 5 = .ok (.iaload, 1) := by decide +kernel
theorem d_RU_greatestLevel_6 : decode b_RU_greatestLevel 6 = .ok (.istore_n 1, 1) := by decide +kernel
theorem d_RU_greatestLevel_7 : decode b_RU_greatestLevel 7 = .ok (.iconst 1, 1) := by decide +kernel
theorem d_RU_greatestLevel_8 : decode b_RU_greatestLevel 8 = .ok (.istore_n 2, 1) := by decide +kernel
theorem d_RU_greatestLevel_9 : decode b_RU_greatestLevel 9 = .ok (.iload_n 2, 1) := by decide +kernel
theorem d_RU_greatestLevel_10 : decode b_RU_greatestLevel 10 = .ok (.aload_n 0, 1) := by decide +kernel
theorem d_RU_greatestLevel_11 : decode b_RU_greatestLevel 11 = .ok (.getfield 35, 3) := by decide +kernel
theorem d_RU_greatestLevel_14 : decode b_RU_greatestLevel 14 = .ok (.if_icmp .ge 20, 3) := by decide +kernel
theorem d_RU_greatestLevel_17 : decode b_RU_greatestLevel 17 = .ok (.iload_n 1, 1) := by decide +kernel
theorem d_RU_greatestLevel_18 : decode b_RU_greatestLevel 18 = .ok (.aload_n 0, 1) := by decide +kernel
theorem d_RU_greatestLevel_19 : decode b_RU_greatestLevel 19 = .ok (.getfield 21, 3) := by decide +kernel
theorem d_RU_greatestLevel_22 : decode b_RU_greatestLevel 22 = .ok (.iload_n 2, 1) := by decide +kernel
theorem d_RU_greatestLevel_23 : decode b_RU_greatestLevel 23 = .ok (.iaload, 1) := by decide +kernel
theorem d_RU_greatestLevel_24 : decode b_RU_greatestLevel 24 = .ok (.invokestatic 59, 3) := by decide +kernel
theorem d_RU_greatestLevel_27 : decode b_RU_greatestLevel 27 = .ok (.istore_n 1, 1) := by decide +kernel
theorem d_RU_greatestLevel_28 : decode b_RU_greatestLevel 28 = .ok (.iinc 2 1, 3) := by decide +kernel
theorem d_RU_greatestLevel_31 : decode b_RU_greatestLevel 31 = .ok (.goto (-22), 3) := by decide +kernel
theorem d_RU_greatestLevel_34 : decode b_RU_greatestLevel 34 = .ok (.iload_n 1, 1) := by decide +kernel
theorem d_RU_greatestLevel_35 : decode b_RU_greatestLevel 35 = .ok (.ireturn, 1) := by decide +kernel
theorem d_RU_crowdedAt_0 : decode b_RU_crowdedAt 0 = .ok (.iconst (-1), 1) := by decide +kernel
theorem d_RU_crowdedAt_1 : decode b_RU_crowdedAt 1 = .ok (.istore_n 2, 1) := by decide +kernel
theorem d_RU_crowdedAt_2 : decode b_RU_crowdedAt 2 = .ok (.iconst 0, 1) := by decide +kernel
theorem d_RU_crowdedAt_3 : decode b_RU_crowdedAt 3 = .ok (.istore_n 3, 1) := by decide +kernel
theorem d_RU_crowdedAt_4 : decode b_RU_crowdedAt 4 = .ok (.iload_n 3, 1) := by decide +kernel
theorem d_RU_crowdedAt_5 : decode b_RU_crowdedAt 5 = .ok (.aload_n 0, 1) := by decide +kernel
theorem d_RU_crowdedAt_6 : decode b_RU_crowdedAt 6 = .ok (.getfield 35, 3) := by decide +kernel
theorem d_RU_crowdedAt_9 : decode b_RU_crowdedAt 9 = .ok (.if_icmp .ge 39, 3) := by decide +kernel
theorem d_RU_crowdedAt_12 : decode b_RU_crowdedAt 12 = .ok (.aload_n 0, 1) := by decide +kernel
theorem d_RU_crowdedAt_13 : decode b_RU_crowdedAt 13 = .ok (.iload_n 3, 1) := by decide +kernel
theorem d_RU_crowdedAt_14 : decode b_RU_crowdedAt 14 = .ok (.invokevirtual 64, 3) := by decide +kernel
theorem d_RU_crowdedAt_17 : decode b_RU_crowdedAt 17 = .ok (.iload_n 1, 1) := by decide +kernel
theorem d_RU_crowdedAt_18 : decode b_RU_crowdedAt 18 = .ok (.if_icmp .lt 24, 3) := by decide +kernel
theorem d_RU_crowdedAt_21 : decode b_RU_crowdedAt 21 = .ok (.iload_n 2, 1) := by decide +kernel
theorem d_RU_crowdedAt_22 : decode b_RU_crowdedAt 22 = .ok (.ifCond .lt 18, 3) := by decide +kernel
theorem d_RU_crowdedAt_25 : decode b_RU_crowdedAt 25 = .ok (.aload_n 0, 1) := by decide +kernel
theorem d_RU_crowdedAt_26 : decode b_RU_crowdedAt 26 = .ok (.getfield 21, 3) := by decide +kernel
theorem d_RU_crowdedAt_29 : decode b_RU_crowdedAt 29 = .ok (.iload_n 3, 1) := by decide +kernel
theorem d_RU_crowdedAt_30 : decode b_RU_crowdedAt 30 = .ok (.iaload, 1) := by decide +kernel
theorem d_RU_crowdedAt_31 : decode b_RU_crowdedAt 31 = .ok (.aload_n 0, 1) := by decide +kernel
theorem d_RU_crowdedAt_32 : decode b_RU_crowdedAt 32 = .ok (.getfield 21, 3) := by decide +kernel
theorem d_RU_crowdedAt_35 : decode b_RU_crowdedAt 35 = .ok (.iload_n 2, 1) := by decide +kernel
theorem d_RU_crowdedAt_36 : decode b_RU_crowdedAt 36 = .ok (.iaload, 1) := by decide +kernel
theorem d_RU_crowdedAt_37 : decode b_RU_crowdedAt 37 = .ok (.if_icmp .ge 5, 3) := by decide +kernel
theorem d_RU_crowdedAt_40 : decode b_RU_crowdedAt 40 = .ok (.iload_n 3, 1) := by decide +kernel
theorem d_RU_crowdedAt_41 : decode b_RU_crowdedAt 41 = .ok (.istore_n 2, 1) := by decide +kernel
theorem d_RU_crowdedAt_42 : decode b_RU_crowdedAt 42 = .ok (.iinc 3 1, 3) := by decide +kernel
theorem d_RU_crowdedAt_45 : decode b_RU_crowdedAt 45 = .ok (.goto (-41), 3) := by decide +kernel
theorem d_RU_crowdedAt_48 : decode b_RU_crowdedAt 48 = .ok (.iload_n 2, 1) := by decide +kernel
theorem d_RU_crowdedAt_49 : decode b_RU_crowdedAt 49 = .ok (.ireturn, 1) := by decide +kernel
theorem d_RU_runsAtLevelOf_0 : decode b_RU_runsAtLevelOf 0 = .ok (.iconst 0, 1) := by decide +kernel
theorem d_RU_runsAtLevelOf_1 : decode b_RU_runsAtLevelOf 1 = .ok (.istore_n 2, 1) := by decide +kernel
theorem d_RU_runsAtLevelOf_2 : decode b_RU_runsAtLevelOf 2 = .ok (.iconst 0, 1) := by decide +kernel
theorem d_RU_runsAtLevelOf_3 : decode b_RU_runsAtLevelOf 3 = .ok (.istore_n 3, 1) := by decide +kernel
theorem d_RU_runsAtLevelOf_4 : decode b_RU_runsAtLevelOf 4 = .ok (.iload_n 3, 1) := by decide +kernel
theorem d_RU_runsAtLevelOf_5 : decode b_RU_runsAtLevelOf 5 = .ok (.aload_n 0, 1) := by decide +kernel
theorem d_RU_runsAtLevelOf_6 : decode b_RU_runsAtLevelOf 6 = .ok (.getfield 35, 3) := by decide +kernel
theorem d_RU_runsAtLevelOf_9 : decode b_RU_runsAtLevelOf 9 = .ok (.if_icmp .ge 27, 3) := by decide +kernel
theorem d_RU_runsAtLevelOf_12 : decode b_RU_runsAtLevelOf 12 = .ok (.aload_n 0, 1) := by decide +kernel
theorem d_RU_runsAtLevelOf_13 : decode b_RU_runsAtLevelOf 13 = .ok (.getfield 21, 3) := by decide +kernel
theorem d_RU_runsAtLevelOf_16 : decode b_RU_runsAtLevelOf 16 = .ok (.iload_n 3, 1) := by decide +kernel
theorem d_RU_runsAtLevelOf_17 : decode b_RU_runsAtLevelOf 17 = .ok (.iaload, 1) := by decide +kernel
theorem d_RU_runsAtLevelOf_18 : decode b_RU_runsAtLevelOf 18 = .ok (.aload_n 0, 1) := by decide +kernel
theorem d_RU_runsAtLevelOf_19 : decode b_RU_runsAtLevelOf 19 = .ok (.getfield 21, 3) := by decide +kernel
theorem d_RU_runsAtLevelOf_22 : decode b_RU_runsAtLevelOf 22 = .ok (.iload_n 1, 1) := by decide +kernel
theorem d_RU_runsAtLevelOf_23 : decode b_RU_runsAtLevelOf 23 = .ok (.iaload, 1) := by decide +kernel
theorem d_RU_runsAtLevelOf_24 : decode b_RU_runsAtLevelOf 24 = .ok (.if_icmp .ne 6, 3) := by decide +kernel
theorem d_RU_runsAtLevelOf_27 : decode b_RU_runsAtLevelOf 27 = .ok (.iinc 2 1, 3) := by decide +kernel
theorem d_RU_runsAtLevelOf_30 : decode b_RU_runsAtLevelOf 30 = .ok (.iinc 3 1, 3) := by decide +kernel
theorem d_RU_runsAtLevelOf_33 : decode b_RU_runsAtLevelOf 33 = .ok (.goto (-29), 3) := by decide +kernel
theorem d_RU_runsAtLevelOf_36 : decode b_RU_runsAtLevelOf 36 = .ok (.iload_n 2, 1) := by decide +kernel
theorem d_RU_runsAtLevelOf_37 : decode b_RU_runsAtLevelOf 37 = .ok (.ireturn, 1) := by decide +kernel
theorem d_RU_chooseAll_0 : decode b_RU_chooseAll 0 = .ok (.iconst 0, 1) := by decide +kernel
theorem d_RU_chooseAll_1 : decode b_RU_chooseAll 1 = .ok (.istore_n 1, 1) := by decide +kernel
theorem d_RU_chooseAll_2 : decode b_RU_chooseAll 2 = .ok (.iload_n 1, 1) := by decide +kernel
theorem d_RU_chooseAll_3 : decode b_RU_chooseAll 3 = .ok (.aload_n 0, 1) := by decide +kernel
theorem d_RU_chooseAll_4 : decode b_RU_chooseAll 4 = .ok (.getfield 35, 3) := by decide +kernel
theorem d_RU_chooseAll_7 : decode b_RU_chooseAll 7 = .ok (.if_icmp .ge 16, 3) := by decide +kernel
theorem d_RU_chooseAll_10 : decode b_RU_chooseAll 10 = .ok (.aload_n 0, 1) := by decide +kernel
theorem d_RU_chooseAll_11 : decode b_RU_chooseAll 11 = .ok (.getfield 27, 3) := by decide +kernel
theorem d_RU_chooseAll_14 : decode b_RU_chooseAll 14 = .ok (.iload_n 1, 1) := by decide +kernel
theorem d_RU_chooseAll_15 : decode b_RU_chooseAll 15 = .ok (.iconst 1, 1) := by decide +kernel
theorem d_RU_chooseAll_16 : decode b_RU_chooseAll 16 = .ok (.bastore, 1) := by decide +kernel
theorem d_RU_chooseAll_17 : decode b_RU_chooseAll 17 = .ok (.iinc 1 1, 3) := by decide +kernel
theorem d_RU_chooseAll_20 : decode b_RU_chooseAll 20 = .ok (.goto (-18), 3) := by decide +kernel
theorem d_RU_chooseAll_23 : decode b_RU_chooseAll 23 = .ok (.return_, 1) := by decide +kernel
theorem d_RU_chooseLevel_0 : decode b_RU_chooseLevel 0 = .ok (.iconst 0, 1) := by decide +kernel
theorem d_RU_chooseLevel_1 : decode b_RU_chooseLevel 1 = .ok (.istore_n 2, 1) := by decide +kernel
theorem d_RU_chooseLevel_2 : decode b_RU_chooseLevel 2 = .ok (.iload_n 2, 1) := by decide +kernel
theorem d_RU_chooseLevel_3 : decode b_RU_chooseLevel 3 = .ok (.aload_n 0, 1) := by decide +kernel
theorem d_RU_chooseLevel_4 : decode b_RU_chooseLevel 4 = .ok (.getfield 35, 3) := by decide +kernel
theorem d_RU_chooseLevel_7 : decode b_RU_chooseLevel 7 = .ok (.if_icmp .ge 30, 3) := by decide +kernel
theorem d_RU_chooseLevel_10 : decode b_RU_chooseLevel 10 = .ok (.aload_n 0, 1) := by decide +kernel
theorem d_RU_chooseLevel_11 : decode b_RU_chooseLevel 11 = .ok (.getfield 27, 3) := by decide +kernel
theorem d_RU_chooseLevel_14 : decode b_RU_chooseLevel 14 = .ok (.iload_n 2, 1) := by decide +kernel
theorem d_RU_chooseLevel_15 : decode b_RU_chooseLevel 15 = .ok (.aload_n 0, 1) := by decide +kernel
theorem d_RU_chooseLevel_16 : decode b_RU_chooseLevel 16 = .ok (.getfield 21, 3) := by decide +kernel
theorem d_RU_chooseLevel_19 : decode b_RU_chooseLevel 19 = .ok (.iload_n 2, 1) := by decide +kernel
theorem d_RU_chooseLevel_20 : decode b_RU_chooseLevel 20 = .ok (.iaload, 1) := by decide +kernel
theorem d_RU_chooseLevel_21 : decode b_RU_chooseLevel 21 = .ok (.iload_n 1, 1) := by decide +kernel
theorem d_RU_chooseLevel_22 : decode b_RU_chooseLevel 22 = .ok (.if_icmp .ne 7, 3) := by decide +kernel
theorem d_RU_chooseLevel_25 : decode b_RU_chooseLevel 25 = .ok (.iconst 1, 1) := by decide +kernel
theorem d_RU_chooseLevel_26 : decode b_RU_chooseLevel 26 = .ok (.goto 4, 3) := by decide +kernel
theorem d_RU_chooseLevel_29 : decode b_RU_chooseLevel 29 = .ok (.iconst 0, 1) := by decide +kernel
theorem d_RU_chooseLevel_30 : decode b_RU_chooseLevel 30 = .ok (.bastore, 1) := by decide +kernel
theorem d_RU_chooseLevel_31 : decode b_RU_chooseLevel 31 = .ok (.iinc 2 1, 3) := by decide +kernel
theorem d_RU_chooseLevel_34 : decode b_RU_chooseLevel 34 = .ok (.goto (-32), 3) := by decide +kernel
theorem d_RU_chooseLevel_37 : decode b_RU_chooseLevel 37 = .ok (.return_, 1) := by decide +kernel
theorem d_RU_howMany_0 : decode b_RU_howMany 0 = .ok (.iconst 0, 1) := by decide +kernel
theorem d_RU_howMany_1 : decode b_RU_howMany 1 = .ok (.istore_n 1, 1) := by decide +kernel
theorem d_RU_howMany_2 : decode b_RU_howMany 2 = .ok (.iconst 0, 1) := by decide +kernel
theorem d_RU_howMany_3 : decode b_RU_howMany 3 = .ok (.istore_n 2, 1) := by decide +kernel
theorem d_RU_howMany_4 : decode b_RU_howMany 4 = .ok (.iload_n 2, 1) := by decide +kernel
theorem d_RU_howMany_5 : decode b_RU_howMany 5 = .ok (.aload_n 0, 1) := by decide +kernel
theorem d_RU_howMany_6 : decode b_RU_howMany 6 = .ok (.getfield 35, 3) := by decide +kernel
theorem d_RU_howMany_9 : decode b_RU_howMany 9 = .ok (.if_icmp .ge 31, 3) := by decide +kernel
theorem d_RU_howMany_12 : decode b_RU_howMany 12 = .ok (.iload_n 1, 1) := by decide +kernel
theorem d_RU_howMany_13 : decode b_RU_howMany 13 = .ok (.aload_n 0, 1) := by decide +kernel
theorem d_RU_howMany_14 : decode b_RU_howMany 14 = .ok (.getfield 27, 3) := by decide +kernel
theorem d_RU_howMany_17 : decode b_RU_howMany 17 = .ok (.iload_n 2, 1) := by decide +kernel
theorem d_RU_howMany_18 : decode b_RU_howMany 18 = .ok (.baload, 1) := by decide +kernel
theorem d_RU_howMany_19 : decode b_RU_howMany 19 = .ok (.ifCond .eq 12, 3) := by decide +kernel
theorem d_RU_howMany_22 : decode b_RU_howMany 22 = .ok (.aload_n 0, 1) := by decide +kernel
theorem d_RU_howMany_23 : decode b_RU_howMany 23 = .ok (.getfield 18, 3) := by decide +kernel
theorem d_RU_howMany_26 : decode b_RU_howMany 26 = .ok (.iload_n 2, 1) := by decide +kernel
theorem d_RU_howMany_27 : decode b_RU_howMany 27 = .ok (.iaload, 1) := by decide +kernel
theorem d_RU_howMany_28 : decode b_RU_howMany 28 = .ok (.goto 4, 3) := by decide +kernel
theorem d_RU_howMany_31 : decode b_RU_howMany 31 = .ok (.iconst 0, 1) := by decide +kernel
theorem d_RU_howMany_32 : decode b_RU_howMany 32 = .ok (.iadd, 1) := by decide +kernel
theorem d_RU_howMany_33 : decode b_RU_howMany 33 = .ok (.istore_n 1, 1) := by decide +kernel
theorem d_RU_howMany_34 : decode b_RU_howMany 34 = .ok (.iinc 2 1, 3) := by decide +kernel
theorem d_RU_howMany_37 : decode b_RU_howMany 37 = .ok (.goto (-33), 3) := by decide +kernel
theorem d_RU_howMany_40 : decode b_RU_howMany 40 = .ok (.iload_n 1, 1) := by decide +kernel
theorem d_RU_howMany_41 : decode b_RU_howMany 41 = .ok (.ireturn, 1) := by decide +kernel
theorem d_RU_takeLeast_0 : decode b_RU_takeLeast 0 = .ok (.aload_n 0, 1) := by decide +kernel
theorem d_RU_takeLeast_1 : decode b_RU_takeLeast 1 = .ok (.aload_n 0, 1) := by decide +kernel
theorem d_RU_takeLeast_2 : decode b_RU_takeLeast 2 = .ok (.iconst 1, 1) := by decide +kernel
theorem d_RU_takeLeast_3 : decode b_RU_takeLeast 3 = .ok (.invokevirtual 68, 3) := by decide +kernel
theorem d_RU_takeLeast_6 : decode b_RU_takeLeast 6 = .ok (.invokevirtual 72, 3) := by decide +kernel
theorem d_RU_takeLeast_9 : decode b_RU_takeLeast 9 = .ok (.ireturn, 1) := by decide +kernel
theorem d_SB_init_0 : decode b_SB_init 0 = .ok (.aload_n 0, 1) := by decide +kernel
theorem d_SB_init_1 : decode b_SB_init 1 = .ok (.invokespecial 3, 3) := by decide +kernel
theorem d_SB_init_4 : decode b_SB_init 4 = .ok (.aload_n 0, 1) := by decide +kernel
theorem d_SB_init_5 : decode b_SB_init 5 = .ok (.new 9, 3) := by decide +kernel
theorem d_SB_init_8 : decode b_SB_init 8 = .ok (.dup, 1) := by decide +kernel
theorem d_SB_init_9 : decode b_SB_init 9 = .ok (.invokespecial 11, 3) := by decide +kernel
theorem d_SB_init_12 : decode b_SB_init 12 = .ok (.putfield 12, 3) := by decide +kernel
theorem d_SB_init_15 : decode b_SB_init 15 = .ok (.aload_n 0, 1) := by decide +kernel
theorem d_SB_init_16 : decode b_SB_init 16 = .ok (.aload_n 1, 1) := by decide +kernel
theorem d_SB_init_17 : decode b_SB_init 17 = .ok (.putfield 18, 3) := by decide +kernel
theorem d_SB_init_20 : decode b_SB_init 20 = .ok (.return_, 1) := by decide +kernel
theorem d_SB_store_0 : decode b_SB_store 0 = .ok (.aload_n 0, 1) := by decide +kernel
theorem d_SB_store_1 : decode b_SB_store 1 = .ok (.getfield 18, 3) := by decide +kernel
theorem d_SB_store_4 : decode b_SB_store 4 = .ok (.invokevirtual 22, 3) := by decide +kernel
theorem d_SB_store_7 : decode b_SB_store 7 = .ok (.aload_n 0, 1) := by decide +kernel
theorem d_SB_store_8 : decode b_SB_store 8 = .ok (.getfield 18, 3) := by decide +kernel
theorem d_SB_store_11 : decode b_SB_store 11 = .ok (.iconst 1, 1) := by decide +kernel
theorem d_SB_store_12 : decode b_SB_store 12 = .ok (.iload_n 1, 1) := by decide +kernel
theorem d_SB_store_13 : decode b_SB_store 13 = .ok (.invokevirtual 27, 3) := by decide +kernel
theorem d_SB_store_16 : decode b_SB_store 16 = .ok (.aload_n 0, 1) := by decide +kernel
theorem d_SB_store_17 : decode b_SB_store 17 = .ok (.getfield 18, 3) := by decide +kernel
theorem d_SB_store_20 : decode b_SB_store 20 = .ok (.iconst 2, 1) := by decide +kernel
theorem d_SB_store_21 : decode b_SB_store 21 = .ok (.aload_n 2, 1) := by decide +kernel
theorem d_SB_store_22 : decode b_SB_store 22 = .ok (.getfield 31, 3) := by decide +kernel
theorem d_SB_store_25 : decode b_SB_store 25 = .ok (.invokevirtual 27, 3) := by decide +kernel
theorem d_SB_store_28 : decode b_SB_store 28 = .ok (.iconst 0, 1) := by decide +kernel
theorem d_SB_store_29 : decode b_SB_store 29 = .ok (.istore_n 3, 1) := by decide +kernel
theorem d_SB_store_30 : decode b_SB_store 30 = .ok (.iload_n 3, 1) := by decide +kernel
theorem d_SB_store_31 : decode b_SB_store 31 = .ok (.aload_n 2, 1) := by decide +kernel
theorem d_SB_store_32 : decode b_SB_store 32 = .ok (.getfield 31, 3) := by decide +kernel
theorem d_SB_store_35 : decode b_SB_store 35 = .ok (.if_icmp .ge 84, 3) := by decide +kernel
theorem d_SB_store_38 : decode b_SB_store 38 = .ok (.iconst 3, 1) := by decide +kernel
theorem d_SB_store_39 : decode b_SB_store 39 = .ok (.iload_n 3, 1) := by decide +kernel
theorem d_SB_store_40 : decode b_SB_store 40 = .ok (.iconst 4, 1) := by decide +kernel
theorem d_SB_store_41 : decode b_SB_store 41 = .ok (.imul, 1) := by decide +kernel
theorem d_SB_store_42 : decode b_SB_store 42 = .ok (.iadd, 1) := by decide +kernel
theorem d_SB_store_43 : decode b_SB_store 43 = .ok (.istore 4, 2) := by decide +kernel
theorem d_SB_store_45 : decode b_SB_store 45 = .ok (.aload_n 0, 1) := by decide +kernel
theorem d_SB_store_46 : decode b_SB_store 46 = .ok (.getfield 18, 3) := by decide +kernel
theorem d_SB_store_49 : decode b_SB_store 49 = .ok (.iload 4, 2) := by decide +kernel
theorem d_SB_store_51 : decode b_SB_store 51 = .ok (.iconst 0, 1) := by decide +kernel
theorem d_SB_store_52 : decode b_SB_store 52 = .ok (.iadd, 1) := by decide +kernel
theorem d_SB_store_53 : decode b_SB_store 53 = .ok (.aload_n 2, 1) := by decide +kernel
theorem d_SB_store_54 : decode b_SB_store 54 = .ok (.getfield 37, 3) := by decide +kernel
theorem d_SB_store_57 : decode b_SB_store 57 = .ok (.iload_n 3, 1) := by decide +kernel
theorem d_SB_store_58 : decode b_SB_store 58 = .ok (.iaload, 1) := by decide +kernel
theorem d_SB_store_59 : decode b_SB_store 59 = .ok (.invokevirtual 27, 3) := by decide +kernel
theorem d_SB_store_62 : decode b_SB_store 62 = .ok (.aload_n 0, 1) := by decide +kernel
theorem d_SB_store_63 : decode b_SB_store 63 = .ok (.getfield 18, 3) := by decide +kernel
theorem d_SB_store_66 : decode b_SB_store 66 = .ok (.iload 4, 2) := by decide +kernel
theorem d_SB_store_68 : decode b_SB_store 68 = .ok (.iconst 1, 1) := by decide +kernel
theorem d_SB_store_69 : decode b_SB_store 69 = .ok (.iadd, 1) := by decide +kernel
theorem d_SB_store_70 : decode b_SB_store 70 = .ok (.aload_n 2, 1) := by decide +kernel
theorem d_SB_store_71 : decode b_SB_store 71 = .ok (.getfield 41, 3) := by decide +kernel
theorem d_SB_store_74 : decode b_SB_store 74 = .ok (.iload_n 3, 1) := by decide +kernel
theorem d_SB_store_75 : decode b_SB_store 75 = .ok (.iaload, 1) := by decide +kernel
theorem d_SB_store_76 : decode b_SB_store 76 = .ok (.invokevirtual 27, 3) := by decide +kernel
theorem d_SB_store_79 : decode b_SB_store 79 = .ok (.aload_n 0, 1) := by decide +kernel
theorem d_SB_store_80 : decode b_SB_store 80 = .ok (.getfield 18, 3) := by decide +kernel
theorem d_SB_store_83 : decode b_SB_store 83 = .ok (.iload 4, 2) := by decide +kernel
theorem d_SB_store_85 : decode b_SB_store 85 = .ok (.iconst 2, 1) := by decide +kernel
theorem d_SB_store_86 : decode b_SB_store 86 = .ok (.iadd, 1) := by decide +kernel
theorem d_SB_store_87 : decode b_SB_store 87 = .ok (.aload_n 2, 1) := by decide +kernel
theorem d_SB_store_88 : decode b_SB_store 88 = .ok (.getfield 44, 3) := by decide +kernel
theorem d_SB_store_91 : decode b_SB_store 91 = .ok (.iload_n 3, 1) := by decide +kernel
theorem d_SB_store_92 : decode b_SB_store 92 = .ok (.iaload, 1) := by decide +kernel
theorem d_SB_store_93 : decode b_SB_store 93 = .ok (.invokevirtual 27, 3) := by decide +kernel
theorem d_SB_store_96 : decode b_SB_store 96 = .ok (.aload_n 0, 1) := by decide +kernel
theorem d_SB_store_97 : decode b_SB_store 97 = .ok (.getfield 18, 3) := by decide +kernel
theorem d_SB_store_100 : decode b_SB_store 100 = .ok (.iload 4, 2) := by decide +kernel
theorem d_SB_store_102 : decode b_SB_store 102 = .ok (.iconst 3, 1) := by decide +kernel
theorem d_SB_store_103 : decode b_SB_store 103 = .ok (.iadd, 1) := by decide +kernel
theorem d_SB_store_104 : decode b_SB_store 104 = .ok (.aload_n 2, 1) := by decide +kernel
theorem d_SB_store_105 : decode b_SB_store 105 = .ok (.getfield 47, 3) := by decide +kernel
theorem d_SB_store_108 : decode b_SB_store 108 = .ok (.iload_n 3, 1) := by decide +kernel
theorem d_SB_store_109 : decode b_SB_store 109 = .ok (.iaload, 1) := by decide +kernel
theorem d_SB_store_110 : decode b_SB_store 110 = .ok (.invokevirtual 27, 3) := by decide +kernel
theorem d_SB_store_113 : decode b_SB_store 113 = .ok (.iinc 3 1, 3) := by decide +kernel
theorem d_SB_store_116 : decode b_SB_store 116 = .ok (.goto (-86), 3) := by decide +kernel
theorem d_SB_store_119 : decode b_SB_store 119 = .ok (.aload_n 0, 1) := by decide +kernel
theorem d_SB_store_120 : decode b_SB_store 120 = .ok (.getfield 18, 3) := by decide +kernel
theorem d_SB_store_123 : decode b_SB_store 123 = .ok (.iload_n 1, 1) := by decide +kernel
theorem d_SB_store_124 : decode b_SB_store 124 = .ok (.iconst 1, 1) := by decide +kernel
theorem d_SB_store_125 : decode b_SB_store 125 = .ok (.iand, 1) := by decide +kernel
theorem d_SB_store_126 : decode b_SB_store 126 = .ok (.invokevirtual 50, 3) := by decide +kernel
theorem d_SB_store_129 : decode b_SB_store 129 = .ok (.ireturn, 1) := by decide +kernel
theorem d_SB_load_0 : decode b_SB_load 0 = .ok (.aload_n 0, 1) := by decide +kernel
theorem d_SB_load_1 : decode b_SB_load 1 = .ok (.getfield 18, 3) := by decide +kernel
theorem d_SB_load_4 : decode b_SB_load 4 = .ok (.iload_n 1, 1) := by decide +kernel
theorem d_SB_load_5 : decode b_SB_load 5 = .ok (.iconst 2, 1) := by decide +kernel
theorem d_SB_load_6 : decode b_SB_load 6 = .ok (.invokevirtual 54, 3) := by decide +kernel
theorem d_SB_load_9 : decode b_SB_load 9 = .ok (.bipush 9, 2) := by decide +kernel
theorem d_SB_load_11 : decode b_SB_load 11 = .ok (.invokestatic 58, 3) := by decide +kernel
theorem d_SB_load_14 : decode b_SB_load 14 = .ok (.istore_n 3, 1) := by decide +kernel
theorem d_SB_load_15 : decode b_SB_load 15 = .ok (.iconst 0, 1) := by decide +kernel
theorem d_SB_load_16 : decode b_SB_load 16 = .ok (.istore 4, 2) := by decide +kernel
theorem d_SB_load_18 : decode b_SB_load 18 = .ok (.iload 4, 2) := by decide +kernel
theorem d_SB_load_20 : decode b_SB_load 20 = .ok (.iload_n 3, 1) := by decide +kernel
theorem d_SB_load_21 : decode b_SB_load 21 = .ok (.if_icmp .ge 69, 3) := by decide +kernel
theorem d_SB_load_24 : decode b_SB_load 24 = .ok (.iconst 3, 1) := by decide +kernel
theorem d_SB_load_25 : decode b_SB_load 25 = .ok (.iload 4, 2) := by decide +kernel
theorem d_SB_load_27 : decode b_SB_load 27 = .ok (.iconst 4, 1) := by decide +kernel
theorem d_SB_load_28 : decode b_SB_load 28 = .ok (.imul, 1) := by decide +kernel
theorem d_SB_load_29 : decode b_SB_load 29 = .ok (.iadd, 1) := by decide +kernel
theorem d_SB_load_30 : decode b_SB_load 30 = .ok (.istore 5, 2) := by decide +kernel
theorem d_SB_load_32 : decode b_SB_load 32 = .ok (.aload_n 2, 1) := by decide +kernel
theorem d_SB_load_33 : decode b_SB_load 33 = .ok (.aload_n 0, 1) := by decide +kernel
theorem d_SB_load_34 : decode b_SB_load 34 = .ok (.getfield 18, 3) := by decide +kernel
theorem d_SB_load_37 : decode b_SB_load 37 = .ok (.iload_n 1, 1) := by decide +kernel
theorem d_SB_load_38 : decode b_SB_load 38 = .ok (.iload 5, 2) := by decide +kernel
theorem d_SB_load_40 : decode b_SB_load 40 = .ok (.iconst 0, 1) := by decide +kernel
theorem d_SB_load_41 : decode b_SB_load 41 = .ok (.iadd, 1) := by decide +kernel
theorem d_SB_load_42 : decode b_SB_load 42 = .ok (.invokevirtual 54, 3) := by decide +kernel
theorem d_SB_load_45 : decode b_SB_load 45 = .ok (.aload_n 0, 1) := by decide +kernel
theorem d_SB_load_46 : decode b_SB_load 46 = .ok (.getfield 18, 3) := by decide +kernel
theorem d_SB_load_49 : decode b_SB_load 49 = .ok (.iload_n 1, 1) := by decide +kernel
theorem d_SB_load_50 : decode b_SB_load 50 = .ok (.iload 5, 2) := by decide +kernel
theorem d_SB_load_52 : decode b_SB_load 52 = .ok (.iconst 1, 1) := by decide +kernel
theorem d_SB_load_53 : decode b_SB_load 53 = .ok (.iadd, 1) := by decide +kernel
theorem d_SB_load_54 : decode b_SB_load 54 = .ok (.invokevirtual 54, 3) := by decide +kernel
theorem d_SB_load_57 : decode b_SB_load 57 = .ok (.aload_n 0, 1) := by decide +kernel
theorem d_SB_load_58 : decode b_SB_load 58 = .ok (.getfield 18, 3) := by decide +kernel
theorem d_SB_load_61 : decode b_SB_load 61 = .ok (.iload_n 1, 1) := by decide +kernel
theorem d_SB_load_62 : decode b_SB_load 62 = .ok (.iload 5, 2) := by decide +kernel
theorem d_SB_load_64 : decode b_SB_load 64 = .ok (.iconst 2, 1) := by decide +kernel
theorem d_SB_load_65 : decode b_SB_load 65 = .ok (.iadd, 1) := by decide +kernel
theorem d_SB_load_66 : decode b_SB_load 66 = .ok (.invokevirtual 54, 3) := by decide +kernel
theorem d_SB_load_69 : decode b_SB_load 69 = .ok (.aload_n 0, 1) := by decide +kernel
theorem d_SB_load_70 : decode b_SB_load 70 = .ok (.getfield 18, 3) := by decide +kernel
theorem d_SB_load_73 : decode b_SB_load 73 = .ok (.iload_n 1, 1) := by decide +kernel
theorem d_SB_load_74 : decode b_SB_load 74 = .ok (.iload 5, 2) := by decide +kernel
theorem d_SB_load_76 : decode b_SB_load 76 = .ok (.iconst 3, 1) := by decide +kernel
theorem d_SB_load_77 : decode b_SB_load 77 = .ok (.iadd, 1) := by decide +kernel
theorem d_SB_load_78 : decode b_SB_load 78 = .ok (.invokevirtual 54, 3) := by decide +kernel
theorem d_SB_load_81 : decode b_SB_load 81 = .ok (.invokevirtual 63, 3) := by decide +kernel
theorem d_SB_load_84 : decode b_SB_load 84 = .ok (.iinc 4 1, 3) := by decide +kernel
theorem d_SB_load_87 : decode b_SB_load 87 = .ok (.goto (-69), 3) := by decide +kernel
theorem d_SB_load_90 : decode b_SB_load 90 = .ok (.return_, 1) := by decide +kernel
theorem d_SB_epochOf_0 : decode b_SB_epochOf 0 = .ok (.aload_n 0, 1) := by decide +kernel
theorem d_SB_epochOf_1 : decode b_SB_epochOf 1 = .ok (.getfield 18, 3) := by decide +kernel
theorem d_SB_epochOf_4 : decode b_SB_epochOf 4 = .ok (.iload_n 1, 1) := by decide +kernel
theorem d_SB_epochOf_5 : decode b_SB_epochOf 5 = .ok (.iconst 1, 1) := by decide +kernel
theorem d_SB_epochOf_6 : decode b_SB_epochOf 6 = .ok (.invokevirtual 54, 3) := by decide +kernel
theorem d_SB_epochOf_9 : decode b_SB_epochOf 9 = .ok (.ireturn, 1) := by decide +kernel
theorem d_SB_newestGood_0 : decode b_SB_newestGood 0 = .ok (.aload_n 0, 1) := by decide +kernel
theorem d_SB_newestGood_1 : decode b_SB_newestGood 1 = .ok (.iconst 0, 1) := by decide +kernel
theorem d_SB_newestGood_2 : decode b_SB_newestGood 2 = .ok (.invokevirtual 67, 3) := by decide +kernel
theorem d_SB_newestGood_5 : decode b_SB_newestGood 5 = .ok (.istore_n 1, 1) := by decide +kernel
theorem d_SB_newestGood_6 : decode b_SB_newestGood 6 = .ok (.aload_n 0, 1) := by decide +kernel
theorem d_SB_newestGood_7 : decode b_SB_newestGood 7 = .ok (.iconst 1, 1) := by decide +kernel
theorem d_SB_newestGood_8 : decode b_SB_newestGood 8 = .ok (.invokevirtual 67, 3) := by decide +kernel
theorem d_SB_newestGood_11 : decode b_SB_newestGood 11 = .ok (.istore_n 2, 1) := by decide +kernel
theorem d_SB_newestGood_12 : decode b_SB_newestGood 12 = .ok (.iload_n 1, 1) := by decide +kernel
theorem d_SB_newestGood_13 : decode b_SB_newestGood 13 = .ok (.ifCond .eq 26, 3) := by decide +kernel
theorem d_SB_newestGood_16 : decode b_SB_newestGood 16 = .ok (.iload_n 2, 1) := by decide +kernel
theorem d_SB_newestGood_17 : decode b_SB_newestGood 17 = .ok (.ifCond .eq 22, 3) := by decide +kernel
theorem d_SB_newestGood_20 : decode b_SB_newestGood 20 = .ok (.aload_n 0, 1) := by decide +kernel
theorem d_SB_newestGood_21 : decode b_SB_newestGood 21 = .ok (.iconst 0, 1) := by decide +kernel
theorem d_SB_newestGood_22 : decode b_SB_newestGood 22 = .ok (.invokevirtual 70, 3) := by decide +kernel
theorem d_SB_newestGood_25 : decode b_SB_newestGood 25 = .ok (.aload_n 0, 1) := by decide +kernel
theorem d_SB_newestGood_26 : decode b_SB_newestGood 26 = .ok (.iconst 1, 1) := by decide +kernel
theorem d_SB_newestGood_27 : decode b_SB_newestGood 27 = .ok (.invokevirtual 70, 3) := by decide +kernel
theorem d_SB_newestGood_30 : decode b_SB_newestGood 30 = .ok (.if_icmp .le 7, 3) := by decide +kernel
theorem d_SB_newestGood_33 : decode b_SB_newestGood 33 = .ok (.iconst 0, 1) := by decide +kernel
theorem d_SB_newestGood_34 : decode b_SB_newestGood 34 = .ok (.goto 4, 3) := by decide +kernel
theorem d_SB_newestGood_37 : decode b_SB_newestGood 37 = .ok (.iconst 1, 1) := by decide +kernel
theorem d_SB_newestGood_38 : decode b_SB_newestGood 38 = .ok (.ireturn, 1) := by decide +kernel
theorem d_SB_newestGood_39 : decode b_SB_newestGood 39 = .ok (.iload_n 1, 1) := by decide +kernel
theorem d_SB_newestGood_40 : decode b_SB_newestGood 40 = .ok (.ifCond .eq 5, 3) := by decide +kernel
theorem d_SB_newestGood_43 : decode b_SB_newestGood 43 = .ok (.iconst 0, 1) := by decide +kernel
theorem d_SB_newestGood_44 : decode b_SB_newestGood 44 = .ok (.ireturn, 1) := by decide +kernel
theorem d_SB_newestGood_45 : decode b_SB_newestGood 45 = .ok (.iload_n 2, 1) := by decide +kernel
theorem d_SB_newestGood_46 : decode b_SB_newestGood 46 = .ok (.ifCond .eq 7, 3) := by decide +kernel
theorem d_SB_newestGood_49 : decode b_SB_newestGood 49 = .ok (.iconst 1, 1) := by decide +kernel
theorem d_SB_newestGood_50 : decode b_SB_newestGood 50 = .ok (.goto 4, 3) := by decide +kernel
theorem d_SB_newestGood_53 : decode b_SB_newestGood 53 = .ok (.iconst (-1), 1) := by decide +kernel
theorem d_SB_newestGood_54 : decode b_SB_newestGood 54 = .ok (.ireturn, 1) := by decide +kernel
theorem d_SB_isGood_0 : decode b_SB_isGood 0 = .ok (.aload_n 0, 1) := by decide +kernel
theorem d_SB_isGood_1 : decode b_SB_isGood 1 = .ok (.iload_n 1, 1) := by decide +kernel
theorem d_SB_isGood_2 : decode b_SB_isGood 2 = .ok (.invokevirtual 70, 3) := by decide +kernel
theorem d_SB_isGood_5 : decode b_SB_isGood 5 = .ok (.istore_n 2, 1) := by decide +kernel
theorem d_SB_isGood_6 : decode b_SB_isGood 6 = .ok (.iload_n 2, 1) := by decide +kernel
theorem d_SB_isGood_7 : decode b_SB_isGood 7 = .ok (.iconst 1, 1) := by decide +kernel
theorem d_SB_isGood_8 : decode b_SB_isGood 8 = .ok (.if_icmp .lt 30, 3) := by decide +kernel
theorem d_SB_isGood_11 : decode b_SB_isGood 11 = .ok (.iload_n 2, 1) := by decide +kernel
theorem d_SB_isGood_12 : decode b_SB_isGood 12 = .ok (.iconst 1, 1) := by decide +kernel
theorem d_SB_isGood_13 : decode b_SB_isGood 13 = .ok (.iand, 1) := by decide +kernel
theorem d_SB_isGood_14 : decode b_SB_isGood 14 = .ok (.iload_n 1, 1) := by decide +kernel
theorem d_SB_isGood_15 : decode b_SB_isGood 15 = .ok (.if_icmp .ne 23, 3) := by decide +kernel
theorem d_SB_isGood_18 : decode b_SB_isGood 18 = .ok (.aload_n 0, 1) := by decide +kernel
theorem d_SB_isGood_19 : decode b_SB_isGood 19 = .ok (.getfield 18, 3) := by decide +kernel
theorem d_SB_isGood_22 : decode b_SB_isGood 22 = .ok (.iload_n 1, 1) := by decide +kernel
theorem d_SB_isGood_23 : decode b_SB_isGood 23 = .ok (.iconst 0, 1) := by decide +kernel
theorem d_SB_isGood_24 : decode b_SB_isGood 24 = .ok (.invokevirtual 54, 3) := by decide +kernel
theorem d_SB_isGood_27 : decode b_SB_isGood 27 = .ok (.aload_n 0, 1) := by decide +kernel
theorem d_SB_isGood_28 : decode b_SB_isGood 28 = .ok (.getfield 18, 3) := by decide +kernel
theorem d_SB_isGood_31 : decode b_SB_isGood 31 = .ok (.iload_n 1, 1) := by decide +kernel
theorem d_SB_isGood_32 : decode b_SB_isGood 32 = .ok (.invokevirtual 74, 3) := by decide +kernel
theorem d_SB_isGood_35 : decode b_SB_isGood 35 = .ok (.if_icmp .eq 5, 3) := by decide +kernel
theorem d_SB_isGood_38 : decode b_SB_isGood 38 = .ok (.iconst 0, 1) := by decide +kernel
theorem d_SB_isGood_39 : decode b_SB_isGood 39 = .ok (.ireturn, 1) := by decide +kernel
theorem d_SB_isGood_40 : decode b_SB_isGood 40 = .ok (.aload_n 0, 1) := by decide +kernel
theorem d_SB_isGood_41 : decode b_SB_isGood 41 = .ok (.getfield 18, 3) := by decide +kernel
theorem d_SB_isGood_44 : decode b_SB_isGood 44 = .ok (.iload_n 1, 1) := by decide +kernel
theorem d_SB_isGood_45 : decode b_SB_isGood 45 = .ok (.iconst 2, 1) := by decide +kernel
theorem d_SB_isGood_46 : decode b_SB_isGood 46 = .ok (.invokevirtual 54, 3) := by decide +kernel
theorem d_SB_isGood_49 : decode b_SB_isGood 49 = .ok (.istore_n 3, 1) := by decide +kernel
theorem d_SB_isGood_50 : decode b_SB_isGood 50 = .ok (.iload_n 3, 1) := by decide +kernel
theorem d_SB_isGood_51 : decode b_SB_isGood 51 = .ok (.ifCond .lt 14, 3) := by decide +kernel
theorem d_SB_isGood_54 : decode b_SB_isGood 54 = .ok (.iload_n 3, 1) := by decide +kernel
theorem d_SB_isGood_55 : decode b_SB_isGood 55 = .ok (.aload_n 0, 1) := by decide +kernel
theorem d_SB_isGood_56 : decode b_SB_isGood 56 = .ok (.getfield 18, 3) := by decide +kernel
theorem d_SB_isGood_59 : decode b_SB_isGood 59 = .ok (.invokevirtual 77, 3) := by decide +kernel
theorem d_SB_isGood_62 : decode b_SB_isGood 62 = .ok (.if_icmp .le 5, 3) := by decide +kernel
theorem d_SB_isGood_65 : decode b_SB_isGood 65 = .ok (.iconst 0, 1) := by decide +kernel
theorem d_SB_isGood_66 : decode b_SB_isGood 66 = .ok (.ireturn, 1) := by decide +kernel
theorem d_SB_isGood_67 : decode b_SB_isGood 67 = .ok (.aload_n 0, 1) := by decide +kernel
theorem d_SB_isGood_68 : decode b_SB_isGood 68 = .ok (.getfield 12, 3) := by decide +kernel
theorem d_SB_isGood_71 : decode b_SB_isGood 71 = .ok (.invokevirtual 81, 3) := by decide +kernel
theorem d_SB_isGood_74 : decode b_SB_isGood 74 = .ok (.iconst 0, 1) := by decide +kernel
theorem d_SB_isGood_75 : decode b_SB_isGood 75 = .ok (.istore 4, 2) := by decide +kernel
theorem d_SB_isGood_77 : decode b_SB_isGood 77 = .ok (.iload 4, 2) := by decide +kernel
theorem d_SB_isGood_79 : decode b_SB_isGood 79 = .ok (.iload_n 3, 1) := by decide +kernel
theorem d_SB_isGood_80 : decode b_SB_isGood 80 = .ok (.if_icmp .ge 25, 3) := by decide +kernel
theorem d_SB_isGood_83 : decode b_SB_isGood 83 = .ok (.aload_n 0, 1) := by decide +kernel
theorem d_SB_isGood_84 : decode b_SB_isGood 84 = .ok (.iload_n 1, 1) := by decide +kernel
theorem d_SB_isGood_85 : decode b_SB_isGood 85 = .ok (.iconst 3, 1) := by decide +kernel
theorem d_SB_isGood_86 : decode b_SB_isGood 86 = .ok (.iload 4, 2) := by decide +kernel
theorem d_SB_isGood_88 : decode b_SB_isGood 88 = .ok (.iconst 4, 1) := by decide +kernel
theorem d_SB_isGood_89 : decode b_SB_isGood 89 = .ok (.imul, 1) := by decide +kernel
theorem d_SB_isGood_90 : decode b_SB_isGood 90 = .ok (.iadd, 1) := by decide +kernel
theorem d_SB_isGood_91 : decode b_SB_isGood 91 = .ok (.invokevirtual 84, 3) := by decide +kernel
theorem d_SB_isGood_94 : decode b_SB_isGood 94 = .ok (.ifCond .ne 5, 3) := by decide +kernel
theorem d_SB_isGood_97 : decode b_SB_isGood 97 = .ok (.iconst 0, 1) := by decide +kernel
theorem d_SB_isGood_98 : decode b_SB_isGood 98 = .ok (.ireturn, 1) := by decide +kernel
theorem d_SB_isGood_99 : decode b_SB_isGood 99 = .ok (.iinc 4 1, 3) := by decide +kernel
theorem d_SB_isGood_102 : decode b_SB_isGood 102 = .ok (.goto (-25), 3) := by decide +kernel
theorem d_SB_isGood_105 : decode b_SB_isGood 105 = .ok (.iconst 1, 1) := by decide +kernel
theorem d_SB_isGood_106 : decode b_SB_isGood 106 = .ok (.ireturn, 1) := by decide +kernel
theorem d_SB_isRunRight_0 : decode b_SB_isRunRight 0 = .ok (.aload_n 0, 1) := by decide +kernel
theorem d_SB_isRunRight_1 : decode b_SB_isRunRight 1 = .ok (.getfield 18, 3) := by decide +kernel
theorem d_SB_isRunRight_4 : decode b_SB_isRunRight 4 = .ok (.iload_n 1, 1) := by decide +kernel
theorem d_SB_isRunRight_5 : decode b_SB_isRunRight 5 = .ok (.iload_n 2, 1) := by decide +kernel
theorem d_SB_isRunRight_6 : decode b_SB_isRunRight 6 = .ok (.iconst 1, 1) := by decide +kernel
theorem d_SB_isRunRight_7 : decode b_SB_isRunRight 7 = .ok (.iadd, 1) := by decide +kernel
theorem d_SB_isRunRight_8 : decode b_SB_isRunRight 8 = .ok (.invokevirtual 54, 3) := by decide +kernel
theorem d_SB_isRunRight_11 : decode b_SB_isRunRight 11 = .ok (.istore_n 3, 1) := by decide +kernel
theorem d_SB_isRunRight_12 : decode b_SB_isRunRight 12 = .ok (.aload_n 0, 1) := by decide +kernel
theorem d_SB_isRunRight_13 : decode b_SB_isRunRight 13 = .ok (.getfield 18, 3) := by decide +kernel
theorem d_SB_isRunRight_16 : decode b_SB_isRunRight 16 = .ok (.iload_n 1, 1) := by decide +kernel
theorem d_SB_isRunRight_17 : decode b_SB_isRunRight 17 = .ok (.iload_n 2, 1) := by decide +kernel
theorem d_SB_isRunRight_18 : decode b_SB_isRunRight 18 = .ok (.iconst 2, 1) := by decide +kernel
theorem d_SB_isRunRight_19 : decode b_SB_isRunRight 19 = .ok (.iadd, 1) := by decide +kernel
theorem d_SB_isRunRight_20 : decode b_SB_isRunRight 20 = .ok (.invokevirtual 54, 3) := by decide +kernel
theorem d_SB_isRunRight_23 : decode b_SB_isRunRight 23 = .ok (.istore 4, 2) := by decide +kernel
theorem d_SB_isRunRight_25 : decode b_SB_isRunRight 25 = .ok (.aload_n 0, 1) := by decide +kernel
theorem d_SB_isRunRight_26 : decode b_SB_isRunRight 26 = .ok (.getfield 18, 3) := by decide +kernel
theorem d_SB_isRunRight_29 : decode b_SB_isRunRight 29 = .ok (.invokevirtual 88, 3) := by decide +kernel
theorem d_SB_isRunRight_32 : decode b_SB_isRunRight 32 = .ok (.istore 5, 2) := by decide +kernel
theorem d_SB_isRunRight_34 : decode b_SB_isRunRight 34 = .ok (.aload_n 0, 1) := by decide +kernel
theorem d_SB_isRunRight_35 : decode b_SB_isRunRight 35 = .ok (.getfield 18, 3) := by decide +kernel
theorem d_SB_isRunRight_38 : decode b_SB_isRunRight 38 = .ok (.iload_n 1, 1) := by decide +kernel
theorem d_SB_isRunRight_39 : decode b_SB_isRunRight 39 = .ok (.iload_n 2, 1) := by decide +kernel
theorem d_SB_isRunRight_40 : decode b_SB_isRunRight 40 = .ok (.iconst 3, 1) := by decide +kernel
theorem d_SB_isRunRight_41 : decode b_SB_isRunRight 41 = .ok (.iadd, 1) := by decide +kernel
theorem d_SB_isRunRight_42 : decode b_SB_isRunRight 42 = .ok (.invokevirtual 54, 3) := by decide +kernel
theorem d_SB_isRunRight_45 : decode b_SB_isRunRight 45 = .ok (.ifCond .lt 13, 3) := by decide +kernel
theorem d_SB_isRunRight_48 : decode b_SB_isRunRight 48 = .ok (.iload_n 3, 1) := by decide +kernel
theorem d_SB_isRunRight_49 : decode b_SB_isRunRight 49 = .ok (.ifCond .lt 9, 3) := by decide +kernel
theorem d_SB_isRunRight_52 : decode b_SB_isRunRight 52 = .ok (.iload_n 3, 1) := by decide +kernel
theorem d_SB_isRunRight_53 : decode b_SB_isRunRight 53 = .ok (.iload 5, 2) := by decide +kernel
theorem d_SB_isRunRight_55 : decode b_SB_isRunRight 55 = .ok (.if_icmp .lt 5, 3) := by decide +kernel
theorem d_SB_isRunRight_58 : decode b_SB_isRunRight 58 = .ok (.iconst 0, 1) := by decide +kernel
theorem d_SB_isRunRight_59 : decode b_SB_isRunRight 59 = .ok (.ireturn, 1) := by decide +kernel
theorem d_SB_isRunRight_60 : decode b_SB_isRunRight 60 = .ok (.iload 4, 2) := by decide +kernel
theorem d_SB_isRunRight_62 : decode b_SB_isRunRight 62 = .ok (.iconst 1, 1) := by decide +kernel
theorem d_SB_isRunRight_63 : decode b_SB_isRunRight 63 = .ok (.if_icmp .lt 18, 3) := by decide +kernel
theorem d_SB_isRunRight_66 : decode b_SB_isRunRight 66 = .ok (.iload 4, 2) := by decide +kernel
theorem d_SB_isRunRight_68 : decode b_SB_isRunRight 68 = .ok (.aload_n 0, 1) := by decide +kernel
theorem d_SB_isRunRight_69 : decode b_SB_isRunRight 69 = .ok (.getfield 18, 3) := by decide +kernel
theorem d_SB_isRunRight_72 : decode b_SB_isRunRight 72 = .ok (.getfield 91, 3) := by decide +kernel
theorem d_SB_isRunRight_75 : decode b_SB_isRunRight 75 = .ok (.iload 5, 2) := by decide +kernel
theorem d_SB_isRunRight_77 : decode b_SB_isRunRight 77 = .ok (.imul, 1) := by decide +kernel
theorem d_SB_isRunRight_78 : decode b_SB_isRunRight 78 = .ok (.if_icmp .le 5, 3) := by decide +kernel
theorem d_SB_isRunRight_81 : decode b_SB_isRunRight 81 = .ok (.iconst 0, 1) := by decide +kernel
theorem d_SB_isRunRight_82 : decode b_SB_isRunRight 82 = .ok (.ireturn, 1) := by decide +kernel
theorem d_SB_isRunRight_83 : decode b_SB_isRunRight 83 = .ok (.aload_n 0, 1) := by decide +kernel
theorem d_SB_isRunRight_84 : decode b_SB_isRunRight 84 = .ok (.aload_n 0, 1) := by decide +kernel
theorem d_SB_isRunRight_85 : decode b_SB_isRunRight 85 = .ok (.getfield 18, 3) := by decide +kernel
theorem d_SB_isRunRight_88 : decode b_SB_isRunRight 88 = .ok (.iload_n 1, 1) := by decide +kernel
theorem d_SB_isRunRight_89 : decode b_SB_isRunRight 89 = .ok (.iload_n 2, 1) := by decide +kernel
theorem d_SB_isRunRight_90 : decode b_SB_isRunRight 90 = .ok (.iconst 0, 1) := by decide +kernel
theorem d_SB_isRunRight_91 : decode b_SB_isRunRight 91 = .ok (.iadd, 1) := by decide +kernel
theorem d_SB_isRunRight_92 : decode b_SB_isRunRight 92 = .ok (.invokevirtual 54, 3) := by decide +kernel
theorem d_SB_isRunRight_95 : decode b_SB_isRunRight 95 = .ok (.iload_n 3, 1) := by decide +kernel
theorem d_SB_isRunRight_96 : decode b_SB_isRunRight 96 = .ok (.iload_n 3, 1) := by decide +kernel
theorem d_SB_isRunRight_97 : decode b_SB_isRunRight 97 = .ok (.iload 4, 2) := by decide +kernel
theorem d_SB_isRunRight_99 : decode b_SB_isRunRight 99 = .ok (.iadd, 1) := by decide +kernel
theorem d_SB_isRunRight_100 : decode b_SB_isRunRight 100 = .ok (.invokevirtual 94, 3) := by decide +kernel
theorem d_SB_isRunRight_103 : decode b_SB_isRunRight 103 = .ok (.ireturn, 1) := by decide +kernel
theorem d_SB_isChainRight_0 : decode b_SB_isChainRight 0 = .ok (.aload_n 0, 1) := by decide +kernel
theorem d_SB_isChainRight_1 : decode b_SB_isChainRight 1 = .ok (.getfield 18, 3) := by decide +kernel
theorem d_SB_isChainRight_4 : decode b_SB_isChainRight 4 = .ok (.invokevirtual 88, 3) := by decide +kernel
theorem d_SB_isChainRight_7 : decode b_SB_isChainRight 7 = .ok (.istore 4, 2) := by decide +kernel
theorem d_SB_isChainRight_9 : decode b_SB_isChainRight 9 = .ok (.aload_n 0, 1) := by decide +kernel
theorem d_SB_isChainRight_10 : decode b_SB_isChainRight 10 = .ok (.getfield 18, 3) := by decide +kernel
theorem d_SB_isChainRight_13 : decode b_SB_isChainRight 13 = .ok (.iload_n 3, 1) := by decide +kernel
theorem d_SB_isChainRight_14 : decode b_SB_isChainRight 14 = .ok (.invokevirtual 98, 3) := by decide +kernel
theorem d_SB_isChainRight_17 : decode b_SB_isChainRight 17 = .ok (.istore 5, 2) := by decide +kernel
theorem d_SB_isChainRight_19 : decode b_SB_isChainRight 19 = .ok (.iload_n 1, 1) := by decide +kernel
theorem d_SB_isChainRight_20 : decode b_SB_isChainRight 20 = .ok (.istore 6, 2) := by decide +kernel
theorem d_SB_isChainRight_22 : decode b_SB_isChainRight 22 = .ok (.iconst 0, 1) := by decide +kernel
theorem d_SB_isChainRight_23 : decode b_SB_isChainRight 23 = .ok (.istore 7, 2) := by decide +kernel
theorem d_SB_isChainRight_25 : decode b_SB_isChainRight 25 = .ok (.iconst 0, 1) := by decide +kernel
theorem d_SB_isChainRight_26 : decode b_SB_isChainRight 26 = .ok (.istore 8, 2) := by decide +kernel
theorem d_SB_isChainRight_28 : decode b_SB_isChainRight 28 = .ok (.iload 8, 2) := by decide +kernel
theorem d_SB_isChainRight_30 : decode b_SB_isChainRight 30 = .ok (.iload 5, 2) := by decide +kernel
theorem d_SB_isChainRight_32 : decode b_SB_isChainRight 32 = .ok (.if_icmp .ge 75, 3) := by decide +kernel
theorem d_SB_isChainRight_35 : decode b_SB_isChainRight 35 = .ok (.aload_n 0, 1) := by decide +kernel
theorem d_SB_isChainRight_36 : decode b_SB_isChainRight 36 = .ok (.iload 6, 2) := by decide +kernel
theorem d_SB_isChainRight_38 : decode b_SB_isChainRight 38 = .ok (.invokevirtual 101, 3) := by decide +kernel
theorem d_SB_isChainRight_41 : decode b_SB_isChainRight 41 = .ok (.ifCond .ne 5, 3) := by decide +kernel
theorem d_SB_isChainRight_44 : decode b_SB_isChainRight 44 = .ok (.iconst 0, 1) := by decide +kernel
theorem d_SB_isChainRight_45 : decode b_SB_isChainRight 45 = .ok (.ireturn, 1) := by decide +kernel
theorem d_SB_isChainRight_46 : decode b_SB_isChainRight 46 = .ok (.iload 4, 2) := by decide +kernel
theorem d_SB_isChainRight_48 : decode b_SB_isChainRight 48 = .ok (.iload_n 3, 1) := by decide +kernel
theorem d_SB_isChainRight_49 : decode b_SB_isChainRight 49 = .ok (.iload 8, 2) := by decide +kernel
theorem d_SB_isChainRight_51 : decode b_SB_isChainRight 51 = .ok (.iload 4, 2) := by decide +kernel
theorem d_SB_isChainRight_53 : decode b_SB_isChainRight 53 = .ok (.imul, 1) := by decide +kernel
theorem d_SB_isChainRight_54 : decode b_SB_isChainRight 54 = .ok (.isub, 1) := by decide +kernel
theorem d_SB_isChainRight_55 : decode b_SB_isChainRight 55 = .ok (.invokestatic 58, 3) := by decide +kernel
theorem d_SB_isChainRight_58 : decode b_SB_isChainRight 58 = .ok (.istore 9, 2) := by decide +kernel
theorem d_SB_isChainRight_60 : decode b_SB_isChainRight 60 = .ok (.aload_n 0, 1) := by decide +kernel
theorem d_SB_isChainRight_61 : decode b_SB_isChainRight 61 = .ok (.iload 6, 2) := by decide +kernel
theorem d_SB_isChainRight_63 : decode b_SB_isChainRight 63 = .ok (.iload 8, 2) := by decide +kernel
theorem d_SB_isChainRight_65 : decode b_SB_isChainRight 65 = .ok (.ifCond .ne 7, 3) := by decide +kernel
theorem d_SB_isChainRight_68 : decode b_SB_isChainRight 68 = .ok (.iload_n 2, 1) := by decide +kernel
theorem d_SB_isChainRight_69 : decode b_SB_isChainRight 69 = .ok (.goto 4, 3) := by decide +kernel
theorem d_SB_isChainRight_72 : decode b_SB_isChainRight 72 = .ok (.iconst 0, 1) := by decide +kernel
theorem d_SB_isChainRight_73 : decode b_SB_isChainRight 73 = .ok (.iload 9, 2) := by decide +kernel
end
section
theorem d_SB_isChainRight_75 : decode b_SB_isChainRight 75 = .ok (.iload 7, 2) := by decide +kernel
theorem d_SB_isChainRight_77 : decode b_SB_isChainRight 77 = .ok (.invokevirtual 104, 3) := by decide +kernel
theorem d_SB_isChainRight_80 : decode b_SB_isChainRight 80 = .ok (.istore 7, 2) := by decide +kernel
theorem d_SB_isChainRight_82 : decode b_SB_isChainRight 82 = .ok (.iload 7, 2) := by decide +kernel
theorem d_SB_isChainRight_84 : decode b_SB_isChainRight 84 = .ok (.ifCond .ge 5, 3) := by decide +kernel
theorem d_SB_isChainRight_87 : decode b_SB_isChainRight 87 = .ok (.iconst 0, 1) := by decide +kernel
theorem d_SB_isChainRight_88 : decode b_SB_isChainRight 88 = .ok (.ireturn, 1) := by decide +kernel
theorem d_SB_isChainRight_89 : decode b_SB_isChainRight 89 = .ok (.aload_n 0, 1) := by decide +kernel
theorem d_SB_isChainRight_90 : decode b_SB_isChainRight 90 = .ok (.getfield 18, 3) := by decide +kernel
theorem d_SB_isChainRight_93 : decode b_SB_isChainRight 93 = .ok (.iload 6, 2) := by decide +kernel
theorem d_SB_isChainRight_95 : decode b_SB_isChainRight 95 = .ok (.iconst 1, 1) := by decide +kernel
theorem d_SB_isChainRight_96 : decode b_SB_isChainRight 96 = .ok (.invokevirtual 54, 3) := by decide +kernel
theorem d_SB_isChainRight_99 : decode b_SB_isChainRight 99 = .ok (.istore 6, 2) := by decide +kernel
theorem d_SB_isChainRight_101 : decode b_SB_isChainRight 101 = .ok (.iinc 8 1, 3) := by decide +kernel
theorem d_SB_isChainRight_104 : decode b_SB_isChainRight 104 = .ok (.goto (-76), 3) := by decide +kernel
theorem d_SB_isChainRight_107 : decode b_SB_isChainRight 107 = .ok (.iload 6, 2) := by decide +kernel
theorem d_SB_isChainRight_109 : decode b_SB_isChainRight 109 = .ok (.ifCond .ne 7, 3) := by decide +kernel
theorem d_SB_isChainRight_112 : decode b_SB_isChainRight 112 = .ok (.iconst 1, 1) := by decide +kernel
theorem d_SB_isChainRight_113 : decode b_SB_isChainRight 113 = .ok (.goto 4, 3) := by decide +kernel
theorem d_SB_isChainRight_116 : decode b_SB_isChainRight 116 = .ok (.iconst 0, 1) := by decide +kernel
theorem d_SB_isChainRight_117 : decode b_SB_isChainRight 117 = .ok (.ireturn, 1) := by decide +kernel
theorem d_SB_isNewRightBlock_0 : decode b_SB_isNewRightBlock 0 = .ok (.iload_n 1, 1) := by decide +kernel
theorem d_SB_isNewRightBlock_1 : decode b_SB_isNewRightBlock 1 = .ok (.iconst 2, 1) := by decide +kernel
theorem d_SB_isNewRightBlock_2 : decode b_SB_isNewRightBlock 2 = .ok (.if_icmp .lt 25, 3) := by decide +kernel
theorem d_SB_isNewRightBlock_5 : decode b_SB_isNewRightBlock 5 = .ok (.iload_n 1, 1) := by decide +kernel
theorem d_SB_isNewRightBlock_6 : decode b_SB_isNewRightBlock 6 = .ok (.aload_n 0, 1) := by decide +kernel
theorem d_SB_isNewRightBlock_7 : decode b_SB_isNewRightBlock 7 = .ok (.getfield 18, 3) := by decide +kernel
theorem d_SB_isNewRightBlock_10 : decode b_SB_isNewRightBlock 10 = .ok (.getfield 91, 3) := by decide +kernel
theorem d_SB_isNewRightBlock_13 : decode b_SB_isNewRightBlock 13 = .ok (.if_icmp .ge 14, 3) := by decide +kernel
theorem d_SB_isNewRightBlock_16 : decode b_SB_isNewRightBlock 16 = .ok (.aload_n 0, 1) := by decide +kernel
theorem d_SB_isNewRightBlock_17 : decode b_SB_isNewRightBlock 17 = .ok (.getfield 12, 3) := by decide +kernel
theorem d_SB_isNewRightBlock_20 : decode b_SB_isNewRightBlock 20 = .ok (.iload_n 1, 1) := by decide +kernel
theorem d_SB_isNewRightBlock_21 : decode b_SB_isNewRightBlock 21 = .ok (.invokevirtual 108, 3) := by decide +kernel
theorem d_SB_isNewRightBlock_24 : decode b_SB_isNewRightBlock 24 = .ok (.ifCond .eq 5, 3) := by decide +kernel
theorem d_SB_isNewRightBlock_27 : decode b_SB_isNewRightBlock 27 = .ok (.iconst 0, 1) := by decide +kernel
theorem d_SB_isNewRightBlock_28 : decode b_SB_isNewRightBlock 28 = .ok (.ireturn, 1) := by decide +kernel
theorem d_SB_isNewRightBlock_29 : decode b_SB_isNewRightBlock 29 = .ok (.aload_n 0, 1) := by decide +kernel
theorem d_SB_isNewRightBlock_30 : decode b_SB_isNewRightBlock 30 = .ok (.getfield 12, 3) := by decide +kernel
theorem d_SB_isNewRightBlock_33 : decode b_SB_isNewRightBlock 33 = .ok (.iload_n 1, 1) := by decide +kernel
theorem d_SB_isNewRightBlock_34 : decode b_SB_isNewRightBlock 34 = .ok (.invokevirtual 111, 3) := by decide +kernel
theorem d_SB_isNewRightBlock_37 : decode b_SB_isNewRightBlock 37 = .ok (.aload_n 0, 1) := by decide +kernel
theorem d_SB_isNewRightBlock_38 : decode b_SB_isNewRightBlock 38 = .ok (.getfield 18, 3) := by decide +kernel
theorem d_SB_isNewRightBlock_41 : decode b_SB_isNewRightBlock 41 = .ok (.iload_n 1, 1) := by decide +kernel
theorem d_SB_isNewRightBlock_42 : decode b_SB_isNewRightBlock 42 = .ok (.iconst 0, 1) := by decide +kernel
theorem d_SB_isNewRightBlock_43 : decode b_SB_isNewRightBlock 43 = .ok (.invokevirtual 54, 3) := by decide +kernel
theorem d_SB_isNewRightBlock_46 : decode b_SB_isNewRightBlock 46 = .ok (.aload_n 0, 1) := by decide +kernel
theorem d_SB_isNewRightBlock_47 : decode b_SB_isNewRightBlock 47 = .ok (.getfield 18, 3) := by decide +kernel
theorem d_SB_isNewRightBlock_50 : decode b_SB_isNewRightBlock 50 = .ok (.iload_n 1, 1) := by decide +kernel
theorem d_SB_isNewRightBlock_51 : decode b_SB_isNewRightBlock 51 = .ok (.invokevirtual 74, 3) := by decide +kernel
theorem d_SB_isNewRightBlock_54 : decode b_SB_isNewRightBlock 54 = .ok (.if_icmp .ne 7, 3) := by decide +kernel
theorem d_SB_isNewRightBlock_57 : decode b_SB_isNewRightBlock 57 = .ok (.iconst 1, 1) := by decide +kernel
theorem d_SB_isNewRightBlock_58 : decode b_SB_isNewRightBlock 58 = .ok (.goto 4, 3) := by decide +kernel
theorem d_SB_isNewRightBlock_61 : decode b_SB_isNewRightBlock 61 = .ok (.iconst 0, 1) := by decide +kernel
theorem d_SB_isNewRightBlock_62 : decode b_SB_isNewRightBlock 62 = .ok (.ireturn, 1) := by decide +kernel
theorem d_SB_lastOfRising_0 : decode b_SB_lastOfRising 0 = .ok (.iload 4, 2) := by decide +kernel
theorem d_SB_lastOfRising_2 : decode b_SB_lastOfRising 2 = .ok (.istore 5, 2) := by decide +kernel
theorem d_SB_lastOfRising_4 : decode b_SB_lastOfRising 4 = .ok (.iload_n 2, 1) := by decide +kernel
theorem d_SB_lastOfRising_5 : decode b_SB_lastOfRising 5 = .ok (.istore 6, 2) := by decide +kernel
theorem d_SB_lastOfRising_7 : decode b_SB_lastOfRising 7 = .ok (.iload 6, 2) := by decide +kernel
theorem d_SB_lastOfRising_9 : decode b_SB_lastOfRising 9 = .ok (.iload_n 3, 1) := by decide +kernel
theorem d_SB_lastOfRising_10 : decode b_SB_lastOfRising 10 = .ok (.if_icmp .ge 36, 3) := by decide +kernel
theorem d_SB_lastOfRising_13 : decode b_SB_lastOfRising 13 = .ok (.aload_n 0, 1) := by decide +kernel
theorem d_SB_lastOfRising_14 : decode b_SB_lastOfRising 14 = .ok (.getfield 18, 3) := by decide +kernel
theorem d_SB_lastOfRising_17 : decode b_SB_lastOfRising 17 = .ok (.iload_n 1, 1) := by decide +kernel
theorem d_SB_lastOfRising_18 : decode b_SB_lastOfRising 18 = .ok (.iconst 2, 1) := by decide +kernel
theorem d_SB_lastOfRising_19 : decode b_SB_lastOfRising 19 = .ok (.iload 6, 2) := by decide +kernel
theorem d_SB_lastOfRising_21 : decode b_SB_lastOfRising 21 = .ok (.iadd, 1) := by decide +kernel
theorem d_SB_lastOfRising_22 : decode b_SB_lastOfRising 22 = .ok (.invokevirtual 54, 3) := by decide +kernel
theorem d_SB_lastOfRising_25 : decode b_SB_lastOfRising 25 = .ok (.istore 7, 2) := by decide +kernel
theorem d_SB_lastOfRising_27 : decode b_SB_lastOfRising 27 = .ok (.iload 7, 2) := by decide +kernel
theorem d_SB_lastOfRising_29 : decode b_SB_lastOfRising 29 = .ok (.iload 5, 2) := by decide +kernel
theorem d_SB_lastOfRising_31 : decode b_SB_lastOfRising 31 = .ok (.if_icmp .ge 5, 3) := by decide +kernel
theorem d_SB_lastOfRising_34 : decode b_SB_lastOfRising 34 = .ok (.iconst (-1), 1) := by decide +kernel
theorem d_SB_lastOfRising_35 : decode b_SB_lastOfRising 35 = .ok (.ireturn, 1) := by decide +kernel
theorem d_SB_lastOfRising_36 : decode b_SB_lastOfRising 36 = .ok (.iload 7, 2) := by decide +kernel
theorem d_SB_lastOfRising_38 : decode b_SB_lastOfRising 38 = .ok (.istore 5, 2) := by decide +kernel
theorem d_SB_lastOfRising_40 : decode b_SB_lastOfRising 40 = .ok (.iinc 6 1, 3) := by decide +kernel
theorem d_SB_lastOfRising_43 : decode b_SB_lastOfRising 43 = .ok (.goto (-36), 3) := by decide +kernel
theorem d_SB_lastOfRising_46 : decode b_SB_lastOfRising 46 = .ok (.iload 5, 2) := by decide +kernel
theorem d_SB_lastOfRising_48 : decode b_SB_lastOfRising 48 = .ok (.ireturn, 1) := by decide +kernel
theorem d_SQ_init_0 : decode b_SQ_init 0 = .ok (.aload_n 0, 1) := by decide +kernel
theorem d_SQ_init_1 : decode b_SQ_init 1 = .ok (.invokespecial 3, 3) := by decide +kernel
theorem d_SQ_init_4 : decode b_SQ_init 4 = .ok (.aload_n 0, 1) := by decide +kernel
theorem d_SQ_init_5 : decode b_SQ_init 5 = .ok (.new 9, 3) := by decide +kernel
theorem d_SQ_init_8 : decode b_SQ_init 8 = .ok (.dup, 1) := by decide +kernel
theorem d_SQ_init_9 : decode b_SQ_init 9 = .ok (.invokespecial 11, 3) := by decide +kernel
theorem d_SQ_init_12 : decode b_SQ_init 12 = .ok (.putfield 12, 3) := by decide +kernel
theorem d_SQ_init_15 : decode b_SQ_init 15 = .ok (.aload_n 0, 1) := by decide +kernel
theorem d_SQ_init_16 : decode b_SQ_init 16 = .ok (.new 16, 3) := by decide +kernel
theorem d_SQ_init_19 : decode b_SQ_init 19 = .ok (.dup, 1) := by decide +kernel
theorem d_SQ_init_20 : decode b_SQ_init 20 = .ok (.invokespecial 18, 3) := by decide +kernel
theorem d_SQ_init_23 : decode b_SQ_init 23 = .ok (.putfield 19, 3) := by decide +kernel
theorem d_SQ_init_26 : decode b_SQ_init 26 = .ok (.aload_n 0, 1) := by decide +kernel
theorem d_SQ_init_27 : decode b_SQ_init 27 = .ok (.new 23, 3) := by decide +kernel
theorem d_SQ_init_30 : decode b_SQ_init 30 = .ok (.dup, 1) := by decide +kernel
theorem d_SQ_init_31 : decode b_SQ_init 31 = .ok (.aload_n 0, 1) := by decide +kernel
theorem d_SQ_init_32 : decode b_SQ_init 32 = .ok (.getfield 12, 3) := by decide +kernel
theorem d_SQ_init_35 : decode b_SQ_init 35 = .ok (.invokespecial 25, 3) := by decide +kernel
theorem d_SQ_init_38 : decode b_SQ_init 38 = .ok (.putfield 28, 3) := by decide +kernel
theorem d_SQ_init_41 : decode b_SQ_init 41 = .ok (.aload_n 0, 1) := by decide +kernel
theorem d_SQ_init_42 : decode b_SQ_init 42 = .ok (.new 32, 3) := by decide +kernel
theorem d_SQ_init_45 : decode b_SQ_init 45 = .ok (.dup, 1) := by decide +kernel
theorem d_SQ_init_46 : decode b_SQ_init 46 = .ok (.aload_n 0, 1) := by decide +kernel
theorem d_SQ_init_47 : decode b_SQ_init 47 = .ok (.getfield 12, 3) := by decide +kernel
theorem d_SQ_init_50 : decode b_SQ_init 50 = .ok (.invokespecial 34, 3) := by decide +kernel
theorem d_SQ_init_53 : decode b_SQ_init 53 = .ok (.putfield 35, 3) := by decide +kernel
theorem d_SQ_init_56 : decode b_SQ_init 56 = .ok (.aload_n 0, 1) := by decide +kernel
theorem d_SQ_init_57 : decode b_SQ_init 57 = .ok (.new 39, 3) := by decide +kernel
theorem d_SQ_init_60 : decode b_SQ_init 60 = .ok (.dup, 1) := by decide +kernel
theorem d_SQ_init_61 : decode b_SQ_init 61 = .ok (.invokespecial 41, 3) := by decide +kernel
theorem d_SQ_init_64 : decode b_SQ_init 64 = .ok (.putfield 42, 3) := by decide +kernel
theorem d_SQ_init_67 : decode b_SQ_init 67 = .ok (.aload_n 0, 1) := by decide +kernel
theorem d_SQ_init_68 : decode b_SQ_init 68 = .ok (.new 39, 3) := by decide +kernel
theorem d_SQ_init_71 : decode b_SQ_init 71 = .ok (.dup, 1) := by decide +kernel
theorem d_SQ_init_72 : decode b_SQ_init 72 = .ok (.invokespecial 41, 3) := by decide +kernel
theorem d_SQ_init_75 : decode b_SQ_init 75 = .ok (.putfield 46, 3) := by decide +kernel
theorem d_SQ_init_78 : decode b_SQ_init 78 = .ok (.aload_n 0, 1) := by decide +kernel
theorem d_SQ_init_79 : decode b_SQ_init 79 = .ok (.sipush 200, 3) := by decide +kernel
theorem d_SQ_init_82 : decode b_SQ_init 82 = .ok (.newarray .int, 2) := by decide +kernel
theorem d_SQ_init_84 : decode b_SQ_init 84 = .ok (.putfield 49, 3) := by decide +kernel
theorem d_SQ_init_87 : decode b_SQ_init 87 = .ok (.return_, 1) := by decide +kernel
theorem d_SQ_format_0 : decode b_SQ_format 0 = .ok (.iload_n 1, 1) := by decide +kernel
theorem d_SQ_format_1 : decode b_SQ_format 1 = .ok (.iconst 4, 1) := by decide +kernel
theorem d_SQ_format_2 : decode b_SQ_format 2 = .ok (.if_icmp .lt 10, 3) := by decide +kernel
theorem d_SQ_format_5 : decode b_SQ_format 5 = .ok (.iload_n 1, 1) := by decide +kernel
theorem d_SQ_format_6 : decode b_SQ_format 6 = .ok (.sipush 200, 3) := by decide +kernel
theorem d_SQ_format_9 : decode b_SQ_format 9 = .ok (.if_icmp .le 13, 3) := by decide +kernel
theorem d_SQ_format_12 : decode b_SQ_format 12 = .ok (.new 53, 3) := by decide +kernel
theorem d_SQ_format_15 : decode b_SQ_format 15 = .ok (.dup, 1) := by decide +kernel
theorem d_SQ_format_16 : decode b_SQ_format 16 = .ok (.ldc 55, 2) := by decide +kernel
theorem d_SQ_format_18 : decode b_SQ_format 18 = .ok (.invokespecial 57, 3) := by decide +kernel
theorem d_SQ_format_21 : decode b_SQ_format 21 = .ok (.athrow, 1) := by decide +kernel
theorem d_SQ_format_22 : decode b_SQ_format 22 = .ok (.iload_n 2, 1) := by decide +kernel
theorem d_SQ_format_23 : decode b_SQ_format 23 = .ok (.bipush 11, 2) := by decide +kernel
theorem d_SQ_format_25 : decode b_SQ_format 25 = .ok (.if_icmp .lt 9, 3) := by decide +kernel
theorem d_SQ_format_28 : decode b_SQ_format 28 = .ok (.iload_n 2, 1) := by decide +kernel
theorem d_SQ_format_29 : decode b_SQ_format 29 = .ok (.bipush 40, 2) := by decide +kernel
theorem d_SQ_format_31 : decode b_SQ_format 31 = .ok (.if_icmp .le 13, 3) := by decide +kernel
theorem d_SQ_format_34 : decode b_SQ_format 34 = .ok (.new 53, 3) := by decide +kernel
theorem d_SQ_format_37 : decode b_SQ_format 37 = .ok (.dup, 1) := by decide +kernel
theorem d_SQ_format_38 : decode b_SQ_format 38 = .ok (.ldc 60, 2) := by decide +kernel
theorem d_SQ_format_40 : decode b_SQ_format 40 = .ok (.invokespecial 57, 3) := by decide +kernel
theorem d_SQ_format_43 : decode b_SQ_format 43 = .ok (.athrow, 1) := by decide +kernel
theorem d_SQ_format_44 : decode b_SQ_format 44 = .ok (.iload_n 3, 1) := by decide +kernel
theorem d_SQ_format_45 : decode b_SQ_format 45 = .ok (.iconst 1, 1) := by decide +kernel
theorem d_SQ_format_46 : decode b_SQ_format 46 = .ok (.if_icmp .lt 9, 3) := by decide +kernel
theorem d_SQ_format_49 : decode b_SQ_format 49 = .ok (.iload_n 3, 1) := by decide +kernel
theorem d_SQ_format_50 : decode b_SQ_format 50 = .ok (.bipush 100, 2) := by decide +kernel
theorem d_SQ_format_52 : decode b_SQ_format 52 = .ok (.if_icmp .le 13, 3) := by decide +kernel
theorem d_SQ_format_55 : decode b_SQ_format 55 = .ok (.new 53, 3) := by decide +kernel
theorem d_SQ_format_58 : decode b_SQ_format 58 = .ok (.dup, 1) := by decide +kernel
theorem d_SQ_format_59 : decode b_SQ_format 59 = .ok (.ldc 62, 2) := by decide +kernel
theorem d_SQ_format_61 : decode b_SQ_format 61 = .ok (.invokespecial 57, 3) := by decide +kernel
theorem d_SQ_format_64 : decode b_SQ_format 64 = .ok (.athrow, 1) := by decide +kernel
theorem d_SQ_format_65 : decode b_SQ_format 65 = .ok (.iload 4, 2) := by decide +kernel
theorem d_SQ_format_67 : decode b_SQ_format 67 = .ok (.iconst 2, 1) := by decide +kernel
theorem d_SQ_format_68 : decode b_SQ_format 68 = .ok (.if_icmp .lt 9, 3) := by decide +kernel
theorem d_SQ_format_71 : decode b_SQ_format 71 = .ok (.iload 4, 2) := by decide +kernel
theorem d_SQ_format_73 : decode b_SQ_format 73 = .ok (.iconst 5, 1) := by decide +kernel
theorem d_SQ_format_74 : decode b_SQ_format 74 = .ok (.if_icmp .le 13, 3) := by decide +kernel
theorem d_SQ_format_77 : decode b_SQ_format 77 = .ok (.new 53, 3) := by decide +kernel
theorem d_SQ_format_80 : decode b_SQ_format 80 = .ok (.dup, 1) := by decide +kernel
theorem d_SQ_format_81 : decode b_SQ_format 81 = .ok (.ldc 64, 2) := by decide +kernel
theorem d_SQ_format_83 : decode b_SQ_format 83 = .ok (.invokespecial 57, 3) := by decide +kernel
theorem d_SQ_format_86 : decode b_SQ_format 86 = .ok (.athrow, 1) := by decide +kernel
theorem d_SQ_format_87 : decode b_SQ_format 87 = .ok (.aload_n 0, 1) := by decide +kernel
theorem d_SQ_format_88 : decode b_SQ_format 88 = .ok (.invokevirtual 66, 3) := by decide +kernel
theorem d_SQ_format_91 : decode b_SQ_format 91 = .ok (.aload_n 0, 1) := by decide +kernel
theorem d_SQ_format_92 : decode b_SQ_format 92 = .ok (.getfield 12, 3) := by decide +kernel
theorem d_SQ_format_95 : decode b_SQ_format 95 = .ok (.iload_n 1, 1) := by decide +kernel
theorem d_SQ_format_96 : decode b_SQ_format 96 = .ok (.iload_n 2, 1) := by decide +kernel
theorem d_SQ_format_97 : decode b_SQ_format 97 = .ok (.invokevirtual 69, 3) := by decide +kernel
theorem d_SQ_format_100 : decode b_SQ_format 100 = .ok (.aload_n 0, 1) := by decide +kernel
theorem d_SQ_format_101 : decode b_SQ_format 101 = .ok (.getfield 19, 3) := by decide +kernel
theorem d_SQ_format_104 : decode b_SQ_format 104 = .ok (.iload_n 3, 1) := by decide +kernel
theorem d_SQ_format_105 : decode b_SQ_format 105 = .ok (.putfield 73, 3) := by decide +kernel
theorem d_SQ_format_108 : decode b_SQ_format 108 = .ok (.aload_n 0, 1) := by decide +kernel
theorem d_SQ_format_109 : decode b_SQ_format 109 = .ok (.iload 4, 2) := by decide +kernel
theorem d_SQ_format_111 : decode b_SQ_format 111 = .ok (.putfield 77, 3) := by decide +kernel
theorem d_SQ_format_114 : decode b_SQ_format 114 = .ok (.aload_n 0, 1) := by decide +kernel
theorem d_SQ_format_115 : decode b_SQ_format 115 = .ok (.iconst 1, 1) := by decide +kernel
theorem d_SQ_format_116 : decode b_SQ_format 116 = .ok (.putfield 80, 3) := by decide +kernel
theorem d_SQ_format_119 : decode b_SQ_format 119 = .ok (.aload_n 0, 1) := by decide +kernel
theorem d_SQ_format_120 : decode b_SQ_format 120 = .ok (.invokevirtual 84, 3) := by decide +kernel
theorem d_SQ_format_123 : decode b_SQ_format 123 = .ok (.pop, 1) := by decide +kernel
theorem d_SQ_format_124 : decode b_SQ_format 124 = .ok (.return_, 1) := by decide +kernel
theorem d_SQ_insert_0 : decode b_SQ_insert 0 = .ok (.aload_n 0, 1) := by decide +kernel
theorem d_SQ_insert_1 : decode b_SQ_insert 1 = .ok (.invokevirtual 88, 3) := by decide +kernel
theorem d_SQ_insert_4 : decode b_SQ_insert 4 = .ok (.iload_n 1, 1) := by decide +kernel
theorem d_SQ_insert_5 : decode b_SQ_insert 5 = .ok (.ifCond .ge 13, 3) := by decide +kernel
theorem d_SQ_insert_8 : decode b_SQ_insert 8 = .ok (.new 53, 3) := by decide +kernel
theorem d_SQ_insert_11 : decode b_SQ_insert 11 = .ok (.dup, 1) := by decide +kernel
theorem d_SQ_insert_12 : decode b_SQ_insert 12 = .ok (.ldc 91, 2) := by decide +kernel
theorem d_SQ_insert_14 : decode b_SQ_insert 14 = .ok (.invokespecial 57, 3) := by decide +kernel
theorem d_SQ_insert_17 : decode b_SQ_insert 17 = .ok (.athrow, 1) := by decide +kernel
theorem d_SQ_insert_18 : decode b_SQ_insert 18 = .ok (.aload_n 0, 1) := by decide +kernel
theorem d_SQ_insert_19 : decode b_SQ_insert 19 = .ok (.getfield 19, 3) := by decide +kernel
theorem d_SQ_insert_22 : decode b_SQ_insert 22 = .ok (.invokevirtual 93, 3) := by decide +kernel
theorem d_SQ_insert_25 : decode b_SQ_insert 25 = .ok (.ifCond .eq 14, 3) := by decide +kernel
theorem d_SQ_insert_28 : decode b_SQ_insert 28 = .ok (.aload_n 0, 1) := by decide +kernel
theorem d_SQ_insert_29 : decode b_SQ_insert 29 = .ok (.invokevirtual 97, 3) := by decide +kernel
theorem d_SQ_insert_32 : decode b_SQ_insert 32 = .ok (.istore_n 2, 1) := by decide +kernel
theorem d_SQ_insert_33 : decode b_SQ_insert 33 = .ok (.iload_n 2, 1) := by decide +kernel
theorem d_SQ_insert_34 : decode b_SQ_insert 34 = .ok (.ifCond .eq 5, 3) := by decide +kernel
theorem d_SQ_insert_37 : decode b_SQ_insert 37 = .ok (.iload_n 2, 1) := by decide +kernel
theorem d_SQ_insert_38 : decode b_SQ_insert 38 = .ok (.ireturn, 1) := by decide +kernel
theorem d_SQ_insert_39 : decode b_SQ_insert 39 = .ok (.aload_n 0, 1) := by decide +kernel
theorem d_SQ_insert_40 : decode b_SQ_insert 40 = .ok (.getfield 19, 3) := by decide +kernel
theorem d_SQ_insert_43 : decode b_SQ_insert 43 = .ok (.iload_n 1, 1) := by decide +kernel
theorem d_SQ_insert_44 : decode b_SQ_insert 44 = .ok (.invokevirtual 100, 3) := by decide +kernel
theorem d_SQ_insert_47 : decode b_SQ_insert 47 = .ok (.iconst 0, 1) := by decide +kernel
theorem d_SQ_insert_48 : decode b_SQ_insert 48 = .ok (.ireturn, 1) := by decide +kernel
theorem d_SQ_min_0 : decode b_SQ_min 0 = .ok (.aload_n 0, 1) := by decide +kernel
theorem d_SQ_min_1 : decode b_SQ_min 1 = .ok (.invokevirtual 88, 3) := by decide +kernel
theorem d_SQ_min_4 : decode b_SQ_min 4 = .ok (.aload_n 0, 1) := by decide +kernel
theorem d_SQ_min_5 : decode b_SQ_min 5 = .ok (.getfield 28, 3) := by decide +kernel
theorem d_SQ_min_8 : decode b_SQ_min 8 = .ok (.iconst 0, 1) := by decide +kernel
theorem d_SQ_min_9 : decode b_SQ_min 9 = .ok (.invokevirtual 104, 3) := by decide +kernel
theorem d_SQ_min_12 : decode b_SQ_min 12 = .ok (.istore_n 1, 1) := by decide +kernel
theorem d_SQ_min_13 : decode b_SQ_min 13 = .ok (.aload_n 0, 1) := by decide +kernel
theorem d_SQ_min_14 : decode b_SQ_min 14 = .ok (.iload_n 1, 1) := by decide +kernel
theorem d_SQ_min_15 : decode b_SQ_min 15 = .ok (.invokevirtual 108, 3) := by decide +kernel
theorem d_SQ_min_18 : decode b_SQ_min 18 = .ok (.ifCond .eq 13, 3) := by decide +kernel
theorem d_SQ_min_21 : decode b_SQ_min 21 = .ok (.aload_n 0, 1) := by decide +kernel
theorem d_SQ_min_22 : decode b_SQ_min 22 = .ok (.getfield 19, 3) := by decide +kernel
theorem d_SQ_min_25 : decode b_SQ_min 25 = .ok (.invokevirtual 112, 3) := by decide +kernel
theorem d_SQ_min_28 : decode b_SQ_min 28 = .ok (.goto 11, 3) := by decide +kernel
theorem d_SQ_min_31 : decode b_SQ_min 31 = .ok (.aload_n 0, 1) := by decide +kernel
theorem d_SQ_min_32 : decode b_SQ_min 32 = .ok (.getfield 28, 3) := by decide +kernel
theorem d_SQ_min_35 : decode b_SQ_min 35 = .ok (.iload_n 1, 1) := by decide +kernel
theorem d_SQ_min_36 : decode b_SQ_min 36 = .ok (.invokevirtual 115, 3) := by decide +kernel
theorem d_SQ_min_39 : decode b_SQ_min 39 = .ok (.ireturn, 1) := by decide +kernel
theorem d_SQ_take_0 : decode b_SQ_take 0 = .ok (.aload_n 0, 1) := by decide +kernel
theorem d_SQ_take_1 : decode b_SQ_take 1 = .ok (.invokevirtual 88, 3) := by decide +kernel
theorem d_SQ_take_4 : decode b_SQ_take 4 = .ok (.aload_n 0, 1) := by decide +kernel
theorem d_SQ_take_5 : decode b_SQ_take 5 = .ok (.getfield 28, 3) := by decide +kernel
theorem d_SQ_take_8 : decode b_SQ_take 8 = .ok (.iconst 0, 1) := by decide +kernel
theorem d_SQ_take_9 : decode b_SQ_take 9 = .ok (.invokevirtual 104, 3) := by decide +kernel
theorem d_SQ_take_12 : decode b_SQ_take 12 = .ok (.istore_n 1, 1) := by decide +kernel
theorem d_SQ_take_13 : decode b_SQ_take 13 = .ok (.aload_n 0, 1) := by decide +kernel
theorem d_SQ_take_14 : decode b_SQ_take 14 = .ok (.iload_n 1, 1) := by decide +kernel
theorem d_SQ_take_15 : decode b_SQ_take 15 = .ok (.invokevirtual 108, 3) := by decide +kernel
theorem d_SQ_take_18 : decode b_SQ_take 18 = .ok (.ifCond .eq 11, 3) := by decide +kernel
theorem d_SQ_take_21 : decode b_SQ_take 21 = .ok (.aload_n 0, 1) := by decide +kernel
theorem d_SQ_take_22 : decode b_SQ_take 22 = .ok (.getfield 19, 3) := by decide +kernel
theorem d_SQ_take_25 : decode b_SQ_take 25 = .ok (.invokevirtual 119, 3) := by decide +kernel
theorem d_SQ_take_28 : decode b_SQ_take 28 = .ok (.ireturn, 1) := by decide +kernel
theorem d_SQ_take_29 : decode b_SQ_take 29 = .ok (.aload_n 0, 1) := by decide +kernel
theorem d_SQ_take_30 : decode b_SQ_take 30 = .ok (.getfield 28, 3) := by decide +kernel
theorem d_SQ_take_33 : decode b_SQ_take 33 = .ok (.iload_n 1, 1) := by decide +kernel
theorem d_SQ_take_34 : decode b_SQ_take 34 = .ok (.invokevirtual 122, 3) := by decide +kernel
theorem d_SQ_take_37 : decode b_SQ_take 37 = .ok (.istore_n 2, 1) := by decide +kernel
theorem d_SQ_take_38 : decode b_SQ_take 38 = .ok (.aload_n 0, 1) := by decide +kernel
theorem d_SQ_take_39 : decode b_SQ_take 39 = .ok (.getfield 28, 3) := by decide +kernel
theorem d_SQ_take_42 : decode b_SQ_take 42 = .ok (.invokevirtual 125, 3) := by decide +kernel
theorem d_SQ_take_45 : decode b_SQ_take 45 = .ok (.iload_n 2, 1) := by decide +kernel
theorem d_SQ_take_46 : decode b_SQ_take 46 = .ok (.ireturn, 1) := by decide +kernel
theorem d_SQ_sync_0 : decode b_SQ_sync 0 = .ok (.aload_n 0, 1) := by decide +kernel
theorem d_SQ_sync_1 : decode b_SQ_sync 1 = .ok (.invokevirtual 88, 3) := by decide +kernel
theorem d_SQ_sync_4 : decode b_SQ_sync 4 = .ok (.aload_n 0, 1) := by decide +kernel
theorem d_SQ_sync_5 : decode b_SQ_sync 5 = .ok (.getfield 19, 3) := by decide +kernel
theorem d_SQ_sync_8 : decode b_SQ_sync 8 = .ok (.invokevirtual 128, 3) := by decide +kernel
theorem d_SQ_sync_11 : decode b_SQ_sync 11 = .ok (.ifCond .le 14, 3) := by decide +kernel
theorem d_SQ_sync_14 : decode b_SQ_sync 14 = .ok (.aload_n 0, 1) := by decide +kernel
theorem d_SQ_sync_15 : decode b_SQ_sync 15 = .ok (.invokevirtual 97, 3) := by decide +kernel
theorem d_SQ_sync_18 : decode b_SQ_sync 18 = .ok (.istore_n 1, 1) := by decide +kernel
theorem d_SQ_sync_19 : decode b_SQ_sync 19 = .ok (.iload_n 1, 1) := by decide +kernel
theorem d_SQ_sync_20 : decode b_SQ_sync 20 = .ok (.ifCond .eq 5, 3) := by decide +kernel
theorem d_SQ_sync_23 : decode b_SQ_sync 23 = .ok (.iload_n 1, 1) := by decide +kernel
theorem d_SQ_sync_24 : decode b_SQ_sync 24 = .ok (.ireturn, 1) := by decide +kernel
theorem d_SQ_sync_25 : decode b_SQ_sync 25 = .ok (.aload_n 0, 1) := by decide +kernel
theorem d_SQ_sync_26 : decode b_SQ_sync 26 = .ok (.invokevirtual 84, 3) := by decide +kernel
theorem d_SQ_sync_29 : decode b_SQ_sync 29 = .ok (.ireturn, 1) := by decide +kernel
theorem d_SQ_cutAt_0 : decode b_SQ_cutAt 0 = .ok (.aload_n 0, 1) := by decide +kernel
theorem d_SQ_cutAt_1 : decode b_SQ_cutAt 1 = .ok (.invokevirtual 88, 3) := by decide +kernel
theorem d_SQ_cutAt_4 : decode b_SQ_cutAt 4 = .ok (.iload_n 1, 1) := by decide +kernel
theorem d_SQ_cutAt_5 : decode b_SQ_cutAt 5 = .ok (.ifCond .lt 10, 3) := by decide +kernel
theorem d_SQ_cutAt_8 : decode b_SQ_cutAt 8 = .ok (.iload_n 1, 1) := by decide +kernel
theorem d_SQ_cutAt_9 : decode b_SQ_cutAt 9 = .ok (.sipush 10000, 3) := by decide +kernel
theorem d_SQ_cutAt_12 : decode b_SQ_cutAt 12 = .ok (.if_icmp .le 13, 3) := by decide +kernel
theorem d_SQ_cutAt_15 : decode b_SQ_cutAt 15 = .ok (.new 53, 3) := by decide +kernel
theorem d_SQ_cutAt_18 : decode b_SQ_cutAt 18 = .ok (.dup, 1) := by decide +kernel
theorem d_SQ_cutAt_19 : decode b_SQ_cutAt 19 = .ok (.ldc 131, 2) := by decide +kernel
theorem d_SQ_cutAt_21 : decode b_SQ_cutAt 21 = .ok (.invokespecial 57, 3) := by decide +kernel
theorem d_SQ_cutAt_24 : decode b_SQ_cutAt 24 = .ok (.athrow, 1) := by decide +kernel
theorem d_SQ_cutAt_25 : decode b_SQ_cutAt 25 = .ok (.aload_n 0, 1) := by decide +kernel
theorem d_SQ_cutAt_26 : decode b_SQ_cutAt 26 = .ok (.getfield 12, 3) := by decide +kernel
theorem d_SQ_cutAt_29 : decode b_SQ_cutAt 29 = .ok (.iload_n 1, 1) := by decide +kernel
theorem d_SQ_cutAt_30 : decode b_SQ_cutAt 30 = .ok (.putfield 133, 3) := by decide +kernel
theorem d_SQ_cutAt_33 : decode b_SQ_cutAt 33 = .ok (.return_, 1) := by decide +kernel
theorem d_SQ_cut_0 : decode b_SQ_cut 0 = .ok (.aload_n 0, 1) := by decide +kernel
theorem d_SQ_cut_1 : decode b_SQ_cut 1 = .ok (.invokevirtual 136, 3) := by decide +kernel
theorem d_SQ_cut_4 : decode b_SQ_cut 4 = .ok (.aload_n 0, 1) := by decide +kernel
theorem d_SQ_cut_5 : decode b_SQ_cut 5 = .ok (.invokevirtual 66, 3) := by decide +kernel
theorem d_SQ_cut_8 : decode b_SQ_cut 8 = .ok (.return_, 1) := by decide +kernel
theorem d_SQ_recover_0 : decode b_SQ_recover 0 = .ok (.aload_n 0, 1) := by decide +kernel
theorem d_SQ_recover_1 : decode b_SQ_recover 1 = .ok (.invokevirtual 136, 3) := by decide +kernel
theorem d_SQ_recover_4 : decode b_SQ_recover 4 = .ok (.aload_n 0, 1) := by decide +kernel
theorem d_SQ_recover_5 : decode b_SQ_recover 5 = .ok (.invokevirtual 66, 3) := by decide +kernel
theorem d_SQ_recover_8 : decode b_SQ_recover 8 = .ok (.aload_n 0, 1) := by decide +kernel
theorem d_SQ_recover_9 : decode b_SQ_recover 9 = .ok (.getfield 35, 3) := by decide +kernel
theorem d_SQ_recover_12 : decode b_SQ_recover 12 = .ok (.invokevirtual 139, 3) := by decide +kernel
theorem d_SQ_recover_15 : decode b_SQ_recover 15 = .ok (.istore_n 1, 1) := by decide +kernel
theorem d_SQ_recover_16 : decode b_SQ_recover 16 = .ok (.iload_n 1, 1) := by decide +kernel
theorem d_SQ_recover_17 : decode b_SQ_recover 17 = .ok (.ifCond .ge 6, 3) := by decide +kernel
theorem d_SQ_recover_20 : decode b_SQ_recover 20 = .ok (.bipush (-3), 2) := by decide +kernel
theorem d_SQ_recover_22 : decode b_SQ_recover 22 = .ok (.ireturn, 1) := by decide +kernel
theorem d_SQ_recover_23 : decode b_SQ_recover 23 = .ok (.aload_n 0, 1) := by decide +kernel
theorem d_SQ_recover_24 : decode b_SQ_recover 24 = .ok (.getfield 35, 3) := by decide +kernel
theorem d_SQ_recover_27 : decode b_SQ_recover 27 = .ok (.iload_n 1, 1) := by decide +kernel
theorem d_SQ_recover_28 : decode b_SQ_recover 28 = .ok (.aload_n 0, 1) := by decide +kernel
theorem d_SQ_recover_29 : decode b_SQ_recover 29 = .ok (.getfield 28, 3) := by decide +kernel
theorem d_SQ_recover_32 : decode b_SQ_recover 32 = .ok (.invokevirtual 142, 3) := by decide +kernel
theorem d_SQ_recover_35 : decode b_SQ_recover 35 = .ok (.aload_n 0, 1) := by decide +kernel
theorem d_SQ_recover_36 : decode b_SQ_recover 36 = .ok (.aload_n 0, 1) := by decide +kernel
theorem d_SQ_recover_37 : decode b_SQ_recover 37 = .ok (.getfield 35, 3) := by decide +kernel
theorem d_SQ_recover_40 : decode b_SQ_recover 40 = .ok (.iload_n 1, 1) := by decide +kernel
theorem d_SQ_recover_41 : decode b_SQ_recover 41 = .ok (.invokevirtual 146, 3) := by decide +kernel
theorem d_SQ_recover_44 : decode b_SQ_recover 44 = .ok (.putfield 149, 3) := by decide +kernel
theorem d_SQ_recover_47 : decode b_SQ_recover 47 = .ok (.aload_n 0, 1) := by decide +kernel
theorem d_SQ_recover_48 : decode b_SQ_recover 48 = .ok (.getfield 28, 3) := by decide +kernel
theorem d_SQ_recover_51 : decode b_SQ_recover 51 = .ok (.aload_n 0, 1) := by decide +kernel
theorem d_SQ_recover_52 : decode b_SQ_recover 52 = .ok (.getfield 42, 3) := by decide +kernel
theorem d_SQ_recover_55 : decode b_SQ_recover 55 = .ok (.invokevirtual 152, 3) := by decide +kernel
theorem d_SQ_recover_58 : decode b_SQ_recover 58 = .ok (.aload_n 0, 1) := by decide +kernel
theorem d_SQ_recover_59 : decode b_SQ_recover 59 = .ok (.iconst 1, 1) := by decide +kernel
theorem d_SQ_recover_60 : decode b_SQ_recover 60 = .ok (.putfield 80, 3) := by decide +kernel
theorem d_SQ_recover_63 : decode b_SQ_recover 63 = .ok (.aload_n 0, 1) := by decide +kernel
theorem d_SQ_recover_64 : decode b_SQ_recover 64 = .ok (.getfield 28, 3) := by decide +kernel
theorem d_SQ_recover_67 : decode b_SQ_recover 67 = .ok (.invokevirtual 156, 3) := by decide +kernel
theorem d_SQ_recover_70 : decode b_SQ_recover 70 = .ok (.ireturn, 1) := by decide +kernel
theorem d_SQ_size_0 : decode b_SQ_size 0 = .ok (.aload_n 0, 1) := by decide +kernel
theorem d_SQ_size_1 : decode b_SQ_size 1 = .ok (.getfield 80, 3) := by decide +kernel
theorem d_SQ_size_4 : decode b_SQ_size 4 = .ok (.ifCond .eq 21, 3) := by decide +kernel
theorem d_SQ_size_7 : decode b_SQ_size 7 = .ok (.aload_n 0, 1) := by decide +kernel
theorem d_SQ_size_8 : decode b_SQ_size 8 = .ok (.getfield 19, 3) := by decide +kernel
theorem d_SQ_size_11 : decode b_SQ_size 11 = .ok (.invokevirtual 128, 3) := by decide +kernel
theorem d_SQ_size_14 : decode b_SQ_size 14 = .ok (.aload_n 0, 1) := by decide +kernel
theorem d_SQ_size_15 : decode b_SQ_size 15 = .ok (.getfield 28, 3) := by decide +kernel
theorem d_SQ_size_18 : decode b_SQ_size 18 = .ok (.invokevirtual 156, 3) := by decide +kernel
theorem d_SQ_size_21 : decode b_SQ_size 21 = .ok (.iadd, 1) := by decide +kernel
theorem d_SQ_size_22 : decode b_SQ_size 22 = .ok (.goto 4, 3) := by decide +kernel
theorem d_SQ_size_25 : decode b_SQ_size 25 = .ok (.iconst 0, 1) := by decide +kernel
theorem d_SQ_size_26 : decode b_SQ_size 26 = .ok (.ireturn, 1) := by decide +kernel
theorem d_SQ_run_0 : decode b_SQ_run 0 = .ok (.aload_n 0, 1) := by decide +kernel
theorem d_SQ_run_1 : decode b_SQ_run 1 = .ok (.invokevirtual 88, 3) := by decide +kernel
theorem d_SQ_run_4 : decode b_SQ_run 4 = .ok (.aload_n 0, 1) := by decide +kernel
theorem d_SQ_run_5 : decode b_SQ_run 5 = .ok (.getfield 28, 3) := by decide +kernel
theorem d_SQ_run_8 : decode b_SQ_run 8 = .ok (.iload_n 1, 1) := by decide +kernel
theorem d_SQ_run_9 : decode b_SQ_run 9 = .ok (.invokevirtual 159, 3) := by decide +kernel
theorem d_SQ_run_12 : decode b_SQ_run 12 = .ok (.ifCond .ne 13, 3) := by decide +kernel
theorem d_SQ_run_15 : decode b_SQ_run 15 = .ok (.new 162, 3) := by decide +kernel
theorem d_SQ_run_18 : decode b_SQ_run 18 = .ok (.dup, 1) := by decide +kernel
theorem d_SQ_run_19 : decode b_SQ_run 19 = .ok (.ldc 164, 2) := by decide +kernel
theorem d_SQ_run_21 : decode b_SQ_run 21 = .ok (.invokespecial 166, 3) := by decide +kernel
theorem d_SQ_run_24 : decode b_SQ_run 24 = .ok (.athrow, 1) := by decide +kernel
theorem d_SQ_run_25 : decode b_SQ_run 25 = .ok (.iload_n 2, 1) := by decide +kernel
theorem d_SQ_run_26 : decode b_SQ_run 26 = .ok (.tableswitch 114 0 5 #[38, 48, 58, 68, 78, 105], 38) := by decide +kernel
theorem d_SQ_run_64 : decode b_SQ_run 64 = .ok (.aload_n 0, 1) := by decide +kernel
theorem d_SQ_run_65 : decode b_SQ_run 65 = .ok (.getfield 28, 3) := by decide +kernel
theorem d_SQ_run_68 : decode b_SQ_run 68 = .ok (.getfield 167, 3) := by decide +kernel
theorem d_SQ_run_71 : decode b_SQ_run 71 = .ok (.iload_n 1, 1) := by decide +kernel
theorem d_SQ_run_72 : decode b_SQ_run 72 = .ok (.iaload, 1) := by decide +kernel
theorem d_SQ_run_73 : decode b_SQ_run 73 = .ok (.ireturn, 1) := by decide +kernel
theorem d_SQ_run_74 : decode b_SQ_run 74 = .ok (.aload_n 0, 1) := by decide +kernel
theorem d_SQ_run_75 : decode b_SQ_run 75 = .ok (.getfield 28, 3) := by decide +kernel
theorem d_SQ_run_78 : decode b_SQ_run 78 = .ok (.getfield 170, 3) := by decide +kernel
theorem d_SQ_run_81 : decode b_SQ_run 81 = .ok (.iload_n 1, 1) := by decide +kernel
theorem d_SQ_run_82 : decode b_SQ_run 82 = .ok (.iaload, 1) := by decide +kernel
theorem d_SQ_run_83 : decode b_SQ_run 83 = .ok (.ireturn, 1) := by decide +kernel
theorem d_SQ_run_84 : decode b_SQ_run 84 = .ok (.aload_n 0, 1) := by decide +kernel
theorem d_SQ_run_85 : decode b_SQ_run 85 = .ok (.getfield 28, 3) := by decide +kernel
theorem d_SQ_run_88 : decode b_SQ_run 88 = .ok (.getfield 173, 3) := by decide +kernel
theorem d_SQ_run_91 : decode b_SQ_run 91 = .ok (.iload_n 1, 1) := by decide +kernel
theorem d_SQ_run_92 : decode b_SQ_run 92 = .ok (.iaload, 1) := by decide +kernel
theorem d_SQ_run_93 : decode b_SQ_run 93 = .ok (.ireturn, 1) := by decide +kernel
theorem d_SQ_run_94 : decode b_SQ_run 94 = .ok (.aload_n 0, 1) := by decide +kernel
theorem d_SQ_run_95 : decode b_SQ_run 95 = .ok (.getfield 28, 3) := by decide +kernel
theorem d_SQ_run_98 : decode b_SQ_run 98 = .ok (.getfield 176, 3) := by decide +kernel
theorem d_SQ_run_101 : decode b_SQ_run 101 = .ok (.iload_n 1, 1) := by decide +kernel
theorem d_SQ_run_102 : decode b_SQ_run 102 = .ok (.iaload, 1) := by decide +kernel
theorem d_SQ_run_103 : decode b_SQ_run 103 = .ok (.ireturn, 1) := by decide +kernel
theorem d_SQ_run_104 : decode b_SQ_run 104 = .ok (.aload_n 0, 1) := by decide +kernel
theorem d_SQ_run_105 : decode b_SQ_run 105 = .ok (.getfield 12, 3) := by decide +kernel
theorem d_SQ_run_108 : decode b_SQ_run 108 = .ok (.aload_n 0, 1) := by decide +kernel
theorem d_SQ_run_109 : decode b_SQ_run 109 = .ok (.getfield 28, 3) := by decide +kernel
theorem d_SQ_run_112 : decode b_SQ_run 112 = .ok (.getfield 170, 3) := by decide +kernel
theorem d_SQ_run_115 : decode b_SQ_run 115 = .ok (.iload_n 1, 1) := by decide +kernel
theorem d_SQ_run_116 : decode b_SQ_run 116 = .ok (.iaload, 1) := by decide +kernel
theorem d_SQ_run_117 : decode b_SQ_run 117 = .ok (.aload_n 0, 1) := by decide +kernel
theorem d_SQ_run_118 : decode b_SQ_run 118 = .ok (.getfield 28, 3) := by decide +kernel
theorem d_SQ_run_121 : decode b_SQ_run 121 = .ok (.getfield 173, 3) := by decide +kernel
theorem d_SQ_run_124 : decode b_SQ_run 124 = .ok (.iload_n 1, 1) := by decide +kernel
theorem d_SQ_run_125 : decode b_SQ_run 125 = .ok (.iaload, 1) := by decide +kernel
theorem d_SQ_run_126 : decode b_SQ_run 126 = .ok (.iadd, 1) := by decide +kernel
theorem d_SQ_run_127 : decode b_SQ_run 127 = .ok (.invokevirtual 179, 3) := by decide +kernel
theorem d_SQ_run_130 : decode b_SQ_run 130 = .ok (.ireturn, 1) := by decide +kernel
theorem d_SQ_run_131 : decode b_SQ_run 131 = .ok (.aload_n 0, 1) := by decide +kernel
theorem d_SQ_run_132 : decode b_SQ_run 132 = .ok (.getfield 28, 3) := by decide +kernel
theorem d_SQ_run_135 : decode b_SQ_run 135 = .ok (.iload_n 1, 1) := by decide +kernel
theorem d_SQ_run_136 : decode b_SQ_run 136 = .ok (.invokevirtual 115, 3) := by decide +kernel
theorem d_SQ_run_139 : decode b_SQ_run 139 = .ok (.ireturn, 1) := by decide +kernel
theorem d_SQ_run_140 : decode b_SQ_run 140 = .ok (.new 162, 3) := by decide +kernel
theorem d_SQ_run_143 : decode b_SQ_run 143 = .ok (.dup, 1) := by decide +kernel
theorem d_SQ_run_144 : decode b_SQ_run 144 = .ok (.ldc 182, 2) := by decide +kernel
theorem d_SQ_run_146 : decode b_SQ_run 146 = .ok (.invokespecial 166, 3) := by decide +kernel
theorem d_SQ_run_149 : decode b_SQ_run 149 = .ok (.athrow, 1) := by decide +kernel
theorem d_SQ_about_0 : decode b_SQ_about 0 = .ok (.iload_n 1, 1) := by decide +kernel
theorem d_SQ_about_1 : decode b_SQ_about 1 = .ok (.tableswitch 153 0 6 #[43, 62, 81, 97, 113, 132, 140], 43) := by decide +kernel
theorem d_SQ_about_44 : decode b_SQ_about 44 = .ok (.aload_n 0, 1) := by decide +kernel
theorem d_SQ_about_45 : decode b_SQ_about 45 = .ok (.getfield 80, 3) := by decide +kernel
theorem d_SQ_about_48 : decode b_SQ_about 48 = .ok (.ifCond .eq 13, 3) := by decide +kernel
theorem d_SQ_about_51 : decode b_SQ_about 51 = .ok (.aload_n 0, 1) := by decide +kernel
theorem d_SQ_about_52 : decode b_SQ_about 52 = .ok (.getfield 28, 3) := by decide +kernel
theorem d_SQ_about_55 : decode b_SQ_about 55 = .ok (.getfield 184, 3) := by decide +kernel
theorem d_SQ_about_58 : decode b_SQ_about 58 = .ok (.goto 4, 3) := by decide +kernel
theorem d_SQ_about_61 : decode b_SQ_about 61 = .ok (.iconst 0, 1) := by decide +kernel
theorem d_SQ_about_62 : decode b_SQ_about 62 = .ok (.ireturn, 1) := by decide +kernel
theorem d_SQ_about_63 : decode b_SQ_about 63 = .ok (.aload_n 0, 1) := by decide +kernel
theorem d_SQ_about_64 : decode b_SQ_about 64 = .ok (.getfield 80, 3) := by decide +kernel
theorem d_SQ_about_67 : decode b_SQ_about 67 = .ok (.ifCond .eq 13, 3) := by decide +kernel
theorem d_SQ_about_70 : decode b_SQ_about 70 = .ok (.aload_n 0, 1) := by decide +kernel
theorem d_SQ_about_71 : decode b_SQ_about 71 = .ok (.getfield 19, 3) := by decide +kernel
theorem d_SQ_about_74 : decode b_SQ_about 74 = .ok (.invokevirtual 128, 3) := by decide +kernel
theorem d_SQ_about_77 : decode b_SQ_about 77 = .ok (.goto 4, 3) := by decide +kernel
theorem d_SQ_about_80 : decode b_SQ_about 80 = .ok (.iconst 0, 1) := by decide +kernel
theorem d_SQ_about_81 : decode b_SQ_about 81 = .ok (.ireturn, 1) := by decide +kernel
theorem d_SQ_about_82 : decode b_SQ_about 82 = .ok (.aload_n 0, 1) := by decide +kernel
theorem d_SQ_about_83 : decode b_SQ_about 83 = .ok (.getfield 80, 3) := by decide +kernel
theorem d_SQ_about_86 : decode b_SQ_about 86 = .ok (.ifCond .eq 10, 3) := by decide +kernel
theorem d_SQ_about_89 : decode b_SQ_about 89 = .ok (.aload_n 0, 1) := by decide +kernel
theorem d_SQ_about_90 : decode b_SQ_about 90 = .ok (.invokevirtual 187, 3) := by decide +kernel
theorem d_SQ_about_93 : decode b_SQ_about 93 = .ok (.goto 4, 3) := by decide +kernel
theorem d_SQ_about_96 : decode b_SQ_about 96 = .ok (.iconst 0, 1) := by decide +kernel
theorem d_SQ_about_97 : decode b_SQ_about 97 = .ok (.ireturn, 1) := by decide +kernel
theorem d_SQ_about_98 : decode b_SQ_about 98 = .ok (.aload_n 0, 1) := by decide +kernel
theorem d_SQ_about_99 : decode b_SQ_about 99 = .ok (.getfield 80, 3) := by decide +kernel
theorem d_SQ_about_102 : decode b_SQ_about 102 = .ok (.ifCond .eq 10, 3) := by decide +kernel
theorem d_SQ_about_105 : decode b_SQ_about 105 = .ok (.aload_n 0, 1) := by decide +kernel
theorem d_SQ_about_106 : decode b_SQ_about 106 = .ok (.getfield 149, 3) := by decide +kernel
theorem d_SQ_about_109 : decode b_SQ_about 109 = .ok (.goto 4, 3) := by decide +kernel
theorem d_SQ_about_112 : decode b_SQ_about 112 = .ok (.iconst 0, 1) := by decide +kernel
theorem d_SQ_about_113 : decode b_SQ_about 113 = .ok (.ireturn, 1) := by decide +kernel
theorem d_SQ_about_114 : decode b_SQ_about 114 = .ok (.aload_n 0, 1) := by decide +kernel
theorem d_SQ_about_115 : decode b_SQ_about 115 = .ok (.getfield 80, 3) := by decide +kernel
theorem d_SQ_about_118 : decode b_SQ_about 118 = .ok (.ifCond .eq 13, 3) := by decide +kernel
theorem d_SQ_about_121 : decode b_SQ_about 121 = .ok (.aload_n 0, 1) := by decide +kernel
theorem d_SQ_about_122 : decode b_SQ_about 122 = .ok (.getfield 12, 3) := by decide +kernel
theorem d_SQ_about_125 : decode b_SQ_about 125 = .ok (.invokevirtual 190, 3) := by decide +kernel
theorem d_SQ_about_128 : decode b_SQ_about 128 = .ok (.goto 4, 3) := by decide +kernel
theorem d_SQ_about_131 : decode b_SQ_about 131 = .ok (.iconst 0, 1) := by decide +kernel
theorem d_SQ_about_132 : decode b_SQ_about 132 = .ok (.ireturn, 1) := by decide +kernel
theorem d_SQ_about_133 : decode b_SQ_about 133 = .ok (.aload_n 0, 1) := by decide +kernel
theorem d_SQ_about_134 : decode b_SQ_about 134 = .ok (.getfield 12, 3) := by decide +kernel
theorem d_SQ_about_137 : decode b_SQ_about 137 = .ok (.getfield 193, 3) := by decide +kernel
theorem d_SQ_about_140 : decode b_SQ_about 140 = .ok (.ireturn, 1) := by decide +kernel
theorem d_SQ_about_141 : decode b_SQ_about 141 = .ok (.aload_n 0, 1) := by decide +kernel
theorem d_SQ_about_142 : decode b_SQ_about 142 = .ok (.getfield 80, 3) := by decide +kernel
theorem d_SQ_about_145 : decode b_SQ_about 145 = .ok (.ifCond .eq 7, 3) := by decide +kernel
theorem d_SQ_about_148 : decode b_SQ_about 148 = .ok (.iconst 0, 1) := by decide +kernel
theorem d_SQ_about_149 : decode b_SQ_about 149 = .ok (.goto 4, 3) := by decide +kernel
theorem d_SQ_about_152 : decode b_SQ_about 152 = .ok (.iconst 1, 1) := by decide +kernel
theorem d_SQ_about_153 : decode b_SQ_about 153 = .ok (.ireturn, 1) := by decide +kernel
theorem d_SQ_about_154 : decode b_SQ_about 154 = .ok (.new 162, 3) := by decide +kernel
theorem d_SQ_about_157 : decode b_SQ_about 157 = .ok (.dup, 1) := by decide +kernel
theorem d_SQ_about_158 : decode b_SQ_about 158 = .ok (.ldc 196, 2) := by decide +kernel
theorem d_SQ_about_160 : decode b_SQ_about 160 = .ok (.invokespecial 166, 3) := by decide +kernel
theorem d_SQ_about_163 : decode b_SQ_about 163 = .ok (.athrow, 1) := by decide +kernel
theorem d_SQ_word_0 : decode b_SQ_word 0 = .ok (.aload_n 0, 1) := by decide +kernel
theorem d_SQ_word_1 : decode b_SQ_word 1 = .ok (.iload_n 1, 1) := by decide +kernel
theorem d_SQ_word_2 : decode b_SQ_word 2 = .ok (.iload_n 2, 1) := by decide +kernel
theorem d_SQ_word_3 : decode b_SQ_word 3 = .ok (.invokevirtual 198, 3) := by decide +kernel
theorem d_SQ_word_6 : decode b_SQ_word 6 = .ok (.aload_n 0, 1) := by decide +kernel
theorem d_SQ_word_7 : decode b_SQ_word 7 = .ok (.getfield 12, 3) := by decide +kernel
theorem d_SQ_word_10 : decode b_SQ_word 10 = .ok (.iload_n 1, 1) := by decide +kernel
theorem d_SQ_word_11 : decode b_SQ_word 11 = .ok (.iload_n 2, 1) := by decide +kernel
theorem d_SQ_word_12 : decode b_SQ_word 12 = .ok (.invokevirtual 201, 3) := by decide +kernel
theorem d_SQ_word_15 : decode b_SQ_word 15 = .ok (.ireturn, 1) := by decide +kernel
theorem d_SQ_spoil_0 : decode b_SQ_spoil 0 = .ok (.aload_n 0, 1) := by decide +kernel
theorem d_SQ_spoil_1 : decode b_SQ_spoil 1 = .ok (.getfield 80, 3) := by decide +kernel
theorem d_SQ_spoil_4 : decode b_SQ_spoil 4 = .ok (.ifCond .eq 13, 3) := by decide +kernel
theorem d_SQ_spoil_7 : decode b_SQ_spoil 7 = .ok (.new 205, 3) := by decide +kernel
theorem d_SQ_spoil_10 : decode b_SQ_spoil 10 = .ok (.dup, 1) := by decide +kernel
theorem d_SQ_spoil_11 : decode b_SQ_spoil 11 = .ok (.ldc 207, 2) := by decide +kernel
theorem d_SQ_spoil_13 : decode b_SQ_spoil 13 = .ok (.invokespecial 209, 3) := by decide +kernel
theorem d_SQ_spoil_16 : decode b_SQ_spoil 16 = .ok (.athrow, 1) := by decide +kernel
theorem d_SQ_spoil_17 : decode b_SQ_spoil 17 = .ok (.aload_n 0, 1) := by decide +kernel
theorem d_SQ_spoil_18 : decode b_SQ_spoil 18 = .ok (.iload_n 1, 1) := by decide +kernel
theorem d_SQ_spoil_19 : decode b_SQ_spoil 19 = .ok (.iload_n 2, 1) := by decide +kernel
theorem d_SQ_spoil_20 : decode b_SQ_spoil 20 = .ok (.invokevirtual 198, 3) := by decide +kernel
theorem d_SQ_spoil_23 : decode b_SQ_spoil 23 = .ok (.aload_n 0, 1) := by decide +kernel
theorem d_SQ_spoil_24 : decode b_SQ_spoil 24 = .ok (.getfield 12, 3) := by decide +kernel
theorem d_SQ_spoil_27 : decode b_SQ_spoil 27 = .ok (.iload_n 1, 1) := by decide +kernel
theorem d_SQ_spoil_28 : decode b_SQ_spoil 28 = .ok (.iload_n 2, 1) := by decide +kernel
theorem d_SQ_spoil_29 : decode b_SQ_spoil 29 = .ok (.iload_n 3, 1) := by decide +kernel
theorem d_SQ_spoil_30 : decode b_SQ_spoil 30 = .ok (.invokevirtual 210, 3) := by decide +kernel
theorem d_SQ_spoil_33 : decode b_SQ_spoil 33 = .ok (.return_, 1) := by decide +kernel
theorem d_SQ_requireLive_0 : decode b_SQ_requireLive 0 = .ok (.aload_n 0, 1) := by decide +kernel
theorem d_SQ_requireLive_1 : decode b_SQ_requireLive 1 = .ok (.getfield 80, 3) := by decide +kernel
theorem d_SQ_requireLive_4 : decode b_SQ_requireLive 4 = .ok (.ifCond .ne 13, 3) := by decide +kernel
theorem d_SQ_requireLive_7 : decode b_SQ_requireLive 7 = .ok (.new 205, 3) := by decide +kernel
theorem d_SQ_requireLive_10 : decode b_SQ_requireLive 10 = .ok (.dup, 1) := by decide +kernel
theorem d_SQ_requireLive_11 : decode b_SQ_requireLive 11 = .ok (.ldc 214, 2) := by decide +kernel
theorem d_SQ_requireLive_13 : decode b_SQ_requireLive 13 = .ok (.invokespecial 209, 3) := by decide +kernel
theorem d_SQ_requireLive_16 : decode b_SQ_requireLive 16 = .ok (.athrow, 1) := by decide +kernel
theorem d_SQ_requireLive_17 : decode b_SQ_requireLive 17 = .ok (.return_, 1) := by decide +kernel
theorem d_SQ_requireDisk_0 : decode b_SQ_requireDisk 0 = .ok (.aload_n 0, 1) := by decide +kernel
theorem d_SQ_requireDisk_1 : decode b_SQ_requireDisk 1 = .ok (.getfield 12, 3) := by decide +kernel
theorem d_SQ_requireDisk_4 : decode b_SQ_requireDisk 4 = .ok (.getfield 216, 3) := by decide +kernel
theorem d_SQ_requireDisk_7 : decode b_SQ_requireDisk 7 = .ok (.ifCond .ne 13, 3) := by decide +kernel
theorem d_SQ_requireDisk_10 : decode b_SQ_requireDisk 10 = .ok (.new 205, 3) := by decide +kernel
theorem d_SQ_requireDisk_13 : decode b_SQ_requireDisk 13 = .ok (.dup, 1) := by decide +kernel
theorem d_SQ_requireDisk_14 : decode b_SQ_requireDisk 14 = .ok (.ldc 219, 2) := by decide +kernel
theorem d_SQ_requireDisk_16 : decode b_SQ_requireDisk 16 = .ok (.invokespecial 209, 3) := by decide +kernel
theorem d_SQ_requireDisk_19 : decode b_SQ_requireDisk 19 = .ok (.athrow, 1) := by decide +kernel
theorem d_SQ_requireDisk_20 : decode b_SQ_requireDisk 20 = .ok (.return_, 1) := by decide +kernel
theorem d_SQ_requireWord_0 : decode b_SQ_requireWord 0 = .ok (.aload_n 0, 1) := by decide +kernel
theorem d_SQ_requireWord_1 : decode b_SQ_requireWord 1 = .ok (.getfield 12, 3) := by decide +kernel
theorem d_SQ_requireWord_4 : decode b_SQ_requireWord 4 = .ok (.iload_n 1, 1) := by decide +kernel
theorem d_SQ_requireWord_5 : decode b_SQ_requireWord 5 = .ok (.iload_n 2, 1) := by decide +kernel
theorem d_SQ_requireWord_6 : decode b_SQ_requireWord 6 = .ok (.invokevirtual 221, 3) := by decide +kernel
theorem d_SQ_requireWord_9 : decode b_SQ_requireWord 9 = .ok (.ifCond .ne 13, 3) := by decide +kernel
theorem d_SQ_requireWord_12 : decode b_SQ_requireWord 12 = .ok (.new 162, 3) := by decide +kernel
theorem d_SQ_requireWord_15 : decode b_SQ_requireWord 15 = .ok (.dup, 1) := by decide +kernel
theorem d_SQ_requireWord_16 : decode b_SQ_requireWord 16 = .ok (.ldc 224, 2) := by decide +kernel
theorem d_SQ_requireWord_18 : decode b_SQ_requireWord 18 = .ok (.invokespecial 166, 3) := by decide +kernel
theorem d_SQ_requireWord_21 : decode b_SQ_requireWord 21 = .ok (.athrow, 1) := by decide +kernel
theorem d_SQ_requireWord_22 : decode b_SQ_requireWord 22 = .ok (.return_, 1) := by decide +kernel
theorem d_SQ_powerOff_0 : decode b_SQ_powerOff 0 = .ok (.aload_n 0, 1) := by decide +kernel
theorem d_SQ_powerOff_1 : decode b_SQ_powerOff 1 = .ok (.iconst 0, 1) := by decide +kernel
theorem d_SQ_powerOff_2 : decode b_SQ_powerOff 2 = .ok (.putfield 80, 3) := by decide +kernel
theorem d_SQ_powerOff_5 : decode b_SQ_powerOff 5 = .ok (.aload_n 0, 1) := by decide +kernel
theorem d_SQ_powerOff_6 : decode b_SQ_powerOff 6 = .ok (.iconst 0, 1) := by decide +kernel
theorem d_SQ_powerOff_7 : decode b_SQ_powerOff 7 = .ok (.putfield 149, 3) := by decide +kernel
theorem d_SQ_powerOff_10 : decode b_SQ_powerOff 10 = .ok (.aload_n 0, 1) := by decide +kernel
theorem d_SQ_powerOff_11 : decode b_SQ_powerOff 11 = .ok (.getfield 19, 3) := by decide +kernel
theorem d_SQ_powerOff_14 : decode b_SQ_powerOff 14 = .ok (.invokevirtual 226, 3) := by decide +kernel
theorem d_SQ_powerOff_17 : decode b_SQ_powerOff 17 = .ok (.aload_n 0, 1) := by decide +kernel
theorem d_SQ_powerOff_18 : decode b_SQ_powerOff 18 = .ok (.getfield 28, 3) := by decide +kernel
theorem d_SQ_powerOff_21 : decode b_SQ_powerOff 21 = .ok (.invokevirtual 229, 3) := by decide +kernel
theorem d_SQ_powerOff_24 : decode b_SQ_powerOff 24 = .ok (.aload_n 0, 1) := by decide +kernel
theorem d_SQ_powerOff_25 : decode b_SQ_powerOff 25 = .ok (.getfield 42, 3) := by decide +kernel
theorem d_SQ_powerOff_28 : decode b_SQ_powerOff 28 = .ok (.invokevirtual 230, 3) := by decide +kernel
theorem d_SQ_powerOff_31 : decode b_SQ_powerOff 31 = .ok (.aload_n 0, 1) := by decide +kernel
theorem d_SQ_powerOff_32 : decode b_SQ_powerOff 32 = .ok (.getfield 12, 3) := by decide +kernel
theorem d_SQ_powerOff_35 : decode b_SQ_powerOff 35 = .ok (.iconst 0, 1) := by decide +kernel
theorem d_SQ_powerOff_36 : decode b_SQ_powerOff 36 = .ok (.putfield 133, 3) := by decide +kernel
theorem d_SQ_powerOff_39 : decode b_SQ_powerOff 39 = .ok (.return_, 1) := by decide +kernel
theorem d_SQ_isLeastInMemory_0 : decode b_SQ_isLeastInMemory 0 = .ok (.aload_n 0, 1) := by decide +kernel
theorem d_SQ_isLeastInMemory_1 : decode b_SQ_isLeastInMemory 1 = .ok (.getfield 19, 3) := by decide +kernel
theorem d_SQ_isLeastInMemory_4 : decode b_SQ_isLeastInMemory 4 = .ok (.invokevirtual 128, 3) := by decide +kernel
theorem d_SQ_isLeastInMemory_7 : decode b_SQ_isLeastInMemory 7 = .ok (.ifCond .le 29, 3) := by decide +kernel
theorem d_SQ_isLeastInMemory_10 : decode b_SQ_isLeastInMemory 10 = .ok (.iload_n 1, 1) := by decide +kernel
theorem d_SQ_isLeastInMemory_11 : decode b_SQ_isLeastInMemory 11 = .ok (.ifCond .lt 21, 3) := by decide +kernel
theorem d_SQ_isLeastInMemory_14 : decode b_SQ_isLeastInMemory 14 = .ok (.aload_n 0, 1) := by decide +kernel
theorem d_SQ_isLeastInMemory_15 : decode b_SQ_isLeastInMemory 15 = .ok (.getfield 19, 3) := by decide +kernel
theorem d_SQ_isLeastInMemory_18 : decode b_SQ_isLeastInMemory 18 = .ok (.invokevirtual 112, 3) := by decide +kernel
theorem d_SQ_isLeastInMemory_21 : decode b_SQ_isLeastInMemory 21 = .ok (.aload_n 0, 1) := by decide +kernel
theorem d_SQ_isLeastInMemory_22 : decode b_SQ_isLeastInMemory 22 = .ok (.getfield 28, 3) := by decide +kernel
theorem d_SQ_isLeastInMemory_25 : decode b_SQ_isLeastInMemory 25 = .ok (.iload_n 1, 1) := by decide +kernel
theorem d_SQ_isLeastInMemory_26 : decode b_SQ_isLeastInMemory 26 = .ok (.invokevirtual 115, 3) := by decide +kernel
theorem d_SQ_isLeastInMemory_29 : decode b_SQ_isLeastInMemory 29 = .ok (.if_icmp .gt 7, 3) := by decide +kernel
theorem d_SQ_isLeastInMemory_32 : decode b_SQ_isLeastInMemory 32 = .ok (.iconst 1, 1) := by decide +kernel
theorem d_SQ_isLeastInMemory_33 : decode b_SQ_isLeastInMemory 33 = .ok (.goto 4, 3) := by decide +kernel
theorem d_SQ_isLeastInMemory_36 : decode b_SQ_isLeastInMemory 36 = .ok (.iconst 0, 1) := by decide +kernel
theorem d_SQ_isLeastInMemory_37 : decode b_SQ_isLeastInMemory 37 = .ok (.ireturn, 1) := by decide +kernel
theorem d_SQ_spill_0 : decode b_SQ_spill 0 = .ok (.aload_n 0, 1) := by decide +kernel
theorem d_SQ_spill_1 : decode b_SQ_spill 1 = .ok (.getfield 28, 3) := by decide +kernel
theorem d_SQ_spill_4 : decode b_SQ_spill 4 = .ok (.getfield 184, 3) := by decide +kernel
theorem d_SQ_spill_7 : decode b_SQ_spill 7 = .ok (.aload_n 0, 1) := by decide +kernel
theorem d_SQ_spill_8 : decode b_SQ_spill 8 = .ok (.getfield 12, 3) := by decide +kernel
theorem d_SQ_spill_11 : decode b_SQ_spill 11 = .ok (.invokevirtual 190, 3) := by decide +kernel
theorem d_SQ_spill_14 : decode b_SQ_spill 14 = .ok (.if_icmp .lt 34, 3) := by decide +kernel
theorem d_SQ_spill_17 : decode b_SQ_spill 17 = .ok (.aload_n 0, 1) := by decide +kernel
theorem d_SQ_spill_18 : decode b_SQ_spill 18 = .ok (.getfield 28, 3) := by decide +kernel
theorem d_SQ_spill_21 : decode b_SQ_spill 21 = .ok (.invokevirtual 231, 3) := by decide +kernel
theorem d_SQ_spill_24 : decode b_SQ_spill 24 = .ok (.aload_n 0, 1) := by decide +kernel
theorem d_SQ_spill_25 : decode b_SQ_spill 25 = .ok (.aload_n 0, 1) := by decide +kernel
theorem d_SQ_spill_26 : decode b_SQ_spill 26 = .ok (.getfield 28, 3) := by decide +kernel
theorem d_SQ_spill_29 : decode b_SQ_spill 29 = .ok (.aload_n 0, 1) := by decide +kernel
theorem d_SQ_spill_30 : decode b_SQ_spill 30 = .ok (.getfield 28, 3) := by decide +kernel
theorem d_SQ_spill_33 : decode b_SQ_spill 33 = .ok (.invokevirtual 234, 3) := by decide +kernel
theorem d_SQ_spill_36 : decode b_SQ_spill 36 = .ok (.iconst 1, 1) := by decide +kernel
theorem d_SQ_spill_37 : decode b_SQ_spill 37 = .ok (.iadd, 1) := by decide +kernel
theorem d_SQ_spill_38 : decode b_SQ_spill 38 = .ok (.invokevirtual 237, 3) := by decide +kernel
theorem d_SQ_spill_41 : decode b_SQ_spill 41 = .ok (.istore_n 1, 1) := by decide +kernel
theorem d_SQ_spill_42 : decode b_SQ_spill 42 = .ok (.iload_n 1, 1) := by decide +kernel
theorem d_SQ_spill_43 : decode b_SQ_spill 43 = .ok (.ifCond .eq 5, 3) := by decide +kernel
theorem d_SQ_spill_46 : decode b_SQ_spill 46 = .ok (.iload_n 1, 1) := by decide +kernel
theorem d_SQ_spill_47 : decode b_SQ_spill 47 = .ok (.ireturn, 1) := by decide +kernel
theorem d_SQ_spill_48 : decode b_SQ_spill 48 = .ok (.aload_n 0, 1) := by decide +kernel
theorem d_SQ_spill_49 : decode b_SQ_spill 49 = .ok (.aload_n 0, 1) := by decide +kernel
theorem d_SQ_spill_50 : decode b_SQ_spill 50 = .ok (.getfield 19, 3) := by decide +kernel
theorem d_SQ_spill_53 : decode b_SQ_spill 53 = .ok (.iconst 0, 1) := by decide +kernel
theorem d_SQ_spill_54 : decode b_SQ_spill 54 = .ok (.invokevirtual 237, 3) := by decide +kernel
theorem d_SQ_spill_57 : decode b_SQ_spill 57 = .ok (.istore_n 1, 1) := by decide +kernel
theorem d_SQ_spill_58 : decode b_SQ_spill 58 = .ok (.iload_n 1, 1) := by decide +kernel
theorem d_SQ_spill_59 : decode b_SQ_spill 59 = .ok (.ifCond .ne 10, 3) := by decide +kernel
theorem d_SQ_spill_62 : decode b_SQ_spill 62 = .ok (.aload_n 0, 1) := by decide +kernel
theorem d_SQ_spill_63 : decode b_SQ_spill 63 = .ok (.invokevirtual 241, 3) := by decide +kernel
end
section
theorem d_SQ_spill_66 : decode b_SQ_spill 66 = .ok (.goto 4, 3) := by decide +kernel
theorem d_SQ_spill_69 : decode b_SQ_spill 69 = .ok (.iload_n 1, 1) := by decide +kernel
theorem d_SQ_spill_70 : decode b_SQ_spill 70 = .ok (.ireturn, 1) := by decide +kernel
theorem d_SQ_mergeCrowdedLevels_0 : decode b_SQ_mergeCrowdedLevels 0 = .ok (.iconst 0, 1) := by decide +kernel
theorem d_SQ_mergeCrowdedLevels_1 : decode b_SQ_mergeCrowdedLevels 1 = .ok (.istore_n 1, 1) := by decide +kernel
theorem d_SQ_mergeCrowdedLevels_2 : decode b_SQ_mergeCrowdedLevels 2 = .ok (.iload_n 1, 1) := by decide +kernel
theorem d_SQ_mergeCrowdedLevels_3 : decode b_SQ_mergeCrowdedLevels 3 = .ok (.bipush 9, 2) := by decide +kernel
theorem d_SQ_mergeCrowdedLevels_5 : decode b_SQ_mergeCrowdedLevels 5 = .ok (.if_icmp .ge 77, 3) := by decide +kernel
theorem d_SQ_mergeCrowdedLevels_8 : decode b_SQ_mergeCrowdedLevels 8 = .ok (.aload_n 0, 1) := by decide +kernel
theorem d_SQ_mergeCrowdedLevels_9 : decode b_SQ_mergeCrowdedLevels 9 = .ok (.getfield 28, 3) := by decide +kernel
theorem d_SQ_mergeCrowdedLevels_12 : decode b_SQ_mergeCrowdedLevels 12 = .ok (.aload_n 0, 1) := by decide +kernel
theorem d_SQ_mergeCrowdedLevels_13 : decode b_SQ_mergeCrowdedLevels 13 = .ok (.getfield 77, 3) := by decide +kernel
theorem d_SQ_mergeCrowdedLevels_16 : decode b_SQ_mergeCrowdedLevels 16 = .ok (.invokevirtual 244, 3) := by decide +kernel
theorem d_SQ_mergeCrowdedLevels_19 : decode b_SQ_mergeCrowdedLevels 19 = .ok (.istore_n 2, 1) := by decide +kernel
theorem d_SQ_mergeCrowdedLevels_20 : decode b_SQ_mergeCrowdedLevels 20 = .ok (.iload_n 2, 1) := by decide +kernel
theorem d_SQ_mergeCrowdedLevels_21 : decode b_SQ_mergeCrowdedLevels 21 = .ok (.ifCond .ge 5, 3) := by decide +kernel
theorem d_SQ_mergeCrowdedLevels_24 : decode b_SQ_mergeCrowdedLevels 24 = .ok (.iconst 0, 1) := by decide +kernel
theorem d_SQ_mergeCrowdedLevels_25 : decode b_SQ_mergeCrowdedLevels 25 = .ok (.ireturn, 1) := by decide +kernel
theorem d_SQ_mergeCrowdedLevels_26 : decode b_SQ_mergeCrowdedLevels 26 = .ok (.aload_n 0, 1) := by decide +kernel
theorem d_SQ_mergeCrowdedLevels_27 : decode b_SQ_mergeCrowdedLevels 27 = .ok (.getfield 28, 3) := by decide +kernel
theorem d_SQ_mergeCrowdedLevels_30 : decode b_SQ_mergeCrowdedLevels 30 = .ok (.getfield 176, 3) := by decide +kernel
theorem d_SQ_mergeCrowdedLevels_33 : decode b_SQ_mergeCrowdedLevels 33 = .ok (.iload_n 2, 1) := by decide +kernel
theorem d_SQ_mergeCrowdedLevels_34 : decode b_SQ_mergeCrowdedLevels 34 = .ok (.iaload, 1) := by decide +kernel
theorem d_SQ_mergeCrowdedLevels_35 : decode b_SQ_mergeCrowdedLevels 35 = .ok (.istore_n 3, 1) := by decide +kernel
theorem d_SQ_mergeCrowdedLevels_36 : decode b_SQ_mergeCrowdedLevels 36 = .ok (.aload_n 0, 1) := by decide +kernel
theorem d_SQ_mergeCrowdedLevels_37 : decode b_SQ_mergeCrowdedLevels 37 = .ok (.getfield 28, 3) := by decide +kernel
theorem d_SQ_mergeCrowdedLevels_40 : decode b_SQ_mergeCrowdedLevels 40 = .ok (.iload_n 3, 1) := by decide +kernel
theorem d_SQ_mergeCrowdedLevels_41 : decode b_SQ_mergeCrowdedLevels 41 = .ok (.invokevirtual 247, 3) := by decide +kernel
theorem d_SQ_mergeCrowdedLevels_44 : decode b_SQ_mergeCrowdedLevels 44 = .ok (.aload_n 0, 1) := by decide +kernel
theorem d_SQ_mergeCrowdedLevels_45 : decode b_SQ_mergeCrowdedLevels 45 = .ok (.aload_n 0, 1) := by decide +kernel
theorem d_SQ_mergeCrowdedLevels_46 : decode b_SQ_mergeCrowdedLevels 46 = .ok (.getfield 28, 3) := by decide +kernel
theorem d_SQ_mergeCrowdedLevels_49 : decode b_SQ_mergeCrowdedLevels 49 = .ok (.iload_n 3, 1) := by decide +kernel
theorem d_SQ_mergeCrowdedLevels_50 : decode b_SQ_mergeCrowdedLevels 50 = .ok (.iconst 1, 1) := by decide +kernel
theorem d_SQ_mergeCrowdedLevels_51 : decode b_SQ_mergeCrowdedLevels 51 = .ok (.iadd, 1) := by decide +kernel
theorem d_SQ_mergeCrowdedLevels_52 : decode b_SQ_mergeCrowdedLevels 52 = .ok (.invokevirtual 237, 3) := by decide +kernel
theorem d_SQ_mergeCrowdedLevels_55 : decode b_SQ_mergeCrowdedLevels 55 = .ok (.istore 4, 2) := by decide +kernel
theorem d_SQ_mergeCrowdedLevels_57 : decode b_SQ_mergeCrowdedLevels 57 = .ok (.iload 4, 2) := by decide +kernel
theorem d_SQ_mergeCrowdedLevels_59 : decode b_SQ_mergeCrowdedLevels 59 = .ok (.ifCond .eq 17, 3) := by decide +kernel
theorem d_SQ_mergeCrowdedLevels_62 : decode b_SQ_mergeCrowdedLevels 62 = .ok (.iload 4, 2) := by decide +kernel
theorem d_SQ_mergeCrowdedLevels_64 : decode b_SQ_mergeCrowdedLevels 64 = .ok (.bipush (-2), 2) := by decide +kernel
theorem d_SQ_mergeCrowdedLevels_66 : decode b_SQ_mergeCrowdedLevels 66 = .ok (.if_icmp .ne 7, 3) := by decide +kernel
theorem d_SQ_mergeCrowdedLevels_69 : decode b_SQ_mergeCrowdedLevels 69 = .ok (.iconst 0, 1) := by decide +kernel
theorem d_SQ_mergeCrowdedLevels_70 : decode b_SQ_mergeCrowdedLevels 70 = .ok (.goto 5, 3) := by decide +kernel
theorem d_SQ_mergeCrowdedLevels_73 : decode b_SQ_mergeCrowdedLevels 73 = .ok (.iload 4, 2) := by decide +kernel
theorem d_SQ_mergeCrowdedLevels_75 : decode b_SQ_mergeCrowdedLevels 75 = .ok (.ireturn, 1) := by decide +kernel
theorem d_SQ_mergeCrowdedLevels_76 : decode b_SQ_mergeCrowdedLevels 76 = .ok (.iinc 1 1, 3) := by decide +kernel
theorem d_SQ_mergeCrowdedLevels_79 : decode b_SQ_mergeCrowdedLevels 79 = .ok (.goto (-77), 3) := by decide +kernel
theorem d_SQ_mergeCrowdedLevels_82 : decode b_SQ_mergeCrowdedLevels 82 = .ok (.iconst 0, 1) := by decide +kernel
theorem d_SQ_mergeCrowdedLevels_83 : decode b_SQ_mergeCrowdedLevels 83 = .ok (.ireturn, 1) := by decide +kernel
theorem d_SQ_makeRun_0 : decode b_SQ_makeRun 0 = .ok (.aload_n 1, 1) := by decide +kernel
theorem d_SQ_makeRun_1 : decode b_SQ_makeRun 1 = .ok (.invokevirtual 250, 3) := by decide +kernel
theorem d_SQ_makeRun_4 : decode b_SQ_makeRun 4 = .ok (.istore_n 3, 1) := by decide +kernel
theorem d_SQ_makeRun_5 : decode b_SQ_makeRun 5 = .ok (.aload_n 0, 1) := by decide +kernel
theorem d_SQ_makeRun_6 : decode b_SQ_makeRun 6 = .ok (.getfield 12, 3) := by decide +kernel
theorem d_SQ_makeRun_9 : decode b_SQ_makeRun 9 = .ok (.iload_n 3, 1) := by decide +kernel
theorem d_SQ_makeRun_10 : decode b_SQ_makeRun 10 = .ok (.invokevirtual 179, 3) := by decide +kernel
theorem d_SQ_makeRun_13 : decode b_SQ_makeRun 13 = .ok (.istore 4, 2) := by decide +kernel
theorem d_SQ_makeRun_15 : decode b_SQ_makeRun 15 = .ok (.iload 4, 2) := by decide +kernel
theorem d_SQ_makeRun_17 : decode b_SQ_makeRun 17 = .ok (.iconst 1, 1) := by decide +kernel
theorem d_SQ_makeRun_18 : decode b_SQ_makeRun 18 = .ok (.if_icmp .lt 12, 3) := by decide +kernel
theorem d_SQ_makeRun_21 : decode b_SQ_makeRun 21 = .ok (.aload_n 0, 1) := by decide +kernel
theorem d_SQ_makeRun_22 : decode b_SQ_makeRun 22 = .ok (.invokevirtual 187, 3) := by decide +kernel
theorem d_SQ_makeRun_25 : decode b_SQ_makeRun 25 = .ok (.iload 4, 2) := by decide +kernel
theorem d_SQ_makeRun_27 : decode b_SQ_makeRun 27 = .ok (.if_icmp .ge 6, 3) := by decide +kernel
theorem d_SQ_makeRun_30 : decode b_SQ_makeRun 30 = .ok (.bipush (-2), 2) := by decide +kernel
theorem d_SQ_makeRun_32 : decode b_SQ_makeRun 32 = .ok (.ireturn, 1) := by decide +kernel
theorem d_SQ_makeRun_33 : decode b_SQ_makeRun 33 = .ok (.aload_n 0, 1) := by decide +kernel
theorem d_SQ_makeRun_34 : decode b_SQ_makeRun 34 = .ok (.getfield 12, 3) := by decide +kernel
theorem d_SQ_makeRun_37 : decode b_SQ_makeRun 37 = .ok (.invokevirtual 253, 3) := by decide +kernel
theorem d_SQ_makeRun_40 : decode b_SQ_makeRun 40 = .ok (.istore 5, 2) := by decide +kernel
theorem d_SQ_makeRun_42 : decode b_SQ_makeRun 42 = .ok (.iconst 0, 1) := by decide +kernel
theorem d_SQ_makeRun_43 : decode b_SQ_makeRun 43 = .ok (.istore 6, 2) := by decide +kernel
theorem d_SQ_makeRun_45 : decode b_SQ_makeRun 45 = .ok (.iload 6, 2) := by decide +kernel
theorem d_SQ_makeRun_47 : decode b_SQ_makeRun 47 = .ok (.iload 4, 2) := by decide +kernel
theorem d_SQ_makeRun_49 : decode b_SQ_makeRun 49 = .ok (.if_icmp .ge 115, 3) := by decide +kernel
theorem d_SQ_makeRun_52 : decode b_SQ_makeRun 52 = .ok (.aload_n 0, 1) := by decide +kernel
theorem d_SQ_makeRun_53 : decode b_SQ_makeRun 53 = .ok (.getfield 12, 3) := by decide +kernel
theorem d_SQ_makeRun_56 : decode b_SQ_makeRun 56 = .ok (.invokevirtual 256, 3) := by decide +kernel
theorem d_SQ_makeRun_59 : decode b_SQ_makeRun 59 = .ok (.aload_n 0, 1) := by decide +kernel
theorem d_SQ_makeRun_60 : decode b_SQ_makeRun 60 = .ok (.getfield 12, 3) := by decide +kernel
theorem d_SQ_makeRun_63 : decode b_SQ_makeRun 63 = .ok (.iconst 1, 1) := by decide +kernel
theorem d_SQ_makeRun_64 : decode b_SQ_makeRun 64 = .ok (.iload 6, 2) := by decide +kernel
theorem d_SQ_makeRun_66 : decode b_SQ_makeRun 66 = .ok (.iconst 1, 1) := by decide +kernel
theorem d_SQ_makeRun_67 : decode b_SQ_makeRun 67 = .ok (.iadd, 1) := by decide +kernel
theorem d_SQ_makeRun_68 : decode b_SQ_makeRun 68 = .ok (.iload 4, 2) := by decide +kernel
theorem d_SQ_makeRun_70 : decode b_SQ_makeRun 70 = .ok (.if_icmp .ge 15, 3) := by decide +kernel
theorem d_SQ_makeRun_73 : decode b_SQ_makeRun 73 = .ok (.aload_n 0, 1) := by decide +kernel
theorem d_SQ_makeRun_74 : decode b_SQ_makeRun 74 = .ok (.getfield 49, 3) := by decide +kernel
theorem d_SQ_makeRun_77 : decode b_SQ_makeRun 77 = .ok (.iload 6, 2) := by decide +kernel
theorem d_SQ_makeRun_79 : decode b_SQ_makeRun 79 = .ok (.iconst 1, 1) := by decide +kernel
theorem d_SQ_makeRun_80 : decode b_SQ_makeRun 80 = .ok (.iadd, 1) := by decide +kernel
theorem d_SQ_makeRun_81 : decode b_SQ_makeRun 81 = .ok (.iaload, 1) := by decide +kernel
theorem d_SQ_makeRun_82 : decode b_SQ_makeRun 82 = .ok (.goto 4, 3) := by decide +kernel
theorem d_SQ_makeRun_85 : decode b_SQ_makeRun 85 = .ok (.iconst 0, 1) := by decide +kernel
theorem d_SQ_makeRun_86 : decode b_SQ_makeRun 86 = .ok (.invokevirtual 259, 3) := by decide +kernel
theorem d_SQ_makeRun_89 : decode b_SQ_makeRun 89 = .ok (.iload 5, 2) := by decide +kernel
theorem d_SQ_makeRun_91 : decode b_SQ_makeRun 91 = .ok (.iload_n 3, 1) := by decide +kernel
theorem d_SQ_makeRun_92 : decode b_SQ_makeRun 92 = .ok (.iload 6, 2) := by decide +kernel
theorem d_SQ_makeRun_94 : decode b_SQ_makeRun 94 = .ok (.iload 5, 2) := by decide +kernel
theorem d_SQ_makeRun_96 : decode b_SQ_makeRun 96 = .ok (.imul, 1) := by decide +kernel
theorem d_SQ_makeRun_97 : decode b_SQ_makeRun 97 = .ok (.isub, 1) := by decide +kernel
theorem d_SQ_makeRun_98 : decode b_SQ_makeRun 98 = .ok (.invokestatic 262, 3) := by decide +kernel
theorem d_SQ_makeRun_101 : decode b_SQ_makeRun 101 = .ok (.istore 7, 2) := by decide +kernel
theorem d_SQ_makeRun_103 : decode b_SQ_makeRun 103 = .ok (.iconst 0, 1) := by decide +kernel
theorem d_SQ_makeRun_104 : decode b_SQ_makeRun 104 = .ok (.istore 8, 2) := by decide +kernel
theorem d_SQ_makeRun_106 : decode b_SQ_makeRun 106 = .ok (.iload 8, 2) := by decide +kernel
theorem d_SQ_makeRun_108 : decode b_SQ_makeRun 108 = .ok (.iload 7, 2) := by decide +kernel
theorem d_SQ_makeRun_110 : decode b_SQ_makeRun 110 = .ok (.if_icmp .ge 24, 3) := by decide +kernel
theorem d_SQ_makeRun_113 : decode b_SQ_makeRun 113 = .ok (.aload_n 0, 1) := by decide +kernel
theorem d_SQ_makeRun_114 : decode b_SQ_makeRun 114 = .ok (.getfield 12, 3) := by decide +kernel
theorem d_SQ_makeRun_117 : decode b_SQ_makeRun 117 = .ok (.iconst 2, 1) := by decide +kernel
theorem d_SQ_makeRun_118 : decode b_SQ_makeRun 118 = .ok (.iload 8, 2) := by decide +kernel
theorem d_SQ_makeRun_120 : decode b_SQ_makeRun 120 = .ok (.iadd, 1) := by decide +kernel
theorem d_SQ_makeRun_121 : decode b_SQ_makeRun 121 = .ok (.aload_n 1, 1) := by decide +kernel
theorem d_SQ_makeRun_122 : decode b_SQ_makeRun 122 = .ok (.invokevirtual 267, 3) := by decide +kernel
theorem d_SQ_makeRun_125 : decode b_SQ_makeRun 125 = .ok (.invokevirtual 259, 3) := by decide +kernel
theorem d_SQ_makeRun_128 : decode b_SQ_makeRun 128 = .ok (.iinc 8 1, 3) := by decide +kernel
theorem d_SQ_makeRun_131 : decode b_SQ_makeRun 131 = .ok (.goto (-25), 3) := by decide +kernel
theorem d_SQ_makeRun_134 : decode b_SQ_makeRun 134 = .ok (.aload_n 0, 1) := by decide +kernel
theorem d_SQ_makeRun_135 : decode b_SQ_makeRun 135 = .ok (.getfield 12, 3) := by decide +kernel
theorem d_SQ_makeRun_138 : decode b_SQ_makeRun 138 = .ok (.aload_n 0, 1) := by decide +kernel
theorem d_SQ_makeRun_139 : decode b_SQ_makeRun 139 = .ok (.getfield 49, 3) := by decide +kernel
theorem d_SQ_makeRun_142 : decode b_SQ_makeRun 142 = .ok (.iload 6, 2) := by decide +kernel
theorem d_SQ_makeRun_144 : decode b_SQ_makeRun 144 = .ok (.iaload, 1) := by decide +kernel
theorem d_SQ_makeRun_145 : decode b_SQ_makeRun 145 = .ok (.invokevirtual 268, 3) := by decide +kernel
theorem d_SQ_makeRun_148 : decode b_SQ_makeRun 148 = .ok (.ifCond .ne 10, 3) := by decide +kernel
theorem d_SQ_makeRun_151 : decode b_SQ_makeRun 151 = .ok (.aload_n 0, 1) := by decide +kernel
theorem d_SQ_makeRun_152 : decode b_SQ_makeRun 152 = .ok (.invokevirtual 66, 3) := by decide +kernel
theorem d_SQ_makeRun_155 : decode b_SQ_makeRun 155 = .ok (.bipush (-9), 2) := by decide +kernel
theorem d_SQ_makeRun_157 : decode b_SQ_makeRun 157 = .ok (.ireturn, 1) := by decide +kernel
theorem d_SQ_makeRun_158 : decode b_SQ_makeRun 158 = .ok (.iinc 6 1, 3) := by decide +kernel
theorem d_SQ_makeRun_161 : decode b_SQ_makeRun 161 = .ok (.goto (-116), 3) := by decide +kernel
theorem d_SQ_makeRun_164 : decode b_SQ_makeRun 164 = .ok (.aload_n 0, 1) := by decide +kernel
theorem d_SQ_makeRun_165 : decode b_SQ_makeRun 165 = .ok (.getfield 28, 3) := by decide +kernel
theorem d_SQ_makeRun_168 : decode b_SQ_makeRun 168 = .ok (.invokevirtual 125, 3) := by decide +kernel
theorem d_SQ_makeRun_171 : decode b_SQ_makeRun 171 = .ok (.aload_n 0, 1) := by decide +kernel
theorem d_SQ_makeRun_172 : decode b_SQ_makeRun 172 = .ok (.getfield 28, 3) := by decide +kernel
theorem d_SQ_makeRun_175 : decode b_SQ_makeRun 175 = .ok (.aload_n 0, 1) := by decide +kernel
theorem d_SQ_makeRun_176 : decode b_SQ_makeRun 176 = .ok (.getfield 49, 3) := by decide +kernel
theorem d_SQ_makeRun_179 : decode b_SQ_makeRun 179 = .ok (.iconst 0, 1) := by decide +kernel
theorem d_SQ_makeRun_180 : decode b_SQ_makeRun 180 = .ok (.iaload, 1) := by decide +kernel
theorem d_SQ_makeRun_181 : decode b_SQ_makeRun 181 = .ok (.iconst 0, 1) := by decide +kernel
theorem d_SQ_makeRun_182 : decode b_SQ_makeRun 182 = .ok (.iload_n 3, 1) := by decide +kernel
theorem d_SQ_makeRun_183 : decode b_SQ_makeRun 183 = .ok (.iload_n 2, 1) := by decide +kernel
theorem d_SQ_makeRun_184 : decode b_SQ_makeRun 184 = .ok (.invokevirtual 271, 3) := by decide +kernel
theorem d_SQ_makeRun_187 : decode b_SQ_makeRun 187 = .ok (.iconst 0, 1) := by decide +kernel
theorem d_SQ_makeRun_188 : decode b_SQ_makeRun 188 = .ok (.ireturn, 1) := by decide +kernel
theorem d_SQ_gatherFree_0 : decode b_SQ_gatherFree 0 = .ok (.aload_n 0, 1) := by decide +kernel
theorem d_SQ_gatherFree_1 : decode b_SQ_gatherFree 1 = .ok (.getfield 46, 3) := by decide +kernel
theorem d_SQ_gatherFree_4 : decode b_SQ_gatherFree 4 = .ok (.aload_n 0, 1) := by decide +kernel
theorem d_SQ_gatherFree_5 : decode b_SQ_gatherFree 5 = .ok (.getfield 42, 3) := by decide +kernel
theorem d_SQ_gatherFree_8 : decode b_SQ_gatherFree 8 = .ok (.invokevirtual 274, 3) := by decide +kernel
theorem d_SQ_gatherFree_11 : decode b_SQ_gatherFree 11 = .ok (.aload_n 0, 1) := by decide +kernel
theorem d_SQ_gatherFree_12 : decode b_SQ_gatherFree 12 = .ok (.getfield 28, 3) := by decide +kernel
theorem d_SQ_gatherFree_15 : decode b_SQ_gatherFree 15 = .ok (.aload_n 0, 1) := by decide +kernel
theorem d_SQ_gatherFree_16 : decode b_SQ_gatherFree 16 = .ok (.getfield 46, 3) := by decide +kernel
theorem d_SQ_gatherFree_19 : decode b_SQ_gatherFree 19 = .ok (.invokevirtual 152, 3) := by decide +kernel
theorem d_SQ_gatherFree_22 : decode b_SQ_gatherFree 22 = .ok (.iconst 0, 1) := by decide +kernel
theorem d_SQ_gatherFree_23 : decode b_SQ_gatherFree 23 = .ok (.istore_n 1, 1) := by decide +kernel
theorem d_SQ_gatherFree_24 : decode b_SQ_gatherFree 24 = .ok (.iconst 2, 1) := by decide +kernel
theorem d_SQ_gatherFree_25 : decode b_SQ_gatherFree 25 = .ok (.istore_n 2, 1) := by decide +kernel
theorem d_SQ_gatherFree_26 : decode b_SQ_gatherFree 26 = .ok (.iload_n 2, 1) := by decide +kernel
theorem d_SQ_gatherFree_27 : decode b_SQ_gatherFree 27 = .ok (.aload_n 0, 1) := by decide +kernel
theorem d_SQ_gatherFree_28 : decode b_SQ_gatherFree 28 = .ok (.getfield 12, 3) := by decide +kernel
theorem d_SQ_gatherFree_31 : decode b_SQ_gatherFree 31 = .ok (.getfield 216, 3) := by decide +kernel
theorem d_SQ_gatherFree_34 : decode b_SQ_gatherFree 34 = .ok (.if_icmp .ge 39, 3) := by decide +kernel
theorem d_SQ_gatherFree_37 : decode b_SQ_gatherFree 37 = .ok (.iload_n 1, 1) := by decide +kernel
theorem d_SQ_gatherFree_38 : decode b_SQ_gatherFree 38 = .ok (.aload_n 0, 1) := by decide +kernel
theorem d_SQ_gatherFree_39 : decode b_SQ_gatherFree 39 = .ok (.getfield 49, 3) := by decide +kernel
theorem d_SQ_gatherFree_42 : decode b_SQ_gatherFree 42 = .ok (.arraylength, 1) := by decide +kernel
theorem d_SQ_gatherFree_43 : decode b_SQ_gatherFree 43 = .ok (.if_icmp .ge 30, 3) := by decide +kernel
theorem d_SQ_gatherFree_46 : decode b_SQ_gatherFree 46 = .ok (.aload_n 0, 1) := by decide +kernel
theorem d_SQ_gatherFree_47 : decode b_SQ_gatherFree 47 = .ok (.getfield 46, 3) := by decide +kernel
theorem d_SQ_gatherFree_50 : decode b_SQ_gatherFree 50 = .ok (.iload_n 2, 1) := by decide +kernel
theorem d_SQ_gatherFree_51 : decode b_SQ_gatherFree 51 = .ok (.invokevirtual 277, 3) := by decide +kernel
theorem d_SQ_gatherFree_54 : decode b_SQ_gatherFree 54 = .ok (.ifCond .ne 13, 3) := by decide +kernel
theorem d_SQ_gatherFree_57 : decode b_SQ_gatherFree 57 = .ok (.aload_n 0, 1) := by decide +kernel
theorem d_SQ_gatherFree_58 : decode b_SQ_gatherFree 58 = .ok (.getfield 49, 3) := by decide +kernel
theorem d_SQ_gatherFree_61 : decode b_SQ_gatherFree 61 = .ok (.iload_n 1, 1) := by decide +kernel
theorem d_SQ_gatherFree_62 : decode b_SQ_gatherFree 62 = .ok (.iload_n 2, 1) := by decide +kernel
theorem d_SQ_gatherFree_63 : decode b_SQ_gatherFree 63 = .ok (.iastore, 1) := by decide +kernel
theorem d_SQ_gatherFree_64 : decode b_SQ_gatherFree 64 = .ok (.iinc 1 1, 3) := by decide +kernel
theorem d_SQ_gatherFree_67 : decode b_SQ_gatherFree 67 = .ok (.iinc 2 1, 3) := by decide +kernel
theorem d_SQ_gatherFree_70 : decode b_SQ_gatherFree 70 = .ok (.goto (-44), 3) := by decide +kernel
theorem d_SQ_gatherFree_73 : decode b_SQ_gatherFree 73 = .ok (.iload_n 1, 1) := by decide +kernel
theorem d_SQ_gatherFree_74 : decode b_SQ_gatherFree 74 = .ok (.ireturn, 1) := by decide +kernel
theorem d_SQ_writeNextEpoch_0 : decode b_SQ_writeNextEpoch 0 = .ok (.aload_n 0, 1) := by decide +kernel
theorem d_SQ_writeNextEpoch_1 : decode b_SQ_writeNextEpoch 1 = .ok (.dup, 1) := by decide +kernel
theorem d_SQ_writeNextEpoch_2 : decode b_SQ_writeNextEpoch 2 = .ok (.getfield 149, 3) := by decide +kernel
theorem d_SQ_writeNextEpoch_5 : decode b_SQ_writeNextEpoch 5 = .ok (.iconst 1, 1) := by decide +kernel
theorem d_SQ_writeNextEpoch_6 : decode b_SQ_writeNextEpoch 6 = .ok (.iadd, 1) := by decide +kernel
theorem d_SQ_writeNextEpoch_7 : decode b_SQ_writeNextEpoch 7 = .ok (.putfield 149, 3) := by decide +kernel
theorem d_SQ_writeNextEpoch_10 : decode b_SQ_writeNextEpoch 10 = .ok (.aload_n 0, 1) := by decide +kernel
theorem d_SQ_writeNextEpoch_11 : decode b_SQ_writeNextEpoch 11 = .ok (.getfield 35, 3) := by decide +kernel
theorem d_SQ_writeNextEpoch_14 : decode b_SQ_writeNextEpoch 14 = .ok (.aload_n 0, 1) := by decide +kernel
theorem d_SQ_writeNextEpoch_15 : decode b_SQ_writeNextEpoch 15 = .ok (.getfield 149, 3) := by decide +kernel
theorem d_SQ_writeNextEpoch_18 : decode b_SQ_writeNextEpoch 18 = .ok (.aload_n 0, 1) := by decide +kernel
theorem d_SQ_writeNextEpoch_19 : decode b_SQ_writeNextEpoch 19 = .ok (.getfield 28, 3) := by decide +kernel
theorem d_SQ_writeNextEpoch_22 : decode b_SQ_writeNextEpoch 22 = .ok (.invokevirtual 278, 3) := by decide +kernel
theorem d_SQ_writeNextEpoch_25 : decode b_SQ_writeNextEpoch 25 = .ok (.ifCond .ne 10, 3) := by decide +kernel
theorem d_SQ_writeNextEpoch_28 : decode b_SQ_writeNextEpoch 28 = .ok (.aload_n 0, 1) := by decide +kernel
theorem d_SQ_writeNextEpoch_29 : decode b_SQ_writeNextEpoch 29 = .ok (.invokevirtual 66, 3) := by decide +kernel
theorem d_SQ_writeNextEpoch_32 : decode b_SQ_writeNextEpoch 32 = .ok (.bipush (-9), 2) := by decide +kernel
theorem d_SQ_writeNextEpoch_34 : decode b_SQ_writeNextEpoch 34 = .ok (.ireturn, 1) := by decide +kernel
theorem d_SQ_writeNextEpoch_35 : decode b_SQ_writeNextEpoch 35 = .ok (.aload_n 0, 1) := by decide +kernel
theorem d_SQ_writeNextEpoch_36 : decode b_SQ_writeNextEpoch 36 = .ok (.getfield 42, 3) := by decide +kernel
theorem d_SQ_writeNextEpoch_39 : decode b_SQ_writeNextEpoch 39 = .ok (.invokevirtual 230, 3) := by decide +kernel
theorem d_SQ_writeNextEpoch_42 : decode b_SQ_writeNextEpoch 42 = .ok (.aload_n 0, 1) := by decide +kernel
theorem d_SQ_writeNextEpoch_43 : decode b_SQ_writeNextEpoch 43 = .ok (.getfield 28, 3) := by decide +kernel
theorem d_SQ_writeNextEpoch_46 : decode b_SQ_writeNextEpoch 46 = .ok (.aload_n 0, 1) := by decide +kernel
theorem d_SQ_writeNextEpoch_47 : decode b_SQ_writeNextEpoch 47 = .ok (.getfield 42, 3) := by decide +kernel
theorem d_SQ_writeNextEpoch_50 : decode b_SQ_writeNextEpoch 50 = .ok (.invokevirtual 152, 3) := by decide +kernel
theorem d_SQ_writeNextEpoch_53 : decode b_SQ_writeNextEpoch 53 = .ok (.iconst 0, 1) := by decide +kernel
theorem d_SQ_writeNextEpoch_54 : decode b_SQ_writeNextEpoch 54 = .ok (.ireturn, 1) := by decide +kernel
theorem d_AR_fill_0 : decode b_AR_fill 0 = .ok (.iconst 0, 1) := by decide +kernel
theorem d_AR_fill_1 : decode b_AR_fill 1 = .ok (.istore_n 2, 1) := by decide +kernel
theorem d_AR_fill_2 : decode b_AR_fill 2 = .ok (.aload_n 0, 1) := by decide +kernel
theorem d_AR_fill_3 : decode b_AR_fill 3 = .ok (.arraylength, 1) := by decide +kernel
theorem d_AR_fill_4 : decode b_AR_fill 4 = .ok (.istore_n 3, 1) := by decide +kernel
theorem d_AR_fill_5 : decode b_AR_fill 5 = .ok (.iload_n 2, 1) := by decide +kernel
theorem d_AR_fill_6 : decode b_AR_fill 6 = .ok (.iload_n 3, 1) := by decide +kernel
theorem d_AR_fill_7 : decode b_AR_fill 7 = .ok (.if_icmp .ge 13, 3) := by decide +kernel
theorem d_AR_fill_10 : decode b_AR_fill 10 = .ok (.aload_n 0, 1) := by decide +kernel
theorem d_AR_fill_11 : decode b_AR_fill 11 = .ok (.iload_n 2, 1) := by decide +kernel
theorem d_AR_fill_12 : decode b_AR_fill 12 = .ok (.iload_n 1, 1) := by decide +kernel
theorem d_AR_fill_13 : decode b_AR_fill 13 = .ok (.iastore, 1) := by decide +kernel
theorem d_AR_fill_14 : decode b_AR_fill 14 = .ok (.iinc 2 1, 3) := by decide +kernel
theorem d_AR_fill_17 : decode b_AR_fill 17 = .ok (.goto (-12), 3) := by decide +kernel
theorem d_AR_fill_20 : decode b_AR_fill 20 = .ok (.return_, 1) := by decide +kernel
end
section
theorem d_MO_init_0 : decode b_MO_init 0 = .ok (.aload_n 0, 1) := by decide +kernel
theorem d_MO_init_1 : decode b_MO_init 1 = .ok (.invokespecial 1, 3) := by decide +kernel
theorem d_MO_init_4 : decode b_MO_init 4 = .ok (.aload_n 0, 1) := by decide +kernel
theorem d_MO_init_5 : decode b_MO_init 5 = .ok (.sipush 8000, 3) := by decide +kernel
theorem d_MO_init_8 : decode b_MO_init 8 = .ok (.newarray .int, 2) := by decide +kernel
theorem d_MO_init_10 : decode b_MO_init 10 = .ok (.putfield 7, 3) := by decide +kernel
theorem d_MO_init_13 : decode b_MO_init 13 = .ok (.aload_n 0, 1) := by decide +kernel
theorem d_MO_init_14 : decode b_MO_init 14 = .ok (.bipush 100, 2) := by decide +kernel
theorem d_MO_init_16 : decode b_MO_init 16 = .ok (.newarray .int, 2) := by decide +kernel
theorem d_MO_init_18 : decode b_MO_init 18 = .ok (.putfield 13, 3) := by decide +kernel
theorem d_MO_init_21 : decode b_MO_init 21 = .ok (.aload_n 0, 1) := by decide +kernel
theorem d_MO_init_22 : decode b_MO_init 22 = .ok (.bipush 16, 2) := by decide +kernel
theorem d_MO_init_24 : decode b_MO_init 24 = .ok (.newarray .int, 2) := by decide +kernel
theorem d_MO_init_26 : decode b_MO_init 26 = .ok (.putfield 16, 3) := by decide +kernel
theorem d_MO_init_29 : decode b_MO_init 29 = .ok (.aload_n 0, 1) := by decide +kernel
theorem d_MO_init_30 : decode b_MO_init 30 = .ok (.bipush 16, 2) := by decide +kernel
theorem d_MO_init_32 : decode b_MO_init 32 = .ok (.newarray .int, 2) := by decide +kernel
theorem d_MO_init_34 : decode b_MO_init 34 = .ok (.putfield 19, 3) := by decide +kernel
theorem d_MO_init_37 : decode b_MO_init 37 = .ok (.aload_n 0, 1) := by decide +kernel
theorem d_MO_init_38 : decode b_MO_init 38 = .ok (.bipush 16, 2) := by decide +kernel
theorem d_MO_init_40 : decode b_MO_init 40 = .ok (.newarray .int, 2) := by decide +kernel
theorem d_MO_init_42 : decode b_MO_init 42 = .ok (.putfield 22, 3) := by decide +kernel
theorem d_MO_init_45 : decode b_MO_init 45 = .ok (.aload_n 0, 1) := by decide +kernel
theorem d_MO_init_46 : decode b_MO_init 46 = .ok (.bipush 16, 2) := by decide +kernel
theorem d_MO_init_48 : decode b_MO_init 48 = .ok (.newarray .int, 2) := by decide +kernel
theorem d_MO_init_50 : decode b_MO_init 50 = .ok (.putfield 25, 3) := by decide +kernel
theorem d_MO_init_53 : decode b_MO_init 53 = .ok (.aload_n 0, 1) := by decide +kernel
theorem d_MO_init_54 : decode b_MO_init 54 = .ok (.sipush 200, 3) := by decide +kernel
theorem d_MO_init_57 : decode b_MO_init 57 = .ok (.newarray .boolean, 2) := by decide +kernel
theorem d_MO_init_59 : decode b_MO_init 59 = .ok (.putfield 28, 3) := by decide +kernel
theorem d_MO_init_62 : decode b_MO_init 62 = .ok (.aload_n 0, 1) := by decide +kernel
theorem d_MO_init_63 : decode b_MO_init 63 = .ok (.sipush 200, 3) := by decide +kernel
theorem d_MO_init_66 : decode b_MO_init 66 = .ok (.newarray .boolean, 2) := by decide +kernel
theorem d_MO_init_68 : decode b_MO_init 68 = .ok (.putfield 32, 3) := by decide +kernel
theorem d_MO_init_71 : decode b_MO_init 71 = .ok (.aload_n 0, 1) := by decide +kernel
theorem d_MO_init_72 : decode b_MO_init 72 = .ok (.bipush 40, 2) := by decide +kernel
theorem d_MO_init_74 : decode b_MO_init 74 = .ok (.newarray .int, 2) := by decide +kernel
theorem d_MO_init_76 : decode b_MO_init 76 = .ok (.putfield 35, 3) := by decide +kernel
theorem d_MO_init_79 : decode b_MO_init 79 = .ok (.aload_n 0, 1) := by decide +kernel
theorem d_MO_init_80 : decode b_MO_init 80 = .ok (.sipush 200, 3) := by decide +kernel
theorem d_MO_init_83 : decode b_MO_init 83 = .ok (.newarray .int, 2) := by decide +kernel
theorem d_MO_init_85 : decode b_MO_init 85 = .ok (.putfield 38, 3) := by decide +kernel
theorem d_MO_init_88 : decode b_MO_init 88 = .ok (.aload_n 0, 1) := by decide +kernel
theorem d_MO_init_89 : decode b_MO_init 89 = .ok (.bipush 16, 2) := by decide +kernel
theorem d_MO_init_91 : decode b_MO_init 91 = .ok (.newarray .int, 2) := by decide +kernel
theorem d_MO_init_93 : decode b_MO_init 93 = .ok (.putfield 41, 3) := by decide +kernel
theorem d_MO_init_96 : decode b_MO_init 96 = .ok (.aload_n 0, 1) := by decide +kernel
theorem d_MO_init_97 : decode b_MO_init 97 = .ok (.bipush 16, 2) := by decide +kernel
theorem d_MO_init_99 : decode b_MO_init 99 = .ok (.newarray .int, 2) := by decide +kernel
theorem d_MO_init_101 : decode b_MO_init 101 = .ok (.putfield 44, 3) := by decide +kernel
theorem d_MO_init_104 : decode b_MO_init 104 = .ok (.aload_n 0, 1) := by decide +kernel
theorem d_MO_init_105 : decode b_MO_init 105 = .ok (.bipush 16, 2) := by decide +kernel
theorem d_MO_init_107 : decode b_MO_init 107 = .ok (.newarray .int, 2) := by decide +kernel
theorem d_MO_init_109 : decode b_MO_init 109 = .ok (.putfield 47, 3) := by decide +kernel
theorem d_MO_init_112 : decode b_MO_init 112 = .ok (.aload_n 0, 1) := by decide +kernel
theorem d_MO_init_113 : decode b_MO_init 113 = .ok (.bipush 16, 2) := by decide +kernel
theorem d_MO_init_115 : decode b_MO_init 115 = .ok (.newarray .boolean, 2) := by decide +kernel
theorem d_MO_init_117 : decode b_MO_init 117 = .ok (.putfield 50, 3) := by decide +kernel
theorem d_MO_init_120 : decode b_MO_init 120 = .ok (.return_, 1) := by decide +kernel
theorem d_MO_thrown_0 : decode b_MO_thrown 0 = .ok (.aload_n 0, 1) := by decide +kernel
theorem d_MO_thrown_1 : decode b_MO_thrown 1 = .ok (.getfield 53, 3) := by decide +kernel
theorem d_MO_thrown_4 : decode b_MO_thrown 4 = .ok (.ireturn, 1) := by decide +kernel
theorem d_MO_within_0 : decode b_MO_within 0 = .ok (.iload_n 0, 1) := by decide +kernel
theorem d_MO_within_1 : decode b_MO_within 1 = .ok (.iload_n 1, 1) := by decide +kernel
theorem d_MO_within_2 : decode b_MO_within 2 = .ok (.if_icmp .lt 12, 3) := by decide +kernel
theorem d_MO_within_5 : decode b_MO_within 5 = .ok (.iload_n 0, 1) := by decide +kernel
theorem d_MO_within_6 : decode b_MO_within 6 = .ok (.iload_n 2, 1) := by decide +kernel
theorem d_MO_within_7 : decode b_MO_within 7 = .ok (.if_icmp .gt 7, 3) := by decide +kernel
theorem d_MO_within_10 : decode b_MO_within 10 = .ok (.iconst 1, 1) := by decide +kernel
theorem d_MO_within_11 : decode b_MO_within 11 = .ok (.goto 4, 3) := by decide +kernel
theorem d_MO_within_14 : decode b_MO_within 14 = .ok (.iconst 0, 1) := by decide +kernel
theorem d_MO_within_15 : decode b_MO_within 15 = .ok (.ireturn, 1) := by decide +kernel
theorem d_MO_at_0 : decode b_MO_at 0 = .ok (.aload_n 0, 1) := by decide +kernel
theorem d_MO_at_1 : decode b_MO_at 1 = .ok (.getfield 7, 3) := by decide +kernel
theorem d_MO_at_4 : decode b_MO_at 4 = .ok (.bipush 40, 2) := by decide +kernel
theorem d_MO_at_6 : decode b_MO_at 6 = .ok (.iload_n 1, 1) := by decide +kernel
theorem d_MO_at_7 : decode b_MO_at 7 = .ok (.imul, 1) := by decide +kernel
theorem d_MO_at_8 : decode b_MO_at 8 = .ok (.iload_n 2, 1) := by decide +kernel
theorem d_MO_at_9 : decode b_MO_at 9 = .ok (.iadd, 1) := by decide +kernel
theorem d_MO_at_10 : decode b_MO_at 10 = .ok (.iaload, 1) := by decide +kernel
theorem d_MO_at_11 : decode b_MO_at 11 = .ok (.ireturn, 1) := by decide +kernel
theorem d_MO_room_0 : decode b_MO_room 0 = .ok (.aload_n 0, 1) := by decide +kernel
theorem d_MO_room_1 : decode b_MO_room 1 = .ok (.getfield 57, 3) := by decide +kernel
theorem d_MO_room_4 : decode b_MO_room 4 = .ok (.iconst 2, 1) := by decide +kernel
theorem d_MO_room_5 : decode b_MO_room 5 = .ok (.isub, 1) := by decide +kernel
theorem d_MO_room_6 : decode b_MO_room 6 = .ok (.ireturn, 1) := by decide +kernel
theorem d_MO_most_0 : decode b_MO_most 0 = .ok (.aload_n 0, 1) := by decide +kernel
theorem d_MO_most_1 : decode b_MO_most 1 = .ok (.getfield 57, 3) := by decide +kernel
theorem d_MO_most_4 : decode b_MO_most 4 = .ok (.iconst 3, 1) := by decide +kernel
theorem d_MO_most_5 : decode b_MO_most 5 = .ok (.isub, 1) := by decide +kernel
theorem d_MO_most_6 : decode b_MO_most 6 = .ok (.iconst 4, 1) := by decide +kernel
theorem d_MO_most_7 : decode b_MO_most 7 = .ok (.idiv, 1) := by decide +kernel
theorem d_MO_most_8 : decode b_MO_most 8 = .ok (.ireturn, 1) := by decide +kernel
theorem d_MO_sumOf_0 : decode b_MO_sumOf 0 = .ok (.bipush 7, 2) := by decide +kernel
theorem d_MO_sumOf_2 : decode b_MO_sumOf 2 = .ok (.istore_n 2, 1) := by decide +kernel
theorem d_MO_sumOf_3 : decode b_MO_sumOf 3 = .ok (.iconst 1, 1) := by decide +kernel
theorem d_MO_sumOf_4 : decode b_MO_sumOf 4 = .ok (.istore_n 3, 1) := by decide +kernel
theorem d_MO_sumOf_5 : decode b_MO_sumOf 5 = .ok (.iload_n 3, 1) := by decide +kernel
theorem d_MO_sumOf_6 : decode b_MO_sumOf 6 = .ok (.aload_n 0, 1) := by decide +kernel
theorem d_MO_sumOf_7 : decode b_MO_sumOf 7 = .ok (.getfield 57, 3) := by decide +kernel
theorem d_MO_sumOf_10 : decode b_MO_sumOf 10 = .ok (.if_icmp .ge 24, 3) := by decide +kernel
theorem d_MO_sumOf_13 : decode b_MO_sumOf 13 = .ok (.iload_n 2, 1) := by decide +kernel
theorem d_MO_sumOf_14 : decode b_MO_sumOf 14 = .ok (.aload_n 0, 1) := by decide +kernel
theorem d_MO_sumOf_15 : decode b_MO_sumOf 15 = .ok (.iload_n 1, 1) := by decide +kernel
theorem d_MO_sumOf_16 : decode b_MO_sumOf 16 = .ok (.iload_n 3, 1) := by decide +kernel
theorem d_MO_sumOf_17 : decode b_MO_sumOf 17 = .ok (.invokevirtual 60, 3) := by decide +kernel
theorem d_MO_sumOf_20 : decode b_MO_sumOf 20 = .ok (.iconst 2, 1) := by decide +kernel
theorem d_MO_sumOf_21 : decode b_MO_sumOf 21 = .ok (.iload_n 3, 1) := by decide +kernel
theorem d_MO_sumOf_22 : decode b_MO_sumOf 22 = .ok (.imul, 1) := by decide +kernel
theorem d_MO_sumOf_23 : decode b_MO_sumOf 23 = .ok (.iconst 1, 1) := by decide +kernel
theorem d_MO_sumOf_24 : decode b_MO_sumOf 24 = .ok (.iadd, 1) := by decide +kernel
theorem d_MO_sumOf_25 : decode b_MO_sumOf 25 = .ok (.imul, 1) := by decide +kernel
theorem d_MO_sumOf_26 : decode b_MO_sumOf 26 = .ok (.iadd, 1) := by decide +kernel
theorem d_MO_sumOf_27 : decode b_MO_sumOf 27 = .ok (.istore_n 2, 1) := by decide +kernel
theorem d_MO_sumOf_28 : decode b_MO_sumOf 28 = .ok (.iinc 3 1, 3) := by decide +kernel
theorem d_MO_sumOf_31 : decode b_MO_sumOf 31 = .ok (.goto (-26), 3) := by decide +kernel
theorem d_MO_sumOf_34 : decode b_MO_sumOf 34 = .ok (.iload_n 2, 1) := by decide +kernel
theorem d_MO_sumOf_35 : decode b_MO_sumOf 35 = .ok (.ireturn, 1) := by decide +kernel
theorem d_MO_clearRow_0 : decode b_MO_clearRow 0 = .ok (.iconst 0, 1) := by decide +kernel
theorem d_MO_clearRow_1 : decode b_MO_clearRow 1 = .ok (.istore_n 1, 1) := by decide +kernel
theorem d_MO_clearRow_2 : decode b_MO_clearRow 2 = .ok (.iload_n 1, 1) := by decide +kernel
theorem d_MO_clearRow_3 : decode b_MO_clearRow 3 = .ok (.bipush 40, 2) := by decide +kernel
theorem d_MO_clearRow_5 : decode b_MO_clearRow 5 = .ok (.if_icmp .ge 16, 3) := by decide +kernel
theorem d_MO_clearRow_8 : decode b_MO_clearRow 8 = .ok (.aload_n 0, 1) := by decide +kernel
theorem d_MO_clearRow_9 : decode b_MO_clearRow 9 = .ok (.getfield 35, 3) := by decide +kernel
theorem d_MO_clearRow_12 : decode b_MO_clearRow 12 = .ok (.iload_n 1, 1) := by decide +kernel
theorem d_MO_clearRow_13 : decode b_MO_clearRow 13 = .ok (.iconst 0, 1) := by decide +kernel
theorem d_MO_clearRow_14 : decode b_MO_clearRow 14 = .ok (.iastore, 1) := by decide +kernel
theorem d_MO_clearRow_15 : decode b_MO_clearRow 15 = .ok (.iinc 1 1, 3) := by decide +kernel
theorem d_MO_clearRow_18 : decode b_MO_clearRow 18 = .ok (.goto (-16), 3) := by decide +kernel
theorem d_MO_clearRow_21 : decode b_MO_clearRow 21 = .ok (.return_, 1) := by decide +kernel
theorem d_MO_write_0 : decode b_MO_write 0 = .ok (.aload_n 0, 1) := by decide +kernel
theorem d_MO_write_1 : decode b_MO_write 1 = .ok (.getfield 64, 3) := by decide +kernel
theorem d_MO_write_4 : decode b_MO_write 4 = .ok (.ifCond .ne 11, 3) := by decide +kernel
theorem d_MO_write_7 : decode b_MO_write 7 = .ok (.aload_n 0, 1) := by decide +kernel
theorem d_MO_write_8 : decode b_MO_write 8 = .ok (.getfield 68, 3) := by decide +kernel
theorem d_MO_write_11 : decode b_MO_write 11 = .ok (.iconst 1, 1) := by decide +kernel
theorem d_MO_write_12 : decode b_MO_write 12 = .ok (.if_icmp .ne 9, 3) := by decide +kernel
theorem d_MO_write_15 : decode b_MO_write 15 = .ok (.aload_n 0, 1) := by decide +kernel
theorem d_MO_write_16 : decode b_MO_write 16 = .ok (.iconst 1, 1) := by decide +kernel
theorem d_MO_write_17 : decode b_MO_write 17 = .ok (.putfield 64, 3) := by decide +kernel
theorem d_MO_write_20 : decode b_MO_write 20 = .ok (.return_, 1) := by decide +kernel
theorem d_MO_write_21 : decode b_MO_write 21 = .ok (.aload_n 0, 1) := by decide +kernel
theorem d_MO_write_22 : decode b_MO_write 22 = .ok (.aload_n 0, 1) := by decide +kernel
theorem d_MO_write_23 : decode b_MO_write 23 = .ok (.getfield 68, 3) := by decide +kernel
theorem d_MO_write_26 : decode b_MO_write 26 = .ok (.ifCond .le 12, 3) := by decide +kernel
theorem d_MO_write_29 : decode b_MO_write 29 = .ok (.aload_n 0, 1) := by decide +kernel
theorem d_MO_write_30 : decode b_MO_write 30 = .ok (.getfield 68, 3) := by decide +kernel
theorem d_MO_write_33 : decode b_MO_write 33 = .ok (.iconst 1, 1) := by decide +kernel
theorem d_MO_write_34 : decode b_MO_write 34 = .ok (.isub, 1) := by decide +kernel
theorem d_MO_write_35 : decode b_MO_write 35 = .ok (.goto 7, 3) := by decide +kernel
theorem d_MO_write_38 : decode b_MO_write 38 = .ok (.aload_n 0, 1) := by decide +kernel
theorem d_MO_write_39 : decode b_MO_write 39 = .ok (.getfield 68, 3) := by decide +kernel
theorem d_MO_write_42 : decode b_MO_write 42 = .ok (.putfield 68, 3) := by decide +kernel
theorem d_MO_write_45 : decode b_MO_write 45 = .ok (.aload_n 0, 1) := by decide +kernel
theorem d_MO_write_46 : decode b_MO_write 46 = .ok (.dup, 1) := by decide +kernel
theorem d_MO_write_47 : decode b_MO_write 47 = .ok (.getfield 71, 3) := by decide +kernel
theorem d_MO_write_50 : decode b_MO_write 50 = .ok (.iconst 1, 1) := by decide +kernel
theorem d_MO_write_51 : decode b_MO_write 51 = .ok (.iadd, 1) := by decide +kernel
theorem d_MO_write_52 : decode b_MO_write 52 = .ok (.putfield 71, 3) := by decide +kernel
theorem d_MO_write_55 : decode b_MO_write 55 = .ok (.iconst 1, 1) := by decide +kernel
theorem d_MO_write_56 : decode b_MO_write 56 = .ok (.istore_n 2, 1) := by decide +kernel
theorem d_MO_write_57 : decode b_MO_write 57 = .ok (.iload_n 2, 1) := by decide +kernel
theorem d_MO_write_58 : decode b_MO_write 58 = .ok (.aload_n 0, 1) := by decide +kernel
theorem d_MO_write_59 : decode b_MO_write 59 = .ok (.getfield 57, 3) := by decide +kernel
theorem d_MO_write_62 : decode b_MO_write 62 = .ok (.if_icmp .ge 26, 3) := by decide +kernel
theorem d_MO_write_65 : decode b_MO_write 65 = .ok (.aload_n 0, 1) := by decide +kernel
theorem d_MO_write_66 : decode b_MO_write 66 = .ok (.getfield 7, 3) := by decide +kernel
theorem d_MO_write_69 : decode b_MO_write 69 = .ok (.bipush 40, 2) := by decide +kernel
theorem d_MO_write_71 : decode b_MO_write 71 = .ok (.iload_n 1, 1) := by decide +kernel
theorem d_MO_write_72 : decode b_MO_write 72 = .ok (.imul, 1) := by decide +kernel
theorem d_MO_write_73 : decode b_MO_write 73 = .ok (.iload_n 2, 1) := by decide +kernel
theorem d_MO_write_74 : decode b_MO_write 74 = .ok (.iadd, 1) := by decide +kernel
theorem d_MO_write_75 : decode b_MO_write 75 = .ok (.aload_n 0, 1) := by decide +kernel
theorem d_MO_write_76 : decode b_MO_write 76 = .ok (.getfield 35, 3) := by decide +kernel
theorem d_MO_write_79 : decode b_MO_write 79 = .ok (.iload_n 2, 1) := by decide +kernel
theorem d_MO_write_80 : decode b_MO_write 80 = .ok (.iaload, 1) := by decide +kernel
theorem d_MO_write_81 : decode b_MO_write 81 = .ok (.iastore, 1) := by decide +kernel
theorem d_MO_write_82 : decode b_MO_write 82 = .ok (.iinc 2 1, 3) := by decide +kernel
theorem d_MO_write_85 : decode b_MO_write 85 = .ok (.goto (-28), 3) := by decide +kernel
theorem d_MO_write_88 : decode b_MO_write 88 = .ok (.aload_n 0, 1) := by decide +kernel
theorem d_MO_write_89 : decode b_MO_write 89 = .ok (.getfield 7, 3) := by decide +kernel
theorem d_MO_write_92 : decode b_MO_write 92 = .ok (.bipush 40, 2) := by decide +kernel
theorem d_MO_write_94 : decode b_MO_write 94 = .ok (.iload_n 1, 1) := by decide +kernel
theorem d_MO_write_95 : decode b_MO_write 95 = .ok (.imul, 1) := by decide +kernel
theorem d_MO_write_96 : decode b_MO_write 96 = .ok (.aload_n 0, 1) := by decide +kernel
theorem d_MO_write_97 : decode b_MO_write 97 = .ok (.iload_n 1, 1) := by decide +kernel
theorem d_MO_write_98 : decode b_MO_write 98 = .ok (.invokevirtual 74, 3) := by decide +kernel
theorem d_MO_write_101 : decode b_MO_write 101 = .ok (.iastore, 1) := by decide +kernel
theorem d_MO_write_102 : decode b_MO_write 102 = .ok (.return_, 1) := by decide +kernel
theorem d_MO_blocksOf_0 : decode b_MO_blocksOf 0 = .ok (.iload_n 1, 1) := by decide +kernel
theorem d_MO_blocksOf_1 : decode b_MO_blocksOf 1 = .ok (.iload_n 2, 1) := by decide +kernel
theorem d_MO_blocksOf_2 : decode b_MO_blocksOf 2 = .ok (.iadd, 1) := by decide +kernel
theorem d_MO_blocksOf_3 : decode b_MO_blocksOf 3 = .ok (.aload_n 0, 1) := by decide +kernel
theorem d_MO_blocksOf_4 : decode b_MO_blocksOf 4 = .ok (.invokevirtual 78, 3) := by decide +kernel
theorem d_MO_blocksOf_7 : decode b_MO_blocksOf 7 = .ok (.iadd, 1) := by decide +kernel
theorem d_MO_blocksOf_8 : decode b_MO_blocksOf 8 = .ok (.iconst 1, 1) := by decide +kernel
theorem d_MO_blocksOf_9 : decode b_MO_blocksOf 9 = .ok (.isub, 1) := by decide +kernel
theorem d_MO_blocksOf_10 : decode b_MO_blocksOf 10 = .ok (.aload_n 0, 1) := by decide +kernel
theorem d_MO_blocksOf_11 : decode b_MO_blocksOf 11 = .ok (.invokevirtual 78, 3) := by decide +kernel
theorem d_MO_blocksOf_14 : decode b_MO_blocksOf 14 = .ok (.idiv, 1) := by decide +kernel
theorem d_MO_blocksOf_15 : decode b_MO_blocksOf 15 = .ok (.ireturn, 1) := by decide +kernel
theorem d_MO_markTaken_0 : decode b_MO_markTaken 0 = .ok (.iconst 0, 1) := by decide +kernel
theorem d_MO_markTaken_1 : decode b_MO_markTaken 1 = .ok (.istore_n 1, 1) := by decide +kernel
theorem d_MO_markTaken_2 : decode b_MO_markTaken 2 = .ok (.iload_n 1, 1) := by decide +kernel
theorem d_MO_markTaken_3 : decode b_MO_markTaken 3 = .ok (.sipush 200, 3) := by decide +kernel
theorem d_MO_markTaken_6 : decode b_MO_markTaken 6 = .ok (.if_icmp .ge 16, 3) := by decide +kernel
theorem d_MO_markTaken_9 : decode b_MO_markTaken 9 = .ok (.aload_n 0, 1) := by decide +kernel
theorem d_MO_markTaken_10 : decode b_MO_markTaken 10 = .ok (.getfield 32, 3) := by decide +kernel
theorem d_MO_markTaken_13 : decode b_MO_markTaken 13 = .ok (.iload_n 1, 1) := by decide +kernel
theorem d_MO_markTaken_14 : decode b_MO_markTaken 14 = .ok (.iconst 0, 1) := by decide +kernel
theorem d_MO_markTaken_15 : decode b_MO_markTaken 15 = .ok (.bastore, 1) := by decide +kernel
theorem d_MO_markTaken_16 : decode b_MO_markTaken 16 = .ok (.iinc 1 1, 3) := by decide +kernel
theorem d_MO_markTaken_19 : decode b_MO_markTaken 19 = .ok (.goto (-17), 3) := by decide +kernel
theorem d_MO_markTaken_22 : decode b_MO_markTaken 22 = .ok (.iconst 0, 1) := by decide +kernel
theorem d_MO_markTaken_23 : decode b_MO_markTaken 23 = .ok (.istore_n 1, 1) := by decide +kernel
theorem d_MO_markTaken_24 : decode b_MO_markTaken 24 = .ok (.iload_n 1, 1) := by decide +kernel
theorem d_MO_markTaken_25 : decode b_MO_markTaken 25 = .ok (.aload_n 0, 1) := by decide +kernel
theorem d_MO_markTaken_26 : decode b_MO_markTaken 26 = .ok (.getfield 82, 3) := by decide +kernel
theorem d_MO_markTaken_29 : decode b_MO_markTaken 29 = .ok (.if_icmp .ge 62, 3) := by decide +kernel
theorem d_MO_markTaken_32 : decode b_MO_markTaken 32 = .ok (.aload_n 0, 1) := by decide +kernel
theorem d_MO_markTaken_33 : decode b_MO_markTaken 33 = .ok (.getfield 16, 3) := by decide +kernel
theorem d_MO_markTaken_36 : decode b_MO_markTaken 36 = .ok (.iload_n 1, 1) := by decide +kernel
theorem d_MO_markTaken_37 : decode b_MO_markTaken 37 = .ok (.iaload, 1) := by decide +kernel
theorem d_MO_markTaken_38 : decode b_MO_markTaken 38 = .ok (.istore_n 2, 1) := by decide +kernel
theorem d_MO_markTaken_39 : decode b_MO_markTaken 39 = .ok (.aload_n 0, 1) := by decide +kernel
theorem d_MO_markTaken_40 : decode b_MO_markTaken 40 = .ok (.aload_n 0, 1) := by decide +kernel
theorem d_MO_markTaken_41 : decode b_MO_markTaken 41 = .ok (.getfield 19, 3) := by decide +kernel
theorem d_MO_markTaken_44 : decode b_MO_markTaken 44 = .ok (.iload_n 1, 1) := by decide +kernel
theorem d_MO_markTaken_45 : decode b_MO_markTaken 45 = .ok (.iaload, 1) := by decide +kernel
theorem d_MO_markTaken_46 : decode b_MO_markTaken 46 = .ok (.aload_n 0, 1) := by decide +kernel
theorem d_MO_markTaken_47 : decode b_MO_markTaken 47 = .ok (.getfield 22, 3) := by decide +kernel
theorem d_MO_markTaken_50 : decode b_MO_markTaken 50 = .ok (.iload_n 1, 1) := by decide +kernel
theorem d_MO_markTaken_51 : decode b_MO_markTaken 51 = .ok (.iaload, 1) := by decide +kernel
theorem d_MO_markTaken_52 : decode b_MO_markTaken 52 = .ok (.invokevirtual 85, 3) := by decide +kernel
theorem d_MO_markTaken_55 : decode b_MO_markTaken 55 = .ok (.istore_n 3, 1) := by decide +kernel
theorem d_MO_markTaken_56 : decode b_MO_markTaken 56 = .ok (.iconst 0, 1) := by decide +kernel
theorem d_MO_markTaken_57 : decode b_MO_markTaken 57 = .ok (.istore 4, 2) := by decide +kernel
theorem d_MO_markTaken_59 : decode b_MO_markTaken 59 = .ok (.iload 4, 2) := by decide +kernel
theorem d_MO_markTaken_61 : decode b_MO_markTaken 61 = .ok (.iload_n 3, 1) := by decide +kernel
theorem d_MO_markTaken_62 : decode b_MO_markTaken 62 = .ok (.if_icmp .ge 23, 3) := by decide +kernel
theorem d_MO_markTaken_65 : decode b_MO_markTaken 65 = .ok (.aload_n 0, 1) := by decide +kernel
theorem d_MO_markTaken_66 : decode b_MO_markTaken 66 = .ok (.getfield 32, 3) := by decide +kernel
theorem d_MO_markTaken_69 : decode b_MO_markTaken 69 = .ok (.iload_n 2, 1) := by decide +kernel
theorem d_MO_markTaken_70 : decode b_MO_markTaken 70 = .ok (.iconst 1, 1) := by decide +kernel
theorem d_MO_markTaken_71 : decode b_MO_markTaken 71 = .ok (.bastore, 1) := by decide +kernel
theorem d_MO_markTaken_72 : decode b_MO_markTaken 72 = .ok (.aload_n 0, 1) := by decide +kernel
theorem d_MO_markTaken_73 : decode b_MO_markTaken 73 = .ok (.iload_n 2, 1) := by decide +kernel
theorem d_MO_markTaken_74 : decode b_MO_markTaken 74 = .ok (.iconst 1, 1) := by decide +kernel
theorem d_MO_markTaken_75 : decode b_MO_markTaken 75 = .ok (.invokevirtual 60, 3) := by decide +kernel
theorem d_MO_markTaken_78 : decode b_MO_markTaken 78 = .ok (.istore_n 2, 1) := by decide +kernel
theorem d_MO_markTaken_79 : decode b_MO_markTaken 79 = .ok (.iinc 4 1, 3) := by decide +kernel
theorem d_MO_markTaken_82 : decode b_MO_markTaken 82 = .ok (.goto (-23), 3) := by decide +kernel
theorem d_MO_markTaken_85 : decode b_MO_markTaken 85 = .ok (.iinc 1 1, 3) := by decide +kernel
theorem d_MO_markTaken_88 : decode b_MO_markTaken 88 = .ok (.goto (-64), 3) := by decide +kernel
theorem d_MO_markTaken_91 : decode b_MO_markTaken 91 = .ok (.return_, 1) := by decide +kernel
theorem d_MO_isFree_0 : decode b_MO_isFree 0 = .ok (.aload_n 0, 1) := by decide +kernel
theorem d_MO_isFree_1 : decode b_MO_isFree 1 = .ok (.getfield 32, 3) := by decide +kernel
theorem d_MO_isFree_4 : decode b_MO_isFree 4 = .ok (.iload_n 1, 1) := by decide +kernel
theorem d_MO_isFree_5 : decode b_MO_isFree 5 = .ok (.baload, 1) := by decide +kernel
theorem d_MO_isFree_6 : decode b_MO_isFree 6 = .ok (.ifCond .ne 16, 3) := by decide +kernel
theorem d_MO_isFree_9 : decode b_MO_isFree 9 = .ok (.aload_n 0, 1) := by decide +kernel
theorem d_MO_isFree_10 : decode b_MO_isFree 10 = .ok (.getfield 28, 3) := by decide +kernel
theorem d_MO_isFree_13 : decode b_MO_isFree 13 = .ok (.iload_n 1, 1) := by decide +kernel
theorem d_MO_isFree_14 : decode b_MO_isFree 14 = .ok (.baload, 1) := by decide +kernel
theorem d_MO_isFree_15 : decode b_MO_isFree 15 = .ok (.ifCond .ne 7, 3) := by decide +kernel
theorem d_MO_isFree_18 : decode b_MO_isFree 18 = .ok (.iconst 1, 1) := by decide +kernel
theorem d_MO_isFree_19 : decode b_MO_isFree 19 = .ok (.goto 4, 3) := by decide +kernel
theorem d_MO_isFree_22 : decode b_MO_isFree 22 = .ok (.iconst 0, 1) := by decide +kernel
theorem d_MO_isFree_23 : decode b_MO_isFree 23 = .ok (.ireturn, 1) := by decide +kernel
theorem d_MO_free_0 : decode b_MO_free 0 = .ok (.aload_n 0, 1) := by decide +kernel
theorem d_MO_free_1 : decode b_MO_free 1 = .ok (.invokevirtual 88, 3) := by decide +kernel
theorem d_MO_free_4 : decode b_MO_free 4 = .ok (.iconst 0, 1) := by decide +kernel
theorem d_MO_free_5 : decode b_MO_free 5 = .ok (.istore_n 1, 1) := by decide +kernel
theorem d_MO_free_6 : decode b_MO_free 6 = .ok (.iconst 2, 1) := by decide +kernel
theorem d_MO_free_7 : decode b_MO_free 7 = .ok (.istore_n 2, 1) := by decide +kernel
theorem d_MO_free_8 : decode b_MO_free 8 = .ok (.iload_n 2, 1) := by decide +kernel
theorem d_MO_free_9 : decode b_MO_free 9 = .ok (.aload_n 0, 1) := by decide +kernel
theorem d_MO_free_10 : decode b_MO_free 10 = .ok (.getfield 91, 3) := by decide +kernel
theorem d_MO_free_13 : decode b_MO_free 13 = .ok (.if_icmp .ge 25, 3) := by decide +kernel
theorem d_MO_free_16 : decode b_MO_free 16 = .ok (.aload_n 0, 1) := by decide +kernel
theorem d_MO_free_17 : decode b_MO_free 17 = .ok (.iload_n 2, 1) := by decide +kernel
theorem d_MO_free_18 : decode b_MO_free 18 = .ok (.invokevirtual 94, 3) := by decide +kernel
theorem d_MO_free_21 : decode b_MO_free 21 = .ok (.ifCond .eq 9, 3) := by decide +kernel
theorem d_MO_free_24 : decode b_MO_free 24 = .ok (.iload_n 1, 1) := by decide +kernel
theorem d_MO_free_25 : decode b_MO_free 25 = .ok (.iconst 1, 1) := by decide +kernel
theorem d_MO_free_26 : decode b_MO_free 26 = .ok (.iadd, 1) := by decide +kernel
theorem d_MO_free_27 : decode b_MO_free 27 = .ok (.goto 4, 3) := by decide +kernel
theorem d_MO_free_30 : decode b_MO_free 30 = .ok (.iload_n 1, 1) := by decide +kernel
theorem d_MO_free_31 : decode b_MO_free 31 = .ok (.istore_n 1, 1) := by decide +kernel
theorem d_MO_free_32 : decode b_MO_free 32 = .ok (.iinc 2 1, 3) := by decide +kernel
theorem d_MO_free_35 : decode b_MO_free 35 = .ok (.goto (-27), 3) := by decide +kernel
theorem d_MO_free_38 : decode b_MO_free 38 = .ok (.iload_n 1, 1) := by decide +kernel
theorem d_MO_free_39 : decode b_MO_free 39 = .ok (.ireturn, 1) := by decide +kernel
theorem d_MO_least_0 : decode b_MO_least 0 = .ok (.aload_n 0, 1) := by decide +kernel
theorem d_MO_least_1 : decode b_MO_least 1 = .ok (.aload_n 0, 1) := by decide +kernel
theorem d_MO_least_2 : decode b_MO_least 2 = .ok (.getfield 16, 3) := by decide +kernel
theorem d_MO_least_5 : decode b_MO_least 5 = .ok (.iload_n 1, 1) := by decide +kernel
theorem d_MO_least_6 : decode b_MO_least 6 = .ok (.iaload, 1) := by decide +kernel
theorem d_MO_least_7 : decode b_MO_least 7 = .ok (.iconst 2, 1) := by decide +kernel
theorem d_MO_least_8 : decode b_MO_least 8 = .ok (.aload_n 0, 1) := by decide +kernel
theorem d_MO_least_9 : decode b_MO_least 9 = .ok (.getfield 19, 3) := by decide +kernel
theorem d_MO_least_12 : decode b_MO_least 12 = .ok (.iload_n 1, 1) := by decide +kernel
theorem d_MO_least_13 : decode b_MO_least 13 = .ok (.iaload, 1) := by decide +kernel
theorem d_MO_least_14 : decode b_MO_least 14 = .ok (.iadd, 1) := by decide +kernel
theorem d_MO_least_15 : decode b_MO_least 15 = .ok (.invokevirtual 60, 3) := by decide +kernel
theorem d_MO_least_18 : decode b_MO_least 18 = .ok (.ireturn, 1) := by decide +kernel
theorem d_MO_dropRun_0 : decode b_MO_dropRun 0 = .ok (.aload_n 0, 1) := by decide +kernel
theorem d_MO_dropRun_1 : decode b_MO_dropRun 1 = .ok (.dup, 1) := by decide +kernel
theorem d_MO_dropRun_2 : decode b_MO_dropRun 2 = .ok (.getfield 82, 3) := by decide +kernel
theorem d_MO_dropRun_5 : decode b_MO_dropRun 5 = .ok (.iconst 1, 1) := by decide +kernel
theorem d_MO_dropRun_6 : decode b_MO_dropRun 6 = .ok (.isub, 1) := by decide +kernel
theorem d_MO_dropRun_7 : decode b_MO_dropRun 7 = .ok (.putfield 82, 3) := by decide +kernel
theorem d_MO_dropRun_10 : decode b_MO_dropRun 10 = .ok (.iload_n 1, 1) := by decide +kernel
theorem d_MO_dropRun_11 : decode b_MO_dropRun 11 = .ok (.istore_n 2, 1) := by decide +kernel
theorem d_MO_dropRun_12 : decode b_MO_dropRun 12 = .ok (.iload_n 2, 1) := by decide +kernel
theorem d_MO_dropRun_13 : decode b_MO_dropRun 13 = .ok (.aload_n 0, 1) := by decide +kernel
theorem d_MO_dropRun_14 : decode b_MO_dropRun 14 = .ok (.getfield 82, 3) := by decide +kernel
theorem d_MO_dropRun_17 : decode b_MO_dropRun 17 = .ok (.if_icmp .ge 65, 3) := by decide +kernel
theorem d_MO_dropRun_20 : decode b_MO_dropRun 20 = .ok (.aload_n 0, 1) := by decide +kernel
theorem d_MO_dropRun_21 : decode b_MO_dropRun 21 = .ok (.getfield 16, 3) := by decide +kernel
theorem d_MO_dropRun_24 : decode b_MO_dropRun 24 = .ok (.iload_n 2, 1) := by decide +kernel
theorem d_MO_dropRun_25 : decode b_MO_dropRun 25 = .ok (.aload_n 0, 1) := by decide +kernel
theorem d_MO_dropRun_26 : decode b_MO_dropRun 26 = .ok (.getfield 16, 3) := by decide +kernel
theorem d_MO_dropRun_29 : decode b_MO_dropRun 29 = .ok (.iload_n 2, 1) := by decide +kernel
theorem d_MO_dropRun_30 : decode b_MO_dropRun 30 = .ok (.iconst 1, 1) := by decide +kernel
theorem d_MO_dropRun_31 : decode b_MO_dropRun 31 = .ok (.iadd, 1) := by decide +kernel
theorem d_MO_dropRun_32 : decode b_MO_dropRun 32 = .ok (.iaload, 1) := by decide +kernel
theorem d_MO_dropRun_33 : decode b_MO_dropRun 33 = .ok (.iastore, 1) := by decide +kernel
theorem d_MO_dropRun_34 : decode b_MO_dropRun 34 = .ok (.aload_n 0, 1) := by decide +kernel
theorem d_MO_dropRun_35 : decode b_MO_dropRun 35 = .ok (.getfield 19, 3) := by decide +kernel
theorem d_MO_dropRun_38 : decode b_MO_dropRun 38 = .ok (.iload_n 2, 1) := by decide +kernel
theorem d_MO_dropRun_39 : decode b_MO_dropRun 39 = .ok (.aload_n 0, 1) := by decide +kernel
theorem d_MO_dropRun_40 : decode b_MO_dropRun 40 = .ok (.getfield 19, 3) := by decide +kernel
theorem d_MO_dropRun_43 : decode b_MO_dropRun 43 = .ok (.iload_n 2, 1) := by decide +kernel
theorem d_MO_dropRun_44 : decode b_MO_dropRun 44 = .ok (.iconst 1, 1) := by decide +kernel
theorem d_MO_dropRun_45 : decode b_MO_dropRun 45 = .ok (.iadd, 1) := by decide +kernel
theorem d_MO_dropRun_46 : decode b_MO_dropRun 46 = .ok (.iaload, 1) := by decide +kernel
theorem d_MO_dropRun_47 : decode b_MO_dropRun 47 = .ok (.iastore, 1) := by decide +kernel
theorem d_MO_dropRun_48 : decode b_MO_dropRun 48 = .ok (.aload_n 0, 1) := by decide +kernel
theorem d_MO_dropRun_49 : decode b_MO_dropRun 49 = .ok (.getfield 22, 3) := by decide +kernel
theorem d_MO_dropRun_52 : decode b_MO_dropRun 52 = .ok (.iload_n 2, 1) := by decide +kernel
theorem d_MO_dropRun_53 : decode b_MO_dropRun 53 = .ok (.aload_n 0, 1) := by decide +kernel
theorem d_MO_dropRun_54 : decode b_MO_dropRun 54 = .ok (.getfield 22, 3) := by decide +kernel
theorem d_MO_dropRun_57 : decode b_MO_dropRun 57 = .ok (.iload_n 2, 1) := by decide +kernel
theorem d_MO_dropRun_58 : decode b_MO_dropRun 58 = .ok (.iconst 1, 1) := by decide +kernel
theorem d_MO_dropRun_59 : decode b_MO_dropRun 59 = .ok (.iadd, 1) := by decide +kernel
theorem d_MO_dropRun_60 : decode b_MO_dropRun 60 = .ok (.iaload, 1) := by decide +kernel
theorem d_MO_dropRun_61 : decode b_MO_dropRun 61 = .ok (.iastore, 1) := by decide +kernel
theorem d_MO_dropRun_62 : decode b_MO_dropRun 62 = .ok (.aload_n 0, 1) := by decide +kernel
theorem d_MO_dropRun_63 : decode b_MO_dropRun 63 = .ok (.getfield 25, 3) := by decide +kernel
theorem d_MO_dropRun_66 : decode b_MO_dropRun 66 = .ok (.iload_n 2, 1) := by decide +kernel
theorem d_MO_dropRun_67 : decode b_MO_dropRun 67 = .ok (.aload_n 0, 1) := by decide +kernel
theorem d_MO_dropRun_68 : decode b_MO_dropRun 68 = .ok (.getfield 25, 3) := by decide +kernel
theorem d_MO_dropRun_71 : decode b_MO_dropRun 71 = .ok (.iload_n 2, 1) := by decide +kernel
theorem d_MO_dropRun_72 : decode b_MO_dropRun 72 = .ok (.iconst 1, 1) := by decide +kernel
theorem d_MO_dropRun_73 : decode b_MO_dropRun 73 = .ok (.iadd, 1) := by decide +kernel
theorem d_MO_dropRun_74 : decode b_MO_dropRun 74 = .ok (.iaload, 1) := by decide +kernel
theorem d_MO_dropRun_75 : decode b_MO_dropRun 75 = .ok (.iastore, 1) := by decide +kernel
theorem d_MO_dropRun_76 : decode b_MO_dropRun 76 = .ok (.iinc 2 1, 3) := by decide +kernel
theorem d_MO_dropRun_79 : decode b_MO_dropRun 79 = .ok (.goto (-67), 3) := by decide +kernel
theorem d_MO_dropRun_82 : decode b_MO_dropRun 82 = .ok (.return_, 1) := by decide +kernel
theorem d_MO_addRun_0 : decode b_MO_addRun 0 = .ok (.aload_n 0, 1) := by decide +kernel
theorem d_MO_addRun_1 : decode b_MO_addRun 1 = .ok (.getfield 16, 3) := by decide +kernel
theorem d_MO_addRun_4 : decode b_MO_addRun 4 = .ok (.aload_n 0, 1) := by decide +kernel
theorem d_MO_addRun_5 : decode b_MO_addRun 5 = .ok (.getfield 82, 3) := by decide +kernel
theorem d_MO_addRun_8 : decode b_MO_addRun 8 = .ok (.iload_n 1, 1) := by decide +kernel
theorem d_MO_addRun_9 : decode b_MO_addRun 9 = .ok (.iastore, 1) := by decide +kernel
theorem d_MO_addRun_10 : decode b_MO_addRun 10 = .ok (.aload_n 0, 1) := by decide +kernel
theorem d_MO_addRun_11 : decode b_MO_addRun 11 = .ok (.getfield 19, 3) := by decide +kernel
theorem d_MO_addRun_14 : decode b_MO_addRun 14 = .ok (.aload_n 0, 1) := by decide +kernel
theorem d_MO_addRun_15 : decode b_MO_addRun 15 = .ok (.getfield 82, 3) := by decide +kernel
theorem d_MO_addRun_18 : decode b_MO_addRun 18 = .ok (.iconst 0, 1) := by decide +kernel
theorem d_MO_addRun_19 : decode b_MO_addRun 19 = .ok (.iastore, 1) := by decide +kernel
theorem d_MO_addRun_20 : decode b_MO_addRun 20 = .ok (.aload_n 0, 1) := by decide +kernel
theorem d_MO_addRun_21 : decode b_MO_addRun 21 = .ok (.getfield 22, 3) := by decide +kernel
theorem d_MO_addRun_24 : decode b_MO_addRun 24 = .ok (.aload_n 0, 1) := by decide +kernel
theorem d_MO_addRun_25 : decode b_MO_addRun 25 = .ok (.getfield 82, 3) := by decide +kernel
theorem d_MO_addRun_28 : decode b_MO_addRun 28 = .ok (.iload_n 2, 1) := by decide +kernel
theorem d_MO_addRun_29 : decode b_MO_addRun 29 = .ok (.iastore, 1) := by decide +kernel
theorem d_MO_addRun_30 : decode b_MO_addRun 30 = .ok (.aload_n 0, 1) := by decide +kernel
theorem d_MO_addRun_31 : decode b_MO_addRun 31 = .ok (.getfield 25, 3) := by decide +kernel
theorem d_MO_addRun_34 : decode b_MO_addRun 34 = .ok (.aload_n 0, 1) := by decide +kernel
theorem d_MO_addRun_35 : decode b_MO_addRun 35 = .ok (.getfield 82, 3) := by decide +kernel
theorem d_MO_addRun_38 : decode b_MO_addRun 38 = .ok (.iload_n 3, 1) := by decide +kernel
theorem d_MO_addRun_39 : decode b_MO_addRun 39 = .ok (.iastore, 1) := by decide +kernel
theorem d_MO_addRun_40 : decode b_MO_addRun 40 = .ok (.aload_n 0, 1) := by decide +kernel
theorem d_MO_addRun_41 : decode b_MO_addRun 41 = .ok (.dup, 1) := by decide +kernel
theorem d_MO_addRun_42 : decode b_MO_addRun 42 = .ok (.getfield 82, 3) := by decide +kernel
theorem d_MO_addRun_45 : decode b_MO_addRun 45 = .ok (.iconst 1, 1) := by decide +kernel
theorem d_MO_addRun_46 : decode b_MO_addRun 46 = .ok (.iadd, 1) := by decide +kernel
theorem d_MO_addRun_47 : decode b_MO_addRun 47 = .ok (.putfield 82, 3) := by decide +kernel
theorem d_MO_addRun_50 : decode b_MO_addRun 50 = .ok (.return_, 1) := by decide +kernel
theorem d_MO_choose_0 : decode b_MO_choose 0 = .ok (.aload_n 0, 1) := by decide +kernel
theorem d_MO_choose_1 : decode b_MO_choose 1 = .ok (.iconst 0, 1) := by decide +kernel
theorem d_MO_choose_2 : decode b_MO_choose 2 = .ok (.iload_n 1, 1) := by decide +kernel
theorem d_MO_choose_3 : decode b_MO_choose 3 = .ok (.invokevirtual 85, 3) := by decide +kernel
theorem d_MO_choose_6 : decode b_MO_choose 6 = .ok (.istore_n 2, 1) := by decide +kernel
theorem d_MO_choose_7 : decode b_MO_choose 7 = .ok (.aload_n 0, 1) := by decide +kernel
theorem d_MO_choose_8 : decode b_MO_choose 8 = .ok (.invokevirtual 98, 3) := by decide +kernel
theorem d_MO_choose_11 : decode b_MO_choose 11 = .ok (.iload_n 2, 1) := by decide +kernel
theorem d_MO_choose_12 : decode b_MO_choose 12 = .ok (.if_icmp .ge 5, 3) := by decide +kernel
theorem d_MO_choose_15 : decode b_MO_choose 15 = .ok (.iconst 0, 1) := by decide +kernel
theorem d_MO_choose_16 : decode b_MO_choose 16 = .ok (.ireturn, 1) := by decide +kernel
theorem d_MO_choose_17 : decode b_MO_choose 17 = .ok (.iconst 0, 1) := by decide +kernel
theorem d_MO_choose_18 : decode b_MO_choose 18 = .ok (.istore_n 3, 1) := by decide +kernel
theorem d_MO_choose_19 : decode b_MO_choose 19 = .ok (.iconst 2, 1) := by decide +kernel
theorem d_MO_choose_20 : decode b_MO_choose 20 = .ok (.istore 4, 2) := by decide +kernel
theorem d_MO_choose_22 : decode b_MO_choose 22 = .ok (.iload_n 3, 1) := by decide +kernel
theorem d_MO_choose_23 : decode b_MO_choose 23 = .ok (.iload_n 2, 1) := by decide +kernel
theorem d_MO_choose_24 : decode b_MO_choose 24 = .ok (.if_icmp .ge 29, 3) := by decide +kernel
theorem d_MO_choose_27 : decode b_MO_choose 27 = .ok (.aload_n 0, 1) := by decide +kernel
theorem d_MO_choose_28 : decode b_MO_choose 28 = .ok (.iload 4, 2) := by decide +kernel
theorem d_MO_choose_30 : decode b_MO_choose 30 = .ok (.invokevirtual 94, 3) := by decide +kernel
theorem d_MO_choose_33 : decode b_MO_choose 33 = .ok (.ifCond .eq 14, 3) := by decide +kernel
theorem d_MO_choose_36 : decode b_MO_choose 36 = .ok (.aload_n 0, 1) := by decide +kernel
theorem d_MO_choose_37 : decode b_MO_choose 37 = .ok (.getfield 38, 3) := by decide +kernel
theorem d_MO_choose_40 : decode b_MO_choose 40 = .ok (.iload_n 3, 1) := by decide +kernel
theorem d_MO_choose_41 : decode b_MO_choose 41 = .ok (.iload 4, 2) := by decide +kernel
theorem d_MO_choose_43 : decode b_MO_choose 43 = .ok (.iastore, 1) := by decide +kernel
theorem d_MO_choose_44 : decode b_MO_choose 44 = .ok (.iinc 3 1, 3) := by decide +kernel
theorem d_MO_choose_47 : decode b_MO_choose 47 = .ok (.iinc 4 1, 3) := by decide +kernel
theorem d_MO_choose_50 : decode b_MO_choose 50 = .ok (.goto (-28), 3) := by decide +kernel
theorem d_MO_choose_53 : decode b_MO_choose 53 = .ok (.iconst 1, 1) := by decide +kernel
theorem d_MO_choose_54 : decode b_MO_choose 54 = .ok (.ireturn, 1) := by decide +kernel
theorem d_MO_takeFromMemory_0 : decode b_MO_takeFromMemory 0 = .ok (.iconst 0, 1) := by decide +kernel
theorem d_MO_takeFromMemory_1 : decode b_MO_takeFromMemory 1 = .ok (.istore_n 1, 1) := by decide +kernel
theorem d_MO_takeFromMemory_2 : decode b_MO_takeFromMemory 2 = .ok (.iconst 1, 1) := by decide +kernel
theorem d_MO_takeFromMemory_3 : decode b_MO_takeFromMemory 3 = .ok (.istore_n 2, 1) := by decide +kernel
theorem d_MO_takeFromMemory_4 : decode b_MO_takeFromMemory 4 = .ok (.iload_n 2, 1) := by decide +kernel
theorem d_MO_takeFromMemory_5 : decode b_MO_takeFromMemory 5 = .ok (.aload_n 0, 1) := by decide +kernel
theorem d_MO_takeFromMemory_6 : decode b_MO_takeFromMemory 6 = .ok (.getfield 101, 3) := by decide +kernel
theorem d_MO_takeFromMemory_9 : decode b_MO_takeFromMemory 9 = .ok (.if_icmp .ge 30, 3) := by decide +kernel
theorem d_MO_takeFromMemory_12 : decode b_MO_takeFromMemory 12 = .ok (.aload_n 0, 1) := by decide +kernel
theorem d_MO_takeFromMemory_13 : decode b_MO_takeFromMemory 13 = .ok (.getfield 13, 3) := by decide +kernel
theorem d_MO_takeFromMemory_16 : decode b_MO_takeFromMemory 16 = .ok (.iload_n 2, 1) := by decide +kernel
theorem d_MO_takeFromMemory_17 : decode b_MO_takeFromMemory 17 = .ok (.iaload, 1) := by decide +kernel
theorem d_MO_takeFromMemory_18 : decode b_MO_takeFromMemory 18 = .ok (.aload_n 0, 1) := by decide +kernel
theorem d_MO_takeFromMemory_19 : decode b_MO_takeFromMemory 19 = .ok (.getfield 13, 3) := by decide +kernel
theorem d_MO_takeFromMemory_22 : decode b_MO_takeFromMemory 22 = .ok (.iload_n 1, 1) := by decide +kernel
theorem d_MO_takeFromMemory_23 : decode b_MO_takeFromMemory 23 = .ok (.iaload, 1) := by decide +kernel
theorem d_MO_takeFromMemory_24 : decode b_MO_takeFromMemory 24 = .ok (.if_icmp .ge 7, 3) := by decide +kernel
theorem d_MO_takeFromMemory_27 : decode b_MO_takeFromMemory 27 = .ok (.iload_n 2, 1) := by decide +kernel
theorem d_MO_takeFromMemory_28 : decode b_MO_takeFromMemory 28 = .ok (.goto 4, 3) := by decide +kernel
theorem d_MO_takeFromMemory_31 : decode b_MO_takeFromMemory 31 = .ok (.iload_n 1, 1) := by decide +kernel
theorem d_MO_takeFromMemory_32 : decode b_MO_takeFromMemory 32 = .ok (.istore_n 1, 1) := by decide +kernel
theorem d_MO_takeFromMemory_33 : decode b_MO_takeFromMemory 33 = .ok (.iinc 2 1, 3) := by decide +kernel
theorem d_MO_takeFromMemory_36 : decode b_MO_takeFromMemory 36 = .ok (.goto (-32), 3) := by decide +kernel
theorem d_MO_takeFromMemory_39 : decode b_MO_takeFromMemory 39 = .ok (.aload_n 0, 1) := by decide +kernel
theorem d_MO_takeFromMemory_40 : decode b_MO_takeFromMemory 40 = .ok (.getfield 13, 3) := by decide +kernel
theorem d_MO_takeFromMemory_43 : decode b_MO_takeFromMemory 43 = .ok (.iload_n 1, 1) := by decide +kernel
theorem d_MO_takeFromMemory_44 : decode b_MO_takeFromMemory 44 = .ok (.iaload, 1) := by decide +kernel
theorem d_MO_takeFromMemory_45 : decode b_MO_takeFromMemory 45 = .ok (.istore_n 2, 1) := by decide +kernel
theorem d_MO_takeFromMemory_46 : decode b_MO_takeFromMemory 46 = .ok (.aload_n 0, 1) := by decide +kernel
theorem d_MO_takeFromMemory_47 : decode b_MO_takeFromMemory 47 = .ok (.dup, 1) := by decide +kernel
theorem d_MO_takeFromMemory_48 : decode b_MO_takeFromMemory 48 = .ok (.getfield 101, 3) := by decide +kernel
theorem d_MO_takeFromMemory_51 : decode b_MO_takeFromMemory 51 = .ok (.iconst 1, 1) := by decide +kernel
theorem d_MO_takeFromMemory_52 : decode b_MO_takeFromMemory 52 = .ok (.isub, 1) := by decide +kernel
theorem d_MO_takeFromMemory_53 : decode b_MO_takeFromMemory 53 = .ok (.putfield 101, 3) := by decide +kernel
theorem d_MO_takeFromMemory_56 : decode b_MO_takeFromMemory 56 = .ok (.aload_n 0, 1) := by decide +kernel
theorem d_MO_takeFromMemory_57 : decode b_MO_takeFromMemory 57 = .ok (.getfield 13, 3) := by decide +kernel
theorem d_MO_takeFromMemory_60 : decode b_MO_takeFromMemory 60 = .ok (.iload_n 1, 1) := by decide +kernel
theorem d_MO_takeFromMemory_61 : decode b_MO_takeFromMemory 61 = .ok (.aload_n 0, 1) := by decide +kernel
theorem d_MO_takeFromMemory_62 : decode b_MO_takeFromMemory 62 = .ok (.getfield 13, 3) := by decide +kernel
theorem d_MO_takeFromMemory_65 : decode b_MO_takeFromMemory 65 = .ok (.aload_n 0, 1) := by decide +kernel
theorem d_MO_takeFromMemory_66 : decode b_MO_takeFromMemory 66 = .ok (.getfield 101, 3) := by decide +kernel
theorem d_MO_takeFromMemory_69 : decode b_MO_takeFromMemory 69 = .ok (.iaload, 1) := by decide +kernel
theorem d_MO_takeFromMemory_70 : decode b_MO_takeFromMemory 70 = .ok (.iastore, 1) := by decide +kernel
theorem d_MO_takeFromMemory_71 : decode b_MO_takeFromMemory 71 = .ok (.iload_n 2, 1) := by decide +kernel
theorem d_MO_takeFromMemory_72 : decode b_MO_takeFromMemory 72 = .ok (.ireturn, 1) := by decide +kernel
theorem d_MO_headOf_0 : decode b_MO_headOf 0 = .ok (.aload_n 0, 1) := by decide +kernel
theorem d_MO_headOf_1 : decode b_MO_headOf 1 = .ok (.aload_n 0, 1) := by decide +kernel
theorem d_MO_headOf_2 : decode b_MO_headOf 2 = .ok (.getfield 41, 3) := by decide +kernel
theorem d_MO_headOf_5 : decode b_MO_headOf 5 = .ok (.iload_n 1, 1) := by decide +kernel
theorem d_MO_headOf_6 : decode b_MO_headOf 6 = .ok (.iaload, 1) := by decide +kernel
theorem d_MO_headOf_7 : decode b_MO_headOf 7 = .ok (.iconst 2, 1) := by decide +kernel
theorem d_MO_headOf_8 : decode b_MO_headOf 8 = .ok (.aload_n 0, 1) := by decide +kernel
theorem d_MO_headOf_9 : decode b_MO_headOf 9 = .ok (.getfield 44, 3) := by decide +kernel
theorem d_MO_headOf_12 : decode b_MO_headOf 12 = .ok (.iload_n 1, 1) := by decide +kernel
theorem d_MO_headOf_13 : decode b_MO_headOf 13 = .ok (.iaload, 1) := by decide +kernel
theorem d_MO_headOf_14 : decode b_MO_headOf 14 = .ok (.iadd, 1) := by decide +kernel
theorem d_MO_headOf_15 : decode b_MO_headOf 15 = .ok (.invokevirtual 60, 3) := by decide +kernel
theorem d_MO_headOf_18 : decode b_MO_headOf 18 = .ok (.ireturn, 1) := by decide +kernel
theorem d_MO_takeFromRuns_0 : decode b_MO_takeFromRuns 0 = .ok (.iconst (-1), 1) := by decide +kernel
theorem d_MO_takeFromRuns_1 : decode b_MO_takeFromRuns 1 = .ok (.istore_n 1, 1) := by decide +kernel
theorem d_MO_takeFromRuns_2 : decode b_MO_takeFromRuns 2 = .ok (.iconst 0, 1) := by decide +kernel
theorem d_MO_takeFromRuns_3 : decode b_MO_takeFromRuns 3 = .ok (.istore_n 2, 1) := by decide +kernel
theorem d_MO_takeFromRuns_4 : decode b_MO_takeFromRuns 4 = .ok (.iload_n 2, 1) := by decide +kernel
theorem d_MO_takeFromRuns_5 : decode b_MO_takeFromRuns 5 = .ok (.aload_n 0, 1) := by decide +kernel
theorem d_MO_takeFromRuns_6 : decode b_MO_takeFromRuns 6 = .ok (.getfield 82, 3) := by decide +kernel
theorem d_MO_takeFromRuns_9 : decode b_MO_takeFromRuns 9 = .ok (.if_icmp .ge 50, 3) := by decide +kernel
theorem d_MO_takeFromRuns_12 : decode b_MO_takeFromRuns 12 = .ok (.aload_n 0, 1) := by decide +kernel
theorem d_MO_takeFromRuns_13 : decode b_MO_takeFromRuns 13 = .ok (.getfield 50, 3) := by decide +kernel
theorem d_MO_takeFromRuns_16 : decode b_MO_takeFromRuns 16 = .ok (.iload_n 2, 1) := by decide +kernel
theorem d_MO_takeFromRuns_17 : decode b_MO_takeFromRuns 17 = .ok (.baload, 1) := by decide +kernel
theorem d_MO_takeFromRuns_18 : decode b_MO_takeFromRuns 18 = .ok (.ifCond .eq 33, 3) := by decide +kernel
theorem d_MO_takeFromRuns_21 : decode b_MO_takeFromRuns 21 = .ok (.aload_n 0, 1) := by decide +kernel
theorem d_MO_takeFromRuns_22 : decode b_MO_takeFromRuns 22 = .ok (.getfield 47, 3) := by decide +kernel
theorem d_MO_takeFromRuns_25 : decode b_MO_takeFromRuns 25 = .ok (.iload_n 2, 1) := by decide +kernel
theorem d_MO_takeFromRuns_26 : decode b_MO_takeFromRuns 26 = .ok (.iaload, 1) := by decide +kernel
theorem d_MO_takeFromRuns_27 : decode b_MO_takeFromRuns 27 = .ok (.ifCond .le 24, 3) := by decide +kernel
theorem d_MO_takeFromRuns_30 : decode b_MO_takeFromRuns 30 = .ok (.iload_n 1, 1) := by decide +kernel
theorem d_MO_takeFromRuns_31 : decode b_MO_takeFromRuns 31 = .ok (.ifCond .lt 16, 3) := by decide +kernel
theorem d_MO_takeFromRuns_34 : decode b_MO_takeFromRuns 34 = .ok (.aload_n 0, 1) := by decide +kernel
theorem d_MO_takeFromRuns_35 : decode b_MO_takeFromRuns 35 = .ok (.iload_n 2, 1) := by decide +kernel
theorem d_MO_takeFromRuns_36 : decode b_MO_takeFromRuns 36 = .ok (.invokevirtual 104, 3) := by decide +kernel
theorem d_MO_takeFromRuns_39 : decode b_MO_takeFromRuns 39 = .ok (.aload_n 0, 1) := by decide +kernel
theorem d_MO_takeFromRuns_40 : decode b_MO_takeFromRuns 40 = .ok (.iload_n 1, 1) := by decide +kernel
theorem d_MO_takeFromRuns_41 : decode b_MO_takeFromRuns 41 = .ok (.invokevirtual 104, 3) := by decide +kernel
theorem d_MO_takeFromRuns_44 : decode b_MO_takeFromRuns 44 = .ok (.if_icmp .ge 7, 3) := by decide +kernel
theorem d_MO_takeFromRuns_47 : decode b_MO_takeFromRuns 47 = .ok (.iload_n 2, 1) := by decide +kernel
theorem d_MO_takeFromRuns_48 : decode b_MO_takeFromRuns 48 = .ok (.goto 4, 3) := by decide +kernel
theorem d_MO_takeFromRuns_51 : decode b_MO_takeFromRuns 51 = .ok (.iload_n 1, 1) := by decide +kernel
theorem d_MO_takeFromRuns_52 : decode b_MO_takeFromRuns 52 = .ok (.istore_n 1, 1) := by decide +kernel
theorem d_MO_takeFromRuns_53 : decode b_MO_takeFromRuns 53 = .ok (.iinc 2 1, 3) := by decide +kernel
theorem d_MO_takeFromRuns_56 : decode b_MO_takeFromRuns 56 = .ok (.goto (-52), 3) := by decide +kernel
theorem d_MO_takeFromRuns_59 : decode b_MO_takeFromRuns 59 = .ok (.aload_n 0, 1) := by decide +kernel
theorem d_MO_takeFromRuns_60 : decode b_MO_takeFromRuns 60 = .ok (.iload_n 1, 1) := by decide +kernel
theorem d_MO_takeFromRuns_61 : decode b_MO_takeFromRuns 61 = .ok (.invokevirtual 104, 3) := by decide +kernel
theorem d_MO_takeFromRuns_64 : decode b_MO_takeFromRuns 64 = .ok (.istore_n 2, 1) := by decide +kernel
theorem d_MO_takeFromRuns_65 : decode b_MO_takeFromRuns 65 = .ok (.aload_n 0, 1) := by decide +kernel
theorem d_MO_takeFromRuns_66 : decode b_MO_takeFromRuns 66 = .ok (.getfield 47, 3) := by decide +kernel
theorem d_MO_takeFromRuns_69 : decode b_MO_takeFromRuns 69 = .ok (.iload_n 1, 1) := by decide +kernel
theorem d_MO_takeFromRuns_70 : decode b_MO_takeFromRuns 70 = .ok (.dup2, 1) := by decide +kernel
theorem d_MO_takeFromRuns_71 : decode b_MO_takeFromRuns 71 = .ok (.iaload, 1) := by decide +kernel
theorem d_MO_takeFromRuns_72 : decode b_MO_takeFromRuns 72 = .ok (.iconst 1, 1) := by decide +kernel
theorem d_MO_takeFromRuns_73 : decode b_MO_takeFromRuns 73 = .ok (.isub, 1) := by decide +kernel
theorem d_MO_takeFromRuns_74 : decode b_MO_takeFromRuns 74 = .ok (.iastore, 1) := by decide +kernel
theorem d_MO_takeFromRuns_75 : decode b_MO_takeFromRuns 75 = .ok (.aload_n 0, 1) := by decide +kernel
theorem d_MO_takeFromRuns_76 : decode b_MO_takeFromRuns 76 = .ok (.getfield 44, 3) := by decide +kernel
theorem d_MO_takeFromRuns_79 : decode b_MO_takeFromRuns 79 = .ok (.iload_n 1, 1) := by decide +kernel
theorem d_MO_takeFromRuns_80 : decode b_MO_takeFromRuns 80 = .ok (.dup2, 1) := by decide +kernel
theorem d_MO_takeFromRuns_81 : decode b_MO_takeFromRuns 81 = .ok (.iaload, 1) := by decide +kernel
theorem d_MO_takeFromRuns_82 : decode b_MO_takeFromRuns 82 = .ok (.iconst 1, 1) := by decide +kernel
theorem d_MO_takeFromRuns_83 : decode b_MO_takeFromRuns 83 = .ok (.iadd, 1) := by decide +kernel
theorem d_MO_takeFromRuns_84 : decode b_MO_takeFromRuns 84 = .ok (.iastore, 1) := by decide +kernel
theorem d_MO_takeFromRuns_85 : decode b_MO_takeFromRuns 85 = .ok (.aload_n 0, 1) := by decide +kernel
theorem d_MO_takeFromRuns_86 : decode b_MO_takeFromRuns 86 = .ok (.getfield 44, 3) := by decide +kernel
theorem d_MO_takeFromRuns_89 : decode b_MO_takeFromRuns 89 = .ok (.iload_n 1, 1) := by decide +kernel
theorem d_MO_takeFromRuns_90 : decode b_MO_takeFromRuns 90 = .ok (.iaload, 1) := by decide +kernel
theorem d_MO_takeFromRuns_91 : decode b_MO_takeFromRuns 91 = .ok (.aload_n 0, 1) := by decide +kernel
theorem d_MO_takeFromRuns_92 : decode b_MO_takeFromRuns 92 = .ok (.invokevirtual 78, 3) := by decide +kernel
theorem d_MO_takeFromRuns_95 : decode b_MO_takeFromRuns 95 = .ok (.if_icmp .ne 27, 3) := by decide +kernel
theorem d_MO_takeFromRuns_98 : decode b_MO_takeFromRuns 98 = .ok (.aload_n 0, 1) := by decide +kernel
theorem d_MO_takeFromRuns_99 : decode b_MO_takeFromRuns 99 = .ok (.getfield 44, 3) := by decide +kernel
theorem d_MO_takeFromRuns_102 : decode b_MO_takeFromRuns 102 = .ok (.iload_n 1, 1) := by decide +kernel
theorem d_MO_takeFromRuns_103 : decode b_MO_takeFromRuns 103 = .ok (.iconst 0, 1) := by decide +kernel
theorem d_MO_takeFromRuns_104 : decode b_MO_takeFromRuns 104 = .ok (.iastore, 1) := by decide +kernel
theorem d_MO_takeFromRuns_105 : decode b_MO_takeFromRuns 105 = .ok (.aload_n 0, 1) := by decide +kernel
theorem d_MO_takeFromRuns_106 : decode b_MO_takeFromRuns 106 = .ok (.getfield 41, 3) := by decide +kernel
theorem d_MO_takeFromRuns_109 : decode b_MO_takeFromRuns 109 = .ok (.iload_n 1, 1) := by decide +kernel
theorem d_MO_takeFromRuns_110 : decode b_MO_takeFromRuns 110 = .ok (.aload_n 0, 1) := by decide +kernel
theorem d_MO_takeFromRuns_111 : decode b_MO_takeFromRuns 111 = .ok (.aload_n 0, 1) := by decide +kernel
theorem d_MO_takeFromRuns_112 : decode b_MO_takeFromRuns 112 = .ok (.getfield 41, 3) := by decide +kernel
theorem d_MO_takeFromRuns_115 : decode b_MO_takeFromRuns 115 = .ok (.iload_n 1, 1) := by decide +kernel
theorem d_MO_takeFromRuns_116 : decode b_MO_takeFromRuns 116 = .ok (.iaload, 1) := by decide +kernel
theorem d_MO_takeFromRuns_117 : decode b_MO_takeFromRuns 117 = .ok (.iconst 1, 1) := by decide +kernel
theorem d_MO_takeFromRuns_118 : decode b_MO_takeFromRuns 118 = .ok (.invokevirtual 60, 3) := by decide +kernel
theorem d_MO_takeFromRuns_121 : decode b_MO_takeFromRuns 121 = .ok (.iastore, 1) := by decide +kernel
theorem d_MO_takeFromRuns_122 : decode b_MO_takeFromRuns 122 = .ok (.iload_n 2, 1) := by decide +kernel
theorem d_MO_takeFromRuns_123 : decode b_MO_takeFromRuns 123 = .ok (.ireturn, 1) := by decide +kernel
theorem d_MO_writeKeys_0 : decode b_MO_writeKeys 0 = .ok (.aload_n 0, 1) := by decide +kernel
theorem d_MO_writeKeys_1 : decode b_MO_writeKeys 1 = .ok (.iconst 0, 1) := by decide +kernel
theorem d_MO_writeKeys_2 : decode b_MO_writeKeys 2 = .ok (.iload_n 1, 1) := by decide +kernel
theorem d_MO_writeKeys_3 : decode b_MO_writeKeys 3 = .ok (.invokevirtual 85, 3) := by decide +kernel
theorem d_MO_writeKeys_6 : decode b_MO_writeKeys 6 = .ok (.istore_n 3, 1) := by decide +kernel
theorem d_MO_writeKeys_7 : decode b_MO_writeKeys 7 = .ok (.iload_n 1, 1) := by decide +kernel
theorem d_MO_writeKeys_8 : decode b_MO_writeKeys 8 = .ok (.istore 4, 2) := by decide +kernel
theorem d_MO_writeKeys_10 : decode b_MO_writeKeys 10 = .ok (.iconst 0, 1) := by decide +kernel
theorem d_MO_writeKeys_11 : decode b_MO_writeKeys 11 = .ok (.istore 5, 2) := by decide +kernel
theorem d_MO_writeKeys_13 : decode b_MO_writeKeys 13 = .ok (.iload 5, 2) := by decide +kernel
theorem d_MO_writeKeys_15 : decode b_MO_writeKeys 15 = .ok (.iload_n 3, 1) := by decide +kernel
theorem d_MO_writeKeys_16 : decode b_MO_writeKeys 16 = .ok (.if_icmp .ge 108, 3) := by decide +kernel
theorem d_MO_writeKeys_19 : decode b_MO_writeKeys 19 = .ok (.aload_n 0, 1) := by decide +kernel
theorem d_MO_writeKeys_20 : decode b_MO_writeKeys 20 = .ok (.getfield 64, 3) := by decide +kernel
theorem d_MO_writeKeys_23 : decode b_MO_writeKeys 23 = .ok (.ifCond .ne 101, 3) := by decide +kernel
theorem d_MO_writeKeys_26 : decode b_MO_writeKeys 26 = .ok (.aload_n 0, 1) := by decide +kernel
theorem d_MO_writeKeys_27 : decode b_MO_writeKeys 27 = .ok (.invokevirtual 107, 3) := by decide +kernel
theorem d_MO_writeKeys_30 : decode b_MO_writeKeys 30 = .ok (.aload_n 0, 1) := by decide +kernel
theorem d_MO_writeKeys_31 : decode b_MO_writeKeys 31 = .ok (.getfield 35, 3) := by decide +kernel
theorem d_MO_writeKeys_34 : decode b_MO_writeKeys 34 = .ok (.iconst 1, 1) := by decide +kernel
theorem d_MO_writeKeys_35 : decode b_MO_writeKeys 35 = .ok (.iload 5, 2) := by decide +kernel
theorem d_MO_writeKeys_37 : decode b_MO_writeKeys 37 = .ok (.iconst 1, 1) := by decide +kernel
theorem d_MO_writeKeys_38 : decode b_MO_writeKeys 38 = .ok (.iadd, 1) := by decide +kernel
theorem d_MO_writeKeys_39 : decode b_MO_writeKeys 39 = .ok (.iload_n 3, 1) := by decide +kernel
theorem d_MO_writeKeys_40 : decode b_MO_writeKeys 40 = .ok (.if_icmp .ge 15, 3) := by decide +kernel
theorem d_MO_writeKeys_43 : decode b_MO_writeKeys 43 = .ok (.aload_n 0, 1) := by decide +kernel
theorem d_MO_writeKeys_44 : decode b_MO_writeKeys 44 = .ok (.getfield 38, 3) := by decide +kernel
theorem d_MO_writeKeys_47 : decode b_MO_writeKeys 47 = .ok (.iload 5, 2) := by decide +kernel
theorem d_MO_writeKeys_49 : decode b_MO_writeKeys 49 = .ok (.iconst 1, 1) := by decide +kernel
theorem d_MO_writeKeys_50 : decode b_MO_writeKeys 50 = .ok (.iadd, 1) := by decide +kernel
theorem d_MO_writeKeys_51 : decode b_MO_writeKeys 51 = .ok (.iaload, 1) := by decide +kernel
theorem d_MO_writeKeys_52 : decode b_MO_writeKeys 52 = .ok (.goto 4, 3) := by decide +kernel
theorem d_MO_writeKeys_55 : decode b_MO_writeKeys 55 = .ok (.iconst 0, 1) := by decide +kernel
theorem d_MO_writeKeys_56 : decode b_MO_writeKeys 56 = .ok (.iastore, 1) := by decide +kernel
theorem d_MO_writeKeys_57 : decode b_MO_writeKeys 57 = .ok (.iconst 0, 1) := by decide +kernel
theorem d_MO_writeKeys_58 : decode b_MO_writeKeys 58 = .ok (.istore 6, 2) := by decide +kernel
theorem d_MO_writeKeys_60 : decode b_MO_writeKeys 60 = .ok (.iload 6, 2) := by decide +kernel
theorem d_MO_writeKeys_62 : decode b_MO_writeKeys 62 = .ok (.aload_n 0, 1) := by decide +kernel
theorem d_MO_writeKeys_63 : decode b_MO_writeKeys 63 = .ok (.invokevirtual 78, 3) := by decide +kernel
end
section
theorem d_MO_writeKeys_66 : decode b_MO_writeKeys 66 = .ok (.if_icmp .ge 41, 3) := by decide +kernel
theorem d_MO_writeKeys_69 : decode b_MO_writeKeys 69 = .ok (.iload 4, 2) := by decide +kernel
theorem d_MO_writeKeys_71 : decode b_MO_writeKeys 71 = .ok (.ifCond .le 36, 3) := by decide +kernel
theorem d_MO_writeKeys_74 : decode b_MO_writeKeys 74 = .ok (.aload_n 0, 1) := by decide +kernel
theorem d_MO_writeKeys_75 : decode b_MO_writeKeys 75 = .ok (.getfield 35, 3) := by decide +kernel
theorem d_MO_writeKeys_78 : decode b_MO_writeKeys 78 = .ok (.iconst 2, 1) := by decide +kernel
theorem d_MO_writeKeys_79 : decode b_MO_writeKeys 79 = .ok (.iload 6, 2) := by decide +kernel
theorem d_MO_writeKeys_81 : decode b_MO_writeKeys 81 = .ok (.iadd, 1) := by decide +kernel
theorem d_MO_writeKeys_82 : decode b_MO_writeKeys 82 = .ok (.iload_n 2, 1) := by decide +kernel
theorem d_MO_writeKeys_83 : decode b_MO_writeKeys 83 = .ok (.ifCond .eq 10, 3) := by decide +kernel
theorem d_MO_writeKeys_86 : decode b_MO_writeKeys 86 = .ok (.aload_n 0, 1) := by decide +kernel
theorem d_MO_writeKeys_87 : decode b_MO_writeKeys 87 = .ok (.invokevirtual 110, 3) := by decide +kernel
theorem d_MO_writeKeys_90 : decode b_MO_writeKeys 90 = .ok (.goto 7, 3) := by decide +kernel
theorem d_MO_writeKeys_93 : decode b_MO_writeKeys 93 = .ok (.aload_n 0, 1) := by decide +kernel
theorem d_MO_writeKeys_94 : decode b_MO_writeKeys 94 = .ok (.invokevirtual 113, 3) := by decide +kernel
theorem d_MO_writeKeys_97 : decode b_MO_writeKeys 97 = .ok (.iastore, 1) := by decide +kernel
theorem d_MO_writeKeys_98 : decode b_MO_writeKeys 98 = .ok (.iinc 4 (-1), 3) := by decide +kernel
theorem d_MO_writeKeys_101 : decode b_MO_writeKeys 101 = .ok (.iinc 6 1, 3) := by decide +kernel
theorem d_MO_writeKeys_104 : decode b_MO_writeKeys 104 = .ok (.goto (-44), 3) := by decide +kernel
theorem d_MO_writeKeys_107 : decode b_MO_writeKeys 107 = .ok (.aload_n 0, 1) := by decide +kernel
theorem d_MO_writeKeys_108 : decode b_MO_writeKeys 108 = .ok (.aload_n 0, 1) := by decide +kernel
theorem d_MO_writeKeys_109 : decode b_MO_writeKeys 109 = .ok (.getfield 38, 3) := by decide +kernel
theorem d_MO_writeKeys_112 : decode b_MO_writeKeys 112 = .ok (.iload 5, 2) := by decide +kernel
theorem d_MO_writeKeys_114 : decode b_MO_writeKeys 114 = .ok (.iaload, 1) := by decide +kernel
theorem d_MO_writeKeys_115 : decode b_MO_writeKeys 115 = .ok (.invokevirtual 116, 3) := by decide +kernel
theorem d_MO_writeKeys_118 : decode b_MO_writeKeys 118 = .ok (.iinc 5 1, 3) := by decide +kernel
theorem d_MO_writeKeys_121 : decode b_MO_writeKeys 121 = .ok (.goto (-108), 3) := by decide +kernel
theorem d_MO_writeKeys_124 : decode b_MO_writeKeys 124 = .ok (.return_, 1) := by decide +kernel
theorem d_MO_merge_0 : decode b_MO_merge 0 = .ok (.iconst 0, 1) := by decide +kernel
theorem d_MO_merge_1 : decode b_MO_merge 1 = .ok (.istore 4, 2) := by decide +kernel
theorem d_MO_merge_3 : decode b_MO_merge 3 = .ok (.iconst 0, 1) := by decide +kernel
theorem d_MO_merge_4 : decode b_MO_merge 4 = .ok (.istore 5, 2) := by decide +kernel
theorem d_MO_merge_6 : decode b_MO_merge 6 = .ok (.iload 5, 2) := by decide +kernel
theorem d_MO_merge_8 : decode b_MO_merge 8 = .ok (.aload_n 0, 1) := by decide +kernel
theorem d_MO_merge_9 : decode b_MO_merge 9 = .ok (.getfield 82, 3) := by decide +kernel
theorem d_MO_merge_12 : decode b_MO_merge 12 = .ok (.if_icmp .ge 105, 3) := by decide +kernel
theorem d_MO_merge_15 : decode b_MO_merge 15 = .ok (.aload_n 0, 1) := by decide +kernel
theorem d_MO_merge_16 : decode b_MO_merge 16 = .ok (.getfield 50, 3) := by decide +kernel
theorem d_MO_merge_19 : decode b_MO_merge 19 = .ok (.iload 5, 2) := by decide +kernel
theorem d_MO_merge_21 : decode b_MO_merge 21 = .ok (.iload_n 1, 1) := by decide +kernel
theorem d_MO_merge_22 : decode b_MO_merge 22 = .ok (.ifCond .ne 14, 3) := by decide +kernel
theorem d_MO_merge_25 : decode b_MO_merge 25 = .ok (.aload_n 0, 1) := by decide +kernel
theorem d_MO_merge_26 : decode b_MO_merge 26 = .ok (.getfield 25, 3) := by decide +kernel
theorem d_MO_merge_29 : decode b_MO_merge 29 = .ok (.iload 5, 2) := by decide +kernel
theorem d_MO_merge_31 : decode b_MO_merge 31 = .ok (.iaload, 1) := by decide +kernel
theorem d_MO_merge_32 : decode b_MO_merge 32 = .ok (.iload_n 2, 1) := by decide +kernel
theorem d_MO_merge_33 : decode b_MO_merge 33 = .ok (.if_icmp .ne 7, 3) := by decide +kernel
theorem d_MO_merge_36 : decode b_MO_merge 36 = .ok (.iconst 1, 1) := by decide +kernel
theorem d_MO_merge_37 : decode b_MO_merge 37 = .ok (.goto 4, 3) := by decide +kernel
theorem d_MO_merge_40 : decode b_MO_merge 40 = .ok (.iconst 0, 1) := by decide +kernel
theorem d_MO_merge_41 : decode b_MO_merge 41 = .ok (.bastore, 1) := by decide +kernel
theorem d_MO_merge_42 : decode b_MO_merge 42 = .ok (.aload_n 0, 1) := by decide +kernel
theorem d_MO_merge_43 : decode b_MO_merge 43 = .ok (.getfield 41, 3) := by decide +kernel
theorem d_MO_merge_46 : decode b_MO_merge 46 = .ok (.iload 5, 2) := by decide +kernel
theorem d_MO_merge_48 : decode b_MO_merge 48 = .ok (.aload_n 0, 1) := by decide +kernel
theorem d_MO_merge_49 : decode b_MO_merge 49 = .ok (.getfield 16, 3) := by decide +kernel
theorem d_MO_merge_52 : decode b_MO_merge 52 = .ok (.iload 5, 2) := by decide +kernel
theorem d_MO_merge_54 : decode b_MO_merge 54 = .ok (.iaload, 1) := by decide +kernel
theorem d_MO_merge_55 : decode b_MO_merge 55 = .ok (.iastore, 1) := by decide +kernel
theorem d_MO_merge_56 : decode b_MO_merge 56 = .ok (.aload_n 0, 1) := by decide +kernel
theorem d_MO_merge_57 : decode b_MO_merge 57 = .ok (.getfield 44, 3) := by decide +kernel
theorem d_MO_merge_60 : decode b_MO_merge 60 = .ok (.iload 5, 2) := by decide +kernel
theorem d_MO_merge_62 : decode b_MO_merge 62 = .ok (.aload_n 0, 1) := by decide +kernel
theorem d_MO_merge_63 : decode b_MO_merge 63 = .ok (.getfield 19, 3) := by decide +kernel
theorem d_MO_merge_66 : decode b_MO_merge 66 = .ok (.iload 5, 2) := by decide +kernel
theorem d_MO_merge_68 : decode b_MO_merge 68 = .ok (.iaload, 1) := by decide +kernel
theorem d_MO_merge_69 : decode b_MO_merge 69 = .ok (.iastore, 1) := by decide +kernel
theorem d_MO_merge_70 : decode b_MO_merge 70 = .ok (.aload_n 0, 1) := by decide +kernel
theorem d_MO_merge_71 : decode b_MO_merge 71 = .ok (.getfield 47, 3) := by decide +kernel
theorem d_MO_merge_74 : decode b_MO_merge 74 = .ok (.iload 5, 2) := by decide +kernel
theorem d_MO_merge_76 : decode b_MO_merge 76 = .ok (.aload_n 0, 1) := by decide +kernel
theorem d_MO_merge_77 : decode b_MO_merge 77 = .ok (.getfield 22, 3) := by decide +kernel
theorem d_MO_merge_80 : decode b_MO_merge 80 = .ok (.iload 5, 2) := by decide +kernel
theorem d_MO_merge_82 : decode b_MO_merge 82 = .ok (.iaload, 1) := by decide +kernel
theorem d_MO_merge_83 : decode b_MO_merge 83 = .ok (.iastore, 1) := by decide +kernel
theorem d_MO_merge_84 : decode b_MO_merge 84 = .ok (.aload_n 0, 1) := by decide +kernel
theorem d_MO_merge_85 : decode b_MO_merge 85 = .ok (.getfield 50, 3) := by decide +kernel
theorem d_MO_merge_88 : decode b_MO_merge 88 = .ok (.iload 5, 2) := by decide +kernel
theorem d_MO_merge_90 : decode b_MO_merge 90 = .ok (.baload, 1) := by decide +kernel
theorem d_MO_merge_91 : decode b_MO_merge 91 = .ok (.ifCond .eq 16, 3) := by decide +kernel
theorem d_MO_merge_94 : decode b_MO_merge 94 = .ok (.iload 4, 2) := by decide +kernel
theorem d_MO_merge_96 : decode b_MO_merge 96 = .ok (.aload_n 0, 1) := by decide +kernel
theorem d_MO_merge_97 : decode b_MO_merge 97 = .ok (.getfield 22, 3) := by decide +kernel
theorem d_MO_merge_100 : decode b_MO_merge 100 = .ok (.iload 5, 2) := by decide +kernel
theorem d_MO_merge_102 : decode b_MO_merge 102 = .ok (.iaload, 1) := by decide +kernel
theorem d_MO_merge_103 : decode b_MO_merge 103 = .ok (.iadd, 1) := by decide +kernel
theorem d_MO_merge_104 : decode b_MO_merge 104 = .ok (.goto 5, 3) := by decide +kernel
theorem d_MO_merge_107 : decode b_MO_merge 107 = .ok (.iload 4, 2) := by decide +kernel
theorem d_MO_merge_109 : decode b_MO_merge 109 = .ok (.istore 4, 2) := by decide +kernel
theorem d_MO_merge_111 : decode b_MO_merge 111 = .ok (.iinc 5 1, 3) := by decide +kernel
theorem d_MO_merge_114 : decode b_MO_merge 114 = .ok (.goto (-108), 3) := by decide +kernel
theorem d_MO_merge_117 : decode b_MO_merge 117 = .ok (.aload_n 0, 1) := by decide +kernel
theorem d_MO_merge_118 : decode b_MO_merge 118 = .ok (.iload 4, 2) := by decide +kernel
theorem d_MO_merge_120 : decode b_MO_merge 120 = .ok (.invokevirtual 120, 3) := by decide +kernel
theorem d_MO_merge_123 : decode b_MO_merge 123 = .ok (.ifCond .ne 5, 3) := by decide +kernel
theorem d_MO_merge_126 : decode b_MO_merge 126 = .ok (.iconst 0, 1) := by decide +kernel
theorem d_MO_merge_127 : decode b_MO_merge 127 = .ok (.ireturn, 1) := by decide +kernel
theorem d_MO_merge_128 : decode b_MO_merge 128 = .ok (.aload_n 0, 1) := by decide +kernel
theorem d_MO_merge_129 : decode b_MO_merge 129 = .ok (.iload 4, 2) := by decide +kernel
theorem d_MO_merge_131 : decode b_MO_merge 131 = .ok (.iconst 0, 1) := by decide +kernel
theorem d_MO_merge_132 : decode b_MO_merge 132 = .ok (.invokevirtual 123, 3) := by decide +kernel
theorem d_MO_merge_135 : decode b_MO_merge 135 = .ok (.aload_n 0, 1) := by decide +kernel
theorem d_MO_merge_136 : decode b_MO_merge 136 = .ok (.getfield 38, 3) := by decide +kernel
theorem d_MO_merge_139 : decode b_MO_merge 139 = .ok (.iconst 0, 1) := by decide +kernel
theorem d_MO_merge_140 : decode b_MO_merge 140 = .ok (.iaload, 1) := by decide +kernel
theorem d_MO_merge_141 : decode b_MO_merge 141 = .ok (.istore 5, 2) := by decide +kernel
theorem d_MO_merge_143 : decode b_MO_merge 143 = .ok (.aload_n 0, 1) := by decide +kernel
theorem d_MO_merge_144 : decode b_MO_merge 144 = .ok (.getfield 82, 3) := by decide +kernel
theorem d_MO_merge_147 : decode b_MO_merge 147 = .ok (.iconst 1, 1) := by decide +kernel
theorem d_MO_merge_148 : decode b_MO_merge 148 = .ok (.isub, 1) := by decide +kernel
theorem d_MO_merge_149 : decode b_MO_merge 149 = .ok (.istore 6, 2) := by decide +kernel
theorem d_MO_merge_151 : decode b_MO_merge 151 = .ok (.iload 6, 2) := by decide +kernel
theorem d_MO_merge_153 : decode b_MO_merge 153 = .ok (.ifCond .lt 30, 3) := by decide +kernel
theorem d_MO_merge_156 : decode b_MO_merge 156 = .ok (.iload_n 1, 1) := by decide +kernel
theorem d_MO_merge_157 : decode b_MO_merge 157 = .ok (.ifCond .ne 14, 3) := by decide +kernel
theorem d_MO_merge_160 : decode b_MO_merge 160 = .ok (.aload_n 0, 1) := by decide +kernel
theorem d_MO_merge_161 : decode b_MO_merge 161 = .ok (.getfield 25, 3) := by decide +kernel
theorem d_MO_merge_164 : decode b_MO_merge 164 = .ok (.iload 6, 2) := by decide +kernel
theorem d_MO_merge_166 : decode b_MO_merge 166 = .ok (.iaload, 1) := by decide +kernel
theorem d_MO_merge_167 : decode b_MO_merge 167 = .ok (.iload_n 2, 1) := by decide +kernel
theorem d_MO_merge_168 : decode b_MO_merge 168 = .ok (.if_icmp .ne 9, 3) := by decide +kernel
theorem d_MO_merge_171 : decode b_MO_merge 171 = .ok (.aload_n 0, 1) := by decide +kernel
theorem d_MO_merge_172 : decode b_MO_merge 172 = .ok (.iload 6, 2) := by decide +kernel
theorem d_MO_merge_174 : decode b_MO_merge 174 = .ok (.invokevirtual 127, 3) := by decide +kernel
theorem d_MO_merge_177 : decode b_MO_merge 177 = .ok (.iinc 6 (-1), 3) := by decide +kernel
theorem d_MO_merge_180 : decode b_MO_merge 180 = .ok (.goto (-29), 3) := by decide +kernel
theorem d_MO_merge_183 : decode b_MO_merge 183 = .ok (.aload_n 0, 1) := by decide +kernel
theorem d_MO_merge_184 : decode b_MO_merge 184 = .ok (.iload 5, 2) := by decide +kernel
theorem d_MO_merge_186 : decode b_MO_merge 186 = .ok (.iload 4, 2) := by decide +kernel
theorem d_MO_merge_188 : decode b_MO_merge 188 = .ok (.iload_n 3, 1) := by decide +kernel
theorem d_MO_merge_189 : decode b_MO_merge 189 = .ok (.invokevirtual 130, 3) := by decide +kernel
theorem d_MO_merge_192 : decode b_MO_merge 192 = .ok (.iconst 1, 1) := by decide +kernel
theorem d_MO_merge_193 : decode b_MO_merge 193 = .ok (.ireturn, 1) := by decide +kernel
theorem d_MO_mergeAll_0 : decode b_MO_mergeAll 0 = .ok (.iconst 0, 1) := by decide +kernel
theorem d_MO_mergeAll_1 : decode b_MO_mergeAll 1 = .ok (.istore_n 1, 1) := by decide +kernel
theorem d_MO_mergeAll_2 : decode b_MO_mergeAll 2 = .ok (.iconst 0, 1) := by decide +kernel
theorem d_MO_mergeAll_3 : decode b_MO_mergeAll 3 = .ok (.istore_n 2, 1) := by decide +kernel
theorem d_MO_mergeAll_4 : decode b_MO_mergeAll 4 = .ok (.iload_n 2, 1) := by decide +kernel
theorem d_MO_mergeAll_5 : decode b_MO_mergeAll 5 = .ok (.aload_n 0, 1) := by decide +kernel
theorem d_MO_mergeAll_6 : decode b_MO_mergeAll 6 = .ok (.getfield 82, 3) := by decide +kernel
theorem d_MO_mergeAll_9 : decode b_MO_mergeAll 9 = .ok (.if_icmp .ge 30, 3) := by decide +kernel
theorem d_MO_mergeAll_12 : decode b_MO_mergeAll 12 = .ok (.aload_n 0, 1) := by decide +kernel
theorem d_MO_mergeAll_13 : decode b_MO_mergeAll 13 = .ok (.getfield 25, 3) := by decide +kernel
theorem d_MO_mergeAll_16 : decode b_MO_mergeAll 16 = .ok (.iload_n 2, 1) := by decide +kernel
theorem d_MO_mergeAll_17 : decode b_MO_mergeAll 17 = .ok (.iaload, 1) := by decide +kernel
theorem d_MO_mergeAll_18 : decode b_MO_mergeAll 18 = .ok (.iload_n 1, 1) := by decide +kernel
theorem d_MO_mergeAll_19 : decode b_MO_mergeAll 19 = .ok (.if_icmp .le 12, 3) := by decide +kernel
theorem d_MO_mergeAll_22 : decode b_MO_mergeAll 22 = .ok (.aload_n 0, 1) := by decide +kernel
theorem d_MO_mergeAll_23 : decode b_MO_mergeAll 23 = .ok (.getfield 25, 3) := by decide +kernel
theorem d_MO_mergeAll_26 : decode b_MO_mergeAll 26 = .ok (.iload_n 2, 1) := by decide +kernel
theorem d_MO_mergeAll_27 : decode b_MO_mergeAll 27 = .ok (.iaload, 1) := by decide +kernel
theorem d_MO_mergeAll_28 : decode b_MO_mergeAll 28 = .ok (.goto 4, 3) := by decide +kernel
theorem d_MO_mergeAll_31 : decode b_MO_mergeAll 31 = .ok (.iload_n 1, 1) := by decide +kernel
theorem d_MO_mergeAll_32 : decode b_MO_mergeAll 32 = .ok (.istore_n 1, 1) := by decide +kernel
theorem d_MO_mergeAll_33 : decode b_MO_mergeAll 33 = .ok (.iinc 2 1, 3) := by decide +kernel
theorem d_MO_mergeAll_36 : decode b_MO_mergeAll 36 = .ok (.goto (-32), 3) := by decide +kernel
theorem d_MO_mergeAll_39 : decode b_MO_mergeAll 39 = .ok (.aload_n 0, 1) := by decide +kernel
theorem d_MO_mergeAll_40 : decode b_MO_mergeAll 40 = .ok (.iconst 1, 1) := by decide +kernel
theorem d_MO_mergeAll_41 : decode b_MO_mergeAll 41 = .ok (.iconst 0, 1) := by decide +kernel
theorem d_MO_mergeAll_42 : decode b_MO_mergeAll 42 = .ok (.iload_n 1, 1) := by decide +kernel
theorem d_MO_mergeAll_43 : decode b_MO_mergeAll 43 = .ok (.iconst 1, 1) := by decide +kernel
theorem d_MO_mergeAll_44 : decode b_MO_mergeAll 44 = .ok (.iadd, 1) := by decide +kernel
theorem d_MO_mergeAll_45 : decode b_MO_mergeAll 45 = .ok (.invokevirtual 134, 3) := by decide +kernel
theorem d_MO_mergeAll_48 : decode b_MO_mergeAll 48 = .ok (.ireturn, 1) := by decide +kernel
theorem d_MO_runsOf_0 : decode b_MO_runsOf 0 = .ok (.iconst 0, 1) := by decide +kernel
theorem d_MO_runsOf_1 : decode b_MO_runsOf 1 = .ok (.istore_n 2, 1) := by decide +kernel
theorem d_MO_runsOf_2 : decode b_MO_runsOf 2 = .ok (.iconst 0, 1) := by decide +kernel
theorem d_MO_runsOf_3 : decode b_MO_runsOf 3 = .ok (.istore_n 3, 1) := by decide +kernel
theorem d_MO_runsOf_4 : decode b_MO_runsOf 4 = .ok (.iload_n 3, 1) := by decide +kernel
theorem d_MO_runsOf_5 : decode b_MO_runsOf 5 = .ok (.aload_n 0, 1) := by decide +kernel
theorem d_MO_runsOf_6 : decode b_MO_runsOf 6 = .ok (.getfield 82, 3) := by decide +kernel
theorem d_MO_runsOf_9 : decode b_MO_runsOf 9 = .ok (.if_icmp .ge 27, 3) := by decide +kernel
theorem d_MO_runsOf_12 : decode b_MO_runsOf 12 = .ok (.aload_n 0, 1) := by decide +kernel
theorem d_MO_runsOf_13 : decode b_MO_runsOf 13 = .ok (.getfield 25, 3) := by decide +kernel
theorem d_MO_runsOf_16 : decode b_MO_runsOf 16 = .ok (.iload_n 3, 1) := by decide +kernel
theorem d_MO_runsOf_17 : decode b_MO_runsOf 17 = .ok (.iaload, 1) := by decide +kernel
theorem d_MO_runsOf_18 : decode b_MO_runsOf 18 = .ok (.iload_n 1, 1) := by decide +kernel
theorem d_MO_runsOf_19 : decode b_MO_runsOf 19 = .ok (.if_icmp .ne 9, 3) := by decide +kernel
theorem d_MO_runsOf_22 : decode b_MO_runsOf 22 = .ok (.iload_n 2, 1) := by decide +kernel
theorem d_MO_runsOf_23 : decode b_MO_runsOf 23 = .ok (.iconst 1, 1) := by decide +kernel
theorem d_MO_runsOf_24 : decode b_MO_runsOf 24 = .ok (.iadd, 1) := by decide +kernel
theorem d_MO_runsOf_25 : decode b_MO_runsOf 25 = .ok (.goto 4, 3) := by decide +kernel
theorem d_MO_runsOf_28 : decode b_MO_runsOf 28 = .ok (.iload_n 2, 1) := by decide +kernel
theorem d_MO_runsOf_29 : decode b_MO_runsOf 29 = .ok (.istore_n 2, 1) := by decide +kernel
theorem d_MO_runsOf_30 : decode b_MO_runsOf 30 = .ok (.iinc 3 1, 3) := by decide +kernel
theorem d_MO_runsOf_33 : decode b_MO_runsOf 33 = .ok (.goto (-29), 3) := by decide +kernel
theorem d_MO_runsOf_36 : decode b_MO_runsOf 36 = .ok (.iload_n 2, 1) := by decide +kernel
theorem d_MO_runsOf_37 : decode b_MO_runsOf 37 = .ok (.ireturn, 1) := by decide +kernel
theorem d_MO_crowded_0 : decode b_MO_crowded 0 = .ok (.iconst (-1), 1) := by decide +kernel
theorem d_MO_crowded_1 : decode b_MO_crowded 1 = .ok (.istore_n 1, 1) := by decide +kernel
theorem d_MO_crowded_2 : decode b_MO_crowded 2 = .ok (.iconst 0, 1) := by decide +kernel
theorem d_MO_crowded_3 : decode b_MO_crowded 3 = .ok (.istore_n 2, 1) := by decide +kernel
theorem d_MO_crowded_4 : decode b_MO_crowded 4 = .ok (.iload_n 2, 1) := by decide +kernel
theorem d_MO_crowded_5 : decode b_MO_crowded 5 = .ok (.aload_n 0, 1) := by decide +kernel
theorem d_MO_crowded_6 : decode b_MO_crowded 6 = .ok (.getfield 82, 3) := by decide +kernel
theorem d_MO_crowded_9 : decode b_MO_crowded 9 = .ok (.if_icmp .ge 51, 3) := by decide +kernel
theorem d_MO_crowded_12 : decode b_MO_crowded 12 = .ok (.aload_n 0, 1) := by decide +kernel
theorem d_MO_crowded_13 : decode b_MO_crowded 13 = .ok (.aload_n 0, 1) := by decide +kernel
theorem d_MO_crowded_14 : decode b_MO_crowded 14 = .ok (.getfield 25, 3) := by decide +kernel
theorem d_MO_crowded_17 : decode b_MO_crowded 17 = .ok (.iload_n 2, 1) := by decide +kernel
theorem d_MO_crowded_18 : decode b_MO_crowded 18 = .ok (.iaload, 1) := by decide +kernel
theorem d_MO_crowded_19 : decode b_MO_crowded 19 = .ok (.invokevirtual 138, 3) := by decide +kernel
theorem d_MO_crowded_22 : decode b_MO_crowded 22 = .ok (.aload_n 0, 1) := by decide +kernel
theorem d_MO_crowded_23 : decode b_MO_crowded 23 = .ok (.getfield 141, 3) := by decide +kernel
theorem d_MO_crowded_26 : decode b_MO_crowded 26 = .ok (.if_icmp .lt 26, 3) := by decide +kernel
theorem d_MO_crowded_29 : decode b_MO_crowded 29 = .ok (.iload_n 1, 1) := by decide +kernel
theorem d_MO_crowded_30 : decode b_MO_crowded 30 = .ok (.ifCond .lt 18, 3) := by decide +kernel
theorem d_MO_crowded_33 : decode b_MO_crowded 33 = .ok (.aload_n 0, 1) := by decide +kernel
theorem d_MO_crowded_34 : decode b_MO_crowded 34 = .ok (.getfield 25, 3) := by decide +kernel
theorem d_MO_crowded_37 : decode b_MO_crowded 37 = .ok (.iload_n 2, 1) := by decide +kernel
theorem d_MO_crowded_38 : decode b_MO_crowded 38 = .ok (.iaload, 1) := by decide +kernel
theorem d_MO_crowded_39 : decode b_MO_crowded 39 = .ok (.aload_n 0, 1) := by decide +kernel
theorem d_MO_crowded_40 : decode b_MO_crowded 40 = .ok (.getfield 25, 3) := by decide +kernel
theorem d_MO_crowded_43 : decode b_MO_crowded 43 = .ok (.iload_n 1, 1) := by decide +kernel
theorem d_MO_crowded_44 : decode b_MO_crowded 44 = .ok (.iaload, 1) := by decide +kernel
theorem d_MO_crowded_45 : decode b_MO_crowded 45 = .ok (.if_icmp .ge 7, 3) := by decide +kernel
theorem d_MO_crowded_48 : decode b_MO_crowded 48 = .ok (.iload_n 2, 1) := by decide +kernel
theorem d_MO_crowded_49 : decode b_MO_crowded 49 = .ok (.goto 4, 3) := by decide +kernel
theorem d_MO_crowded_52 : decode b_MO_crowded 52 = .ok (.iload_n 1, 1) := by decide +kernel
theorem d_MO_crowded_53 : decode b_MO_crowded 53 = .ok (.istore_n 1, 1) := by decide +kernel
theorem d_MO_crowded_54 : decode b_MO_crowded 54 = .ok (.iinc 2 1, 3) := by decide +kernel
theorem d_MO_crowded_57 : decode b_MO_crowded 57 = .ok (.goto (-53), 3) := by decide +kernel
theorem d_MO_crowded_60 : decode b_MO_crowded 60 = .ok (.iload_n 1, 1) := by decide +kernel
theorem d_MO_crowded_61 : decode b_MO_crowded 61 = .ok (.ireturn, 1) := by decide +kernel
theorem d_MO_spill_0 : decode b_MO_spill 0 = .ok (.aload_n 0, 1) := by decide +kernel
theorem d_MO_spill_1 : decode b_MO_spill 1 = .ok (.getfield 82, 3) := by decide +kernel
theorem d_MO_spill_4 : decode b_MO_spill 4 = .ok (.aload_n 0, 1) := by decide +kernel
theorem d_MO_spill_5 : decode b_MO_spill 5 = .ok (.invokevirtual 144, 3) := by decide +kernel
theorem d_MO_spill_8 : decode b_MO_spill 8 = .ok (.if_icmp .ne 12, 3) := by decide +kernel
theorem d_MO_spill_11 : decode b_MO_spill 11 = .ok (.aload_n 0, 1) := by decide +kernel
theorem d_MO_spill_12 : decode b_MO_spill 12 = .ok (.invokevirtual 147, 3) := by decide +kernel
theorem d_MO_spill_15 : decode b_MO_spill 15 = .ok (.ifCond .ne 5, 3) := by decide +kernel
theorem d_MO_spill_18 : decode b_MO_spill 18 = .ok (.iconst 0, 1) := by decide +kernel
theorem d_MO_spill_19 : decode b_MO_spill 19 = .ok (.ireturn, 1) := by decide +kernel
theorem d_MO_spill_20 : decode b_MO_spill 20 = .ok (.aload_n 0, 1) := by decide +kernel
theorem d_MO_spill_21 : decode b_MO_spill 21 = .ok (.getfield 64, 3) := by decide +kernel
theorem d_MO_spill_24 : decode b_MO_spill 24 = .ok (.ifCond .eq 5, 3) := by decide +kernel
theorem d_MO_spill_27 : decode b_MO_spill 27 = .ok (.iconst 1, 1) := by decide +kernel
theorem d_MO_spill_28 : decode b_MO_spill 28 = .ok (.ireturn, 1) := by decide +kernel
theorem d_MO_spill_29 : decode b_MO_spill 29 = .ok (.aload_n 0, 1) := by decide +kernel
theorem d_MO_spill_30 : decode b_MO_spill 30 = .ok (.getfield 101, 3) := by decide +kernel
theorem d_MO_spill_33 : decode b_MO_spill 33 = .ok (.istore_n 1, 1) := by decide +kernel
theorem d_MO_spill_34 : decode b_MO_spill 34 = .ok (.aload_n 0, 1) := by decide +kernel
theorem d_MO_spill_35 : decode b_MO_spill 35 = .ok (.iload_n 1, 1) := by decide +kernel
theorem d_MO_spill_36 : decode b_MO_spill 36 = .ok (.invokevirtual 120, 3) := by decide +kernel
theorem d_MO_spill_39 : decode b_MO_spill 39 = .ok (.ifCond .ne 5, 3) := by decide +kernel
theorem d_MO_spill_42 : decode b_MO_spill 42 = .ok (.iconst 0, 1) := by decide +kernel
theorem d_MO_spill_43 : decode b_MO_spill 43 = .ok (.ireturn, 1) := by decide +kernel
theorem d_MO_spill_44 : decode b_MO_spill 44 = .ok (.aload_n 0, 1) := by decide +kernel
theorem d_MO_spill_45 : decode b_MO_spill 45 = .ok (.iload_n 1, 1) := by decide +kernel
theorem d_MO_spill_46 : decode b_MO_spill 46 = .ok (.iconst 1, 1) := by decide +kernel
theorem d_MO_spill_47 : decode b_MO_spill 47 = .ok (.invokevirtual 123, 3) := by decide +kernel
theorem d_MO_spill_50 : decode b_MO_spill 50 = .ok (.aload_n 0, 1) := by decide +kernel
theorem d_MO_spill_51 : decode b_MO_spill 51 = .ok (.aload_n 0, 1) := by decide +kernel
theorem d_MO_spill_52 : decode b_MO_spill 52 = .ok (.getfield 38, 3) := by decide +kernel
theorem d_MO_spill_55 : decode b_MO_spill 55 = .ok (.iconst 0, 1) := by decide +kernel
theorem d_MO_spill_56 : decode b_MO_spill 56 = .ok (.iaload, 1) := by decide +kernel
theorem d_MO_spill_57 : decode b_MO_spill 57 = .ok (.iload_n 1, 1) := by decide +kernel
theorem d_MO_spill_58 : decode b_MO_spill 58 = .ok (.iconst 0, 1) := by decide +kernel
theorem d_MO_spill_59 : decode b_MO_spill 59 = .ok (.invokevirtual 130, 3) := by decide +kernel
theorem d_MO_spill_62 : decode b_MO_spill 62 = .ok (.aload_n 0, 1) := by decide +kernel
theorem d_MO_spill_63 : decode b_MO_spill 63 = .ok (.getfield 64, 3) := by decide +kernel
theorem d_MO_spill_66 : decode b_MO_spill 66 = .ok (.ifCond .ne 7, 3) := by decide +kernel
theorem d_MO_spill_69 : decode b_MO_spill 69 = .ok (.iconst 1, 1) := by decide +kernel
theorem d_MO_spill_70 : decode b_MO_spill 70 = .ok (.goto 4, 3) := by decide +kernel
theorem d_MO_spill_73 : decode b_MO_spill 73 = .ok (.iconst 0, 1) := by decide +kernel
theorem d_MO_spill_74 : decode b_MO_spill 74 = .ok (.istore_n 2, 1) := by decide +kernel
theorem d_MO_spill_75 : decode b_MO_spill 75 = .ok (.iload_n 2, 1) := by decide +kernel
theorem d_MO_spill_76 : decode b_MO_spill 76 = .ok (.ifCond .eq 50, 3) := by decide +kernel
theorem d_MO_spill_79 : decode b_MO_spill 79 = .ok (.aload_n 0, 1) := by decide +kernel
theorem d_MO_spill_80 : decode b_MO_spill 80 = .ok (.invokevirtual 151, 3) := by decide +kernel
theorem d_MO_spill_83 : decode b_MO_spill 83 = .ok (.istore_n 3, 1) := by decide +kernel
theorem d_MO_spill_84 : decode b_MO_spill 84 = .ok (.iload_n 3, 1) := by decide +kernel
theorem d_MO_spill_85 : decode b_MO_spill 85 = .ok (.ifCond .lt 36, 3) := by decide +kernel
theorem d_MO_spill_88 : decode b_MO_spill 88 = .ok (.aload_n 0, 1) := by decide +kernel
theorem d_MO_spill_89 : decode b_MO_spill 89 = .ok (.iconst 0, 1) := by decide +kernel
theorem d_MO_spill_90 : decode b_MO_spill 90 = .ok (.aload_n 0, 1) := by decide +kernel
theorem d_MO_spill_91 : decode b_MO_spill 91 = .ok (.getfield 25, 3) := by decide +kernel
theorem d_MO_spill_94 : decode b_MO_spill 94 = .ok (.iload_n 3, 1) := by decide +kernel
theorem d_MO_spill_95 : decode b_MO_spill 95 = .ok (.iaload, 1) := by decide +kernel
theorem d_MO_spill_96 : decode b_MO_spill 96 = .ok (.aload_n 0, 1) := by decide +kernel
theorem d_MO_spill_97 : decode b_MO_spill 97 = .ok (.getfield 25, 3) := by decide +kernel
theorem d_MO_spill_100 : decode b_MO_spill 100 = .ok (.iload_n 3, 1) := by decide +kernel
theorem d_MO_spill_101 : decode b_MO_spill 101 = .ok (.iaload, 1) := by decide +kernel
theorem d_MO_spill_102 : decode b_MO_spill 102 = .ok (.iconst 1, 1) := by decide +kernel
theorem d_MO_spill_103 : decode b_MO_spill 103 = .ok (.iadd, 1) := by decide +kernel
theorem d_MO_spill_104 : decode b_MO_spill 104 = .ok (.invokevirtual 134, 3) := by decide +kernel
theorem d_MO_spill_107 : decode b_MO_spill 107 = .ok (.ifCond .eq 14, 3) := by decide +kernel
theorem d_MO_spill_110 : decode b_MO_spill 110 = .ok (.aload_n 0, 1) := by decide +kernel
theorem d_MO_spill_111 : decode b_MO_spill 111 = .ok (.getfield 64, 3) := by decide +kernel
theorem d_MO_spill_114 : decode b_MO_spill 114 = .ok (.ifCond .ne 7, 3) := by decide +kernel
theorem d_MO_spill_117 : decode b_MO_spill 117 = .ok (.iconst 1, 1) := by decide +kernel
theorem d_MO_spill_118 : decode b_MO_spill 118 = .ok (.goto 4, 3) := by decide +kernel
theorem d_MO_spill_121 : decode b_MO_spill 121 = .ok (.iconst 0, 1) := by decide +kernel
theorem d_MO_spill_122 : decode b_MO_spill 122 = .ok (.istore_n 2, 1) := by decide +kernel
theorem d_MO_spill_123 : decode b_MO_spill 123 = .ok (.goto (-48), 3) := by decide +kernel
theorem d_MO_spill_126 : decode b_MO_spill 126 = .ok (.iconst 1, 1) := by decide +kernel
theorem d_MO_spill_127 : decode b_MO_spill 127 = .ok (.ireturn, 1) := by decide +kernel
theorem d_MO_writeSuper_0 : decode b_MO_writeSuper 0 = .ok (.aload_n 0, 1) := by decide +kernel
theorem d_MO_writeSuper_1 : decode b_MO_writeSuper 1 = .ok (.invokevirtual 107, 3) := by decide +kernel
theorem d_MO_writeSuper_4 : decode b_MO_writeSuper 4 = .ok (.aload_n 0, 1) := by decide +kernel
theorem d_MO_writeSuper_5 : decode b_MO_writeSuper 5 = .ok (.getfield 35, 3) := by decide +kernel
theorem d_MO_writeSuper_8 : decode b_MO_writeSuper 8 = .ok (.iconst 1, 1) := by decide +kernel
theorem d_MO_writeSuper_9 : decode b_MO_writeSuper 9 = .ok (.aload_n 0, 1) := by decide +kernel
theorem d_MO_writeSuper_10 : decode b_MO_writeSuper 10 = .ok (.getfield 154, 3) := by decide +kernel
theorem d_MO_writeSuper_13 : decode b_MO_writeSuper 13 = .ok (.iconst 1, 1) := by decide +kernel
theorem d_MO_writeSuper_14 : decode b_MO_writeSuper 14 = .ok (.iadd, 1) := by decide +kernel
theorem d_MO_writeSuper_15 : decode b_MO_writeSuper 15 = .ok (.iastore, 1) := by decide +kernel
theorem d_MO_writeSuper_16 : decode b_MO_writeSuper 16 = .ok (.aload_n 0, 1) := by decide +kernel
theorem d_MO_writeSuper_17 : decode b_MO_writeSuper 17 = .ok (.getfield 35, 3) := by decide +kernel
theorem d_MO_writeSuper_20 : decode b_MO_writeSuper 20 = .ok (.iconst 2, 1) := by decide +kernel
theorem d_MO_writeSuper_21 : decode b_MO_writeSuper 21 = .ok (.aload_n 0, 1) := by decide +kernel
theorem d_MO_writeSuper_22 : decode b_MO_writeSuper 22 = .ok (.getfield 82, 3) := by decide +kernel
theorem d_MO_writeSuper_25 : decode b_MO_writeSuper 25 = .ok (.iastore, 1) := by decide +kernel
theorem d_MO_writeSuper_26 : decode b_MO_writeSuper 26 = .ok (.iconst 0, 1) := by decide +kernel
theorem d_MO_writeSuper_27 : decode b_MO_writeSuper 27 = .ok (.istore_n 1, 1) := by decide +kernel
theorem d_MO_writeSuper_28 : decode b_MO_writeSuper 28 = .ok (.iload_n 1, 1) := by decide +kernel
theorem d_MO_writeSuper_29 : decode b_MO_writeSuper 29 = .ok (.aload_n 0, 1) := by decide +kernel
theorem d_MO_writeSuper_30 : decode b_MO_writeSuper 30 = .ok (.getfield 82, 3) := by decide +kernel
theorem d_MO_writeSuper_33 : decode b_MO_writeSuper 33 = .ok (.if_icmp .ge 74, 3) := by decide +kernel
theorem d_MO_writeSuper_36 : decode b_MO_writeSuper 36 = .ok (.aload_n 0, 1) := by decide +kernel
theorem d_MO_writeSuper_37 : decode b_MO_writeSuper 37 = .ok (.getfield 35, 3) := by decide +kernel
theorem d_MO_writeSuper_40 : decode b_MO_writeSuper 40 = .ok (.iconst 3, 1) := by decide +kernel
theorem d_MO_writeSuper_41 : decode b_MO_writeSuper 41 = .ok (.iconst 4, 1) := by decide +kernel
theorem d_MO_writeSuper_42 : decode b_MO_writeSuper 42 = .ok (.iload_n 1, 1) := by decide +kernel
theorem d_MO_writeSuper_43 : decode b_MO_writeSuper 43 = .ok (.imul, 1) := by decide +kernel
theorem d_MO_writeSuper_44 : decode b_MO_writeSuper 44 = .ok (.iadd, 1) := by decide +kernel
theorem d_MO_writeSuper_45 : decode b_MO_writeSuper 45 = .ok (.aload_n 0, 1) := by decide +kernel
theorem d_MO_writeSuper_46 : decode b_MO_writeSuper 46 = .ok (.getfield 16, 3) := by decide +kernel
theorem d_MO_writeSuper_49 : decode b_MO_writeSuper 49 = .ok (.iload_n 1, 1) := by decide +kernel
theorem d_MO_writeSuper_50 : decode b_MO_writeSuper 50 = .ok (.iaload, 1) := by decide +kernel
theorem d_MO_writeSuper_51 : decode b_MO_writeSuper 51 = .ok (.iastore, 1) := by decide +kernel
theorem d_MO_writeSuper_52 : decode b_MO_writeSuper 52 = .ok (.aload_n 0, 1) := by decide +kernel
theorem d_MO_writeSuper_53 : decode b_MO_writeSuper 53 = .ok (.getfield 35, 3) := by decide +kernel
theorem d_MO_writeSuper_56 : decode b_MO_writeSuper 56 = .ok (.iconst 4, 1) := by decide +kernel
theorem d_MO_writeSuper_57 : decode b_MO_writeSuper 57 = .ok (.iconst 4, 1) := by decide +kernel
theorem d_MO_writeSuper_58 : decode b_MO_writeSuper 58 = .ok (.iload_n 1, 1) := by decide +kernel
theorem d_MO_writeSuper_59 : decode b_MO_writeSuper 59 = .ok (.imul, 1) := by decide +kernel
theorem d_MO_writeSuper_60 : decode b_MO_writeSuper 60 = .ok (.iadd, 1) := by decide +kernel
theorem d_MO_writeSuper_61 : decode b_MO_writeSuper 61 = .ok (.aload_n 0, 1) := by decide +kernel
theorem d_MO_writeSuper_62 : decode b_MO_writeSuper 62 = .ok (.getfield 19, 3) := by decide +kernel
theorem d_MO_writeSuper_65 : decode b_MO_writeSuper 65 = .ok (.iload_n 1, 1) := by decide +kernel
theorem d_MO_writeSuper_66 : decode b_MO_writeSuper 66 = .ok (.iaload, 1) := by decide +kernel
theorem d_MO_writeSuper_67 : decode b_MO_writeSuper 67 = .ok (.iastore, 1) := by decide +kernel
theorem d_MO_writeSuper_68 : decode b_MO_writeSuper 68 = .ok (.aload_n 0, 1) := by decide +kernel
theorem d_MO_writeSuper_69 : decode b_MO_writeSuper 69 = .ok (.getfield 35, 3) := by decide +kernel
theorem d_MO_writeSuper_72 : decode b_MO_writeSuper 72 = .ok (.iconst 5, 1) := by decide +kernel
theorem d_MO_writeSuper_73 : decode b_MO_writeSuper 73 = .ok (.iconst 4, 1) := by decide +kernel
theorem d_MO_writeSuper_74 : decode b_MO_writeSuper 74 = .ok (.iload_n 1, 1) := by decide +kernel
theorem d_MO_writeSuper_75 : decode b_MO_writeSuper 75 = .ok (.imul, 1) := by decide +kernel
theorem d_MO_writeSuper_76 : decode b_MO_writeSuper 76 = .ok (.iadd, 1) := by decide +kernel
theorem d_MO_writeSuper_77 : decode b_MO_writeSuper 77 = .ok (.aload_n 0, 1) := by decide +kernel
theorem d_MO_writeSuper_78 : decode b_MO_writeSuper 78 = .ok (.getfield 22, 3) := by decide +kernel
theorem d_MO_writeSuper_81 : decode b_MO_writeSuper 81 = .ok (.iload_n 1, 1) := by decide +kernel
theorem d_MO_writeSuper_82 : decode b_MO_writeSuper 82 = .ok (.iaload, 1) := by decide +kernel
theorem d_MO_writeSuper_83 : decode b_MO_writeSuper 83 = .ok (.iastore, 1) := by decide +kernel
theorem d_MO_writeSuper_84 : decode b_MO_writeSuper 84 = .ok (.aload_n 0, 1) := by decide +kernel
theorem d_MO_writeSuper_85 : decode b_MO_writeSuper 85 = .ok (.getfield 35, 3) := by decide +kernel
theorem d_MO_writeSuper_88 : decode b_MO_writeSuper 88 = .ok (.bipush 6, 2) := by decide +kernel
theorem d_MO_writeSuper_90 : decode b_MO_writeSuper 90 = .ok (.iconst 4, 1) := by decide +kernel
theorem d_MO_writeSuper_91 : decode b_MO_writeSuper 91 = .ok (.iload_n 1, 1) := by decide +kernel
theorem d_MO_writeSuper_92 : decode b_MO_writeSuper 92 = .ok (.imul, 1) := by decide +kernel
theorem d_MO_writeSuper_93 : decode b_MO_writeSuper 93 = .ok (.iadd, 1) := by decide +kernel
theorem d_MO_writeSuper_94 : decode b_MO_writeSuper 94 = .ok (.aload_n 0, 1) := by decide +kernel
theorem d_MO_writeSuper_95 : decode b_MO_writeSuper 95 = .ok (.getfield 25, 3) := by decide +kernel
theorem d_MO_writeSuper_98 : decode b_MO_writeSuper 98 = .ok (.iload_n 1, 1) := by decide +kernel
theorem d_MO_writeSuper_99 : decode b_MO_writeSuper 99 = .ok (.iaload, 1) := by decide +kernel
theorem d_MO_writeSuper_100 : decode b_MO_writeSuper 100 = .ok (.iastore, 1) := by decide +kernel
theorem d_MO_writeSuper_101 : decode b_MO_writeSuper 101 = .ok (.iinc 1 1, 3) := by decide +kernel
theorem d_MO_writeSuper_104 : decode b_MO_writeSuper 104 = .ok (.goto (-76), 3) := by decide +kernel
theorem d_MO_writeSuper_107 : decode b_MO_writeSuper 107 = .ok (.aload_n 0, 1) := by decide +kernel
theorem d_MO_writeSuper_108 : decode b_MO_writeSuper 108 = .ok (.aload_n 0, 1) := by decide +kernel
theorem d_MO_writeSuper_109 : decode b_MO_writeSuper 109 = .ok (.getfield 154, 3) := by decide +kernel
theorem d_MO_writeSuper_112 : decode b_MO_writeSuper 112 = .ok (.iconst 1, 1) := by decide +kernel
theorem d_MO_writeSuper_113 : decode b_MO_writeSuper 113 = .ok (.iadd, 1) := by decide +kernel
theorem d_MO_writeSuper_114 : decode b_MO_writeSuper 114 = .ok (.iconst 1, 1) := by decide +kernel
theorem d_MO_writeSuper_115 : decode b_MO_writeSuper 115 = .ok (.iand, 1) := by decide +kernel
theorem d_MO_writeSuper_116 : decode b_MO_writeSuper 116 = .ok (.invokevirtual 116, 3) := by decide +kernel
theorem d_MO_writeSuper_119 : decode b_MO_writeSuper 119 = .ok (.aload_n 0, 1) := by decide +kernel
theorem d_MO_writeSuper_120 : decode b_MO_writeSuper 120 = .ok (.getfield 64, 3) := by decide +kernel
theorem d_MO_writeSuper_123 : decode b_MO_writeSuper 123 = .ok (.ifCond .eq 4, 3) := by decide +kernel
theorem d_MO_writeSuper_126 : decode b_MO_writeSuper 126 = .ok (.return_, 1) := by decide +kernel
theorem d_MO_writeSuper_127 : decode b_MO_writeSuper 127 = .ok (.aload_n 0, 1) := by decide +kernel
theorem d_MO_writeSuper_128 : decode b_MO_writeSuper 128 = .ok (.dup, 1) := by decide +kernel
theorem d_MO_writeSuper_129 : decode b_MO_writeSuper 129 = .ok (.getfield 154, 3) := by decide +kernel
theorem d_MO_writeSuper_132 : decode b_MO_writeSuper 132 = .ok (.iconst 1, 1) := by decide +kernel
theorem d_MO_writeSuper_133 : decode b_MO_writeSuper 133 = .ok (.iadd, 1) := by decide +kernel
theorem d_MO_writeSuper_134 : decode b_MO_writeSuper 134 = .ok (.putfield 154, 3) := by decide +kernel
theorem d_MO_writeSuper_137 : decode b_MO_writeSuper 137 = .ok (.aload_n 0, 1) := by decide +kernel
theorem d_MO_writeSuper_138 : decode b_MO_writeSuper 138 = .ok (.invokevirtual 88, 3) := by decide +kernel
theorem d_MO_writeSuper_141 : decode b_MO_writeSuper 141 = .ok (.iconst 0, 1) := by decide +kernel
theorem d_MO_writeSuper_142 : decode b_MO_writeSuper 142 = .ok (.istore_n 1, 1) := by decide +kernel
theorem d_MO_writeSuper_143 : decode b_MO_writeSuper 143 = .ok (.iload_n 1, 1) := by decide +kernel
theorem d_MO_writeSuper_144 : decode b_MO_writeSuper 144 = .ok (.sipush 200, 3) := by decide +kernel
theorem d_MO_writeSuper_147 : decode b_MO_writeSuper 147 = .ok (.if_icmp .ge 21, 3) := by decide +kernel
theorem d_MO_writeSuper_150 : decode b_MO_writeSuper 150 = .ok (.aload_n 0, 1) := by decide +kernel
theorem d_MO_writeSuper_151 : decode b_MO_writeSuper 151 = .ok (.getfield 28, 3) := by decide +kernel
theorem d_MO_writeSuper_154 : decode b_MO_writeSuper 154 = .ok (.iload_n 1, 1) := by decide +kernel
theorem d_MO_writeSuper_155 : decode b_MO_writeSuper 155 = .ok (.aload_n 0, 1) := by decide +kernel
theorem d_MO_writeSuper_156 : decode b_MO_writeSuper 156 = .ok (.getfield 32, 3) := by decide +kernel
theorem d_MO_writeSuper_159 : decode b_MO_writeSuper 159 = .ok (.iload_n 1, 1) := by decide +kernel
theorem d_MO_writeSuper_160 : decode b_MO_writeSuper 160 = .ok (.baload, 1) := by decide +kernel
theorem d_MO_writeSuper_161 : decode b_MO_writeSuper 161 = .ok (.bastore, 1) := by decide +kernel
theorem d_MO_writeSuper_162 : decode b_MO_writeSuper 162 = .ok (.iinc 1 1, 3) := by decide +kernel
theorem d_MO_writeSuper_165 : decode b_MO_writeSuper 165 = .ok (.goto (-22), 3) := by decide +kernel
theorem d_MO_writeSuper_168 : decode b_MO_writeSuper 168 = .ok (.return_, 1) := by decide +kernel
theorem d_MO_die_0 : decode b_MO_die 0 = .ok (.aload_n 0, 1) := by decide +kernel
theorem d_MO_die_1 : decode b_MO_die 1 = .ok (.iconst 0, 1) := by decide +kernel
theorem d_MO_die_2 : decode b_MO_die 2 = .ok (.putfield 157, 3) := by decide +kernel
theorem d_MO_die_5 : decode b_MO_die 5 = .ok (.aload_n 0, 1) := by decide +kernel
theorem d_MO_die_6 : decode b_MO_die 6 = .ok (.iconst 0, 1) := by decide +kernel
theorem d_MO_die_7 : decode b_MO_die 7 = .ok (.putfield 101, 3) := by decide +kernel
theorem d_MO_die_10 : decode b_MO_die 10 = .ok (.aload_n 0, 1) := by decide +kernel
theorem d_MO_die_11 : decode b_MO_die 11 = .ok (.iconst 0, 1) := by decide +kernel
theorem d_MO_die_12 : decode b_MO_die 12 = .ok (.putfield 82, 3) := by decide +kernel
theorem d_MO_die_15 : decode b_MO_die 15 = .ok (.return_, 1) := by decide +kernel
theorem d_MO_after_0 : decode b_MO_after 0 = .ok (.aload_n 0, 1) := by decide +kernel
theorem d_MO_after_1 : decode b_MO_after 1 = .ok (.getfield 64, 3) := by decide +kernel
theorem d_MO_after_4 : decode b_MO_after 4 = .ok (.ifCond .ne 5, 3) := by decide +kernel
theorem d_MO_after_7 : decode b_MO_after 7 = .ok (.iload_n 1, 1) := by decide +kernel
theorem d_MO_after_8 : decode b_MO_after 8 = .ok (.ireturn, 1) := by decide +kernel
theorem d_MO_after_9 : decode b_MO_after 9 = .ok (.aload_n 0, 1) := by decide +kernel
theorem d_MO_after_10 : decode b_MO_after 10 = .ok (.iconst 0, 1) := by decide +kernel
theorem d_MO_after_11 : decode b_MO_after 11 = .ok (.putfield 64, 3) := by decide +kernel
theorem d_MO_after_14 : decode b_MO_after 14 = .ok (.aload_n 0, 1) := by decide +kernel
theorem d_MO_after_15 : decode b_MO_after 15 = .ok (.invokevirtual 160, 3) := by decide +kernel
theorem d_MO_after_18 : decode b_MO_after 18 = .ok (.bipush (-9), 2) := by decide +kernel
theorem d_MO_after_20 : decode b_MO_after 20 = .ok (.ireturn, 1) := by decide +kernel
theorem d_MO_format_0 : decode b_MO_format 0 = .ok (.aload_n 0, 1) := by decide +kernel
theorem d_MO_format_1 : decode b_MO_format 1 = .ok (.iload_n 1, 1) := by decide +kernel
theorem d_MO_format_2 : decode b_MO_format 2 = .ok (.iconst 4, 1) := by decide +kernel
theorem d_MO_format_3 : decode b_MO_format 3 = .ok (.sipush 200, 3) := by decide +kernel
theorem d_MO_format_6 : decode b_MO_format 6 = .ok (.invokestatic 163, 3) := by decide +kernel
theorem d_MO_format_9 : decode b_MO_format 9 = .ok (.ifCond .eq 34, 3) := by decide +kernel
theorem d_MO_format_12 : decode b_MO_format 12 = .ok (.iload_n 2, 1) := by decide +kernel
theorem d_MO_format_13 : decode b_MO_format 13 = .ok (.bipush 11, 2) := by decide +kernel
theorem d_MO_format_15 : decode b_MO_format 15 = .ok (.bipush 40, 2) := by decide +kernel
theorem d_MO_format_17 : decode b_MO_format 17 = .ok (.invokestatic 163, 3) := by decide +kernel
theorem d_MO_format_20 : decode b_MO_format 20 = .ok (.ifCond .eq 23, 3) := by decide +kernel
theorem d_MO_format_23 : decode b_MO_format 23 = .ok (.iload_n 3, 1) := by decide +kernel
theorem d_MO_format_24 : decode b_MO_format 24 = .ok (.iconst 1, 1) := by decide +kernel
theorem d_MO_format_25 : decode b_MO_format 25 = .ok (.bipush 100, 2) := by decide +kernel
theorem d_MO_format_27 : decode b_MO_format 27 = .ok (.invokestatic 163, 3) := by decide +kernel
theorem d_MO_format_30 : decode b_MO_format 30 = .ok (.ifCond .eq 13, 3) := by decide +kernel
theorem d_MO_format_33 : decode b_MO_format 33 = .ok (.iload 4, 2) := by decide +kernel
theorem d_MO_format_35 : decode b_MO_format 35 = .ok (.iconst 2, 1) := by decide +kernel
theorem d_MO_format_36 : decode b_MO_format 36 = .ok (.iconst 5, 1) := by decide +kernel
theorem d_MO_format_37 : decode b_MO_format 37 = .ok (.invokestatic 163, 3) := by decide +kernel
theorem d_MO_format_40 : decode b_MO_format 40 = .ok (.ifCond .ne 7, 3) := by decide +kernel
theorem d_MO_format_43 : decode b_MO_format 43 = .ok (.iconst 1, 1) := by decide +kernel
theorem d_MO_format_44 : decode b_MO_format 44 = .ok (.goto 4, 3) := by decide +kernel
theorem d_MO_format_47 : decode b_MO_format 47 = .ok (.iconst 0, 1) := by decide +kernel
theorem d_MO_format_48 : decode b_MO_format 48 = .ok (.putfield 53, 3) := by decide +kernel
theorem d_MO_format_51 : decode b_MO_format 51 = .ok (.aload_n 0, 1) := by decide +kernel
theorem d_MO_format_52 : decode b_MO_format 52 = .ok (.getfield 53, 3) := by decide +kernel
theorem d_MO_format_55 : decode b_MO_format 55 = .ok (.ifCond .le 4, 3) := by decide +kernel
theorem d_MO_format_58 : decode b_MO_format 58 = .ok (.return_, 1) := by decide +kernel
theorem d_MO_format_59 : decode b_MO_format 59 = .ok (.aload_n 0, 1) := by decide +kernel
theorem d_MO_format_60 : decode b_MO_format 60 = .ok (.iconst 1, 1) := by decide +kernel
theorem d_MO_format_61 : decode b_MO_format 61 = .ok (.putfield 167, 3) := by decide +kernel
theorem d_MO_format_64 : decode b_MO_format 64 = .ok (.aload_n 0, 1) := by decide +kernel
theorem d_MO_format_65 : decode b_MO_format 65 = .ok (.iload_n 1, 1) := by decide +kernel
theorem d_MO_format_66 : decode b_MO_format 66 = .ok (.putfield 91, 3) := by decide +kernel
theorem d_MO_format_69 : decode b_MO_format 69 = .ok (.aload_n 0, 1) := by decide +kernel
theorem d_MO_format_70 : decode b_MO_format 70 = .ok (.iload_n 2, 1) := by decide +kernel
theorem d_MO_format_71 : decode b_MO_format 71 = .ok (.putfield 57, 3) := by decide +kernel
theorem d_MO_format_74 : decode b_MO_format 74 = .ok (.aload_n 0, 1) := by decide +kernel
theorem d_MO_format_75 : decode b_MO_format 75 = .ok (.iload_n 3, 1) := by decide +kernel
theorem d_MO_format_76 : decode b_MO_format 76 = .ok (.putfield 170, 3) := by decide +kernel
theorem d_MO_format_79 : decode b_MO_format 79 = .ok (.aload_n 0, 1) := by decide +kernel
theorem d_MO_format_80 : decode b_MO_format 80 = .ok (.iload 4, 2) := by decide +kernel
theorem d_MO_format_82 : decode b_MO_format 82 = .ok (.putfield 141, 3) := by decide +kernel
theorem d_MO_format_85 : decode b_MO_format 85 = .ok (.iconst 0, 1) := by decide +kernel
theorem d_MO_format_86 : decode b_MO_format 86 = .ok (.istore 5, 2) := by decide +kernel
theorem d_MO_format_88 : decode b_MO_format 88 = .ok (.iload 5, 2) := by decide +kernel
theorem d_MO_format_90 : decode b_MO_format 90 = .ok (.sipush 8000, 3) := by decide +kernel
theorem d_MO_format_93 : decode b_MO_format 93 = .ok (.if_icmp .ge 17, 3) := by decide +kernel
theorem d_MO_format_96 : decode b_MO_format 96 = .ok (.aload_n 0, 1) := by decide +kernel
theorem d_MO_format_97 : decode b_MO_format 97 = .ok (.getfield 7, 3) := by decide +kernel
theorem d_MO_format_100 : decode b_MO_format 100 = .ok (.iload 5, 2) := by decide +kernel
theorem d_MO_format_102 : decode b_MO_format 102 = .ok (.iconst 0, 1) := by decide +kernel
theorem d_MO_format_103 : decode b_MO_format 103 = .ok (.iastore, 1) := by decide +kernel
theorem d_MO_format_104 : decode b_MO_format 104 = .ok (.iinc 5 1, 3) := by decide +kernel
theorem d_MO_format_107 : decode b_MO_format 107 = .ok (.goto (-19), 3) := by decide +kernel
theorem d_MO_format_110 : decode b_MO_format 110 = .ok (.iconst 0, 1) := by decide +kernel
theorem d_MO_format_111 : decode b_MO_format 111 = .ok (.istore 5, 2) := by decide +kernel
theorem d_MO_format_113 : decode b_MO_format 113 = .ok (.iload 5, 2) := by decide +kernel
theorem d_MO_format_115 : decode b_MO_format 115 = .ok (.sipush 200, 3) := by decide +kernel
theorem d_MO_format_118 : decode b_MO_format 118 = .ok (.if_icmp .ge 17, 3) := by decide +kernel
theorem d_MO_format_121 : decode b_MO_format 121 = .ok (.aload_n 0, 1) := by decide +kernel
theorem d_MO_format_122 : decode b_MO_format 122 = .ok (.getfield 28, 3) := by decide +kernel
theorem d_MO_format_125 : decode b_MO_format 125 = .ok (.iload 5, 2) := by decide +kernel
theorem d_MO_format_127 : decode b_MO_format 127 = .ok (.iconst 0, 1) := by decide +kernel
theorem d_MO_format_128 : decode b_MO_format 128 = .ok (.bastore, 1) := by decide +kernel
theorem d_MO_format_129 : decode b_MO_format 129 = .ok (.iinc 5 1, 3) := by decide +kernel
theorem d_MO_format_132 : decode b_MO_format 132 = .ok (.goto (-19), 3) := by decide +kernel
theorem d_MO_format_135 : decode b_MO_format 135 = .ok (.aload_n 0, 1) := by decide +kernel
theorem d_MO_format_136 : decode b_MO_format 136 = .ok (.iconst 0, 1) := by decide +kernel
theorem d_MO_format_137 : decode b_MO_format 137 = .ok (.putfield 71, 3) := by decide +kernel
theorem d_MO_format_140 : decode b_MO_format 140 = .ok (.aload_n 0, 1) := by decide +kernel
theorem d_MO_format_141 : decode b_MO_format 141 = .ok (.iconst 0, 1) := by decide +kernel
theorem d_MO_format_142 : decode b_MO_format 142 = .ok (.putfield 68, 3) := by decide +kernel
theorem d_MO_format_145 : decode b_MO_format 145 = .ok (.aload_n 0, 1) := by decide +kernel
theorem d_MO_format_146 : decode b_MO_format 146 = .ok (.iconst 0, 1) := by decide +kernel
theorem d_MO_format_147 : decode b_MO_format 147 = .ok (.putfield 64, 3) := by decide +kernel
theorem d_MO_format_150 : decode b_MO_format 150 = .ok (.aload_n 0, 1) := by decide +kernel
theorem d_MO_format_151 : decode b_MO_format 151 = .ok (.iconst 0, 1) := by decide +kernel
theorem d_MO_format_152 : decode b_MO_format 152 = .ok (.putfield 101, 3) := by decide +kernel
theorem d_MO_format_155 : decode b_MO_format 155 = .ok (.aload_n 0, 1) := by decide +kernel
theorem d_MO_format_156 : decode b_MO_format 156 = .ok (.iconst 0, 1) := by decide +kernel
theorem d_MO_format_157 : decode b_MO_format 157 = .ok (.putfield 82, 3) := by decide +kernel
theorem d_MO_format_160 : decode b_MO_format 160 = .ok (.aload_n 0, 1) := by decide +kernel
theorem d_MO_format_161 : decode b_MO_format 161 = .ok (.iconst 0, 1) := by decide +kernel
theorem d_MO_format_162 : decode b_MO_format 162 = .ok (.putfield 154, 3) := by decide +kernel
theorem d_MO_format_165 : decode b_MO_format 165 = .ok (.aload_n 0, 1) := by decide +kernel
theorem d_MO_format_166 : decode b_MO_format 166 = .ok (.iconst 1, 1) := by decide +kernel
theorem d_MO_format_167 : decode b_MO_format 167 = .ok (.putfield 157, 3) := by decide +kernel
theorem d_MO_format_170 : decode b_MO_format 170 = .ok (.aload_n 0, 1) := by decide +kernel
theorem d_MO_format_171 : decode b_MO_format 171 = .ok (.invokevirtual 173, 3) := by decide +kernel
theorem d_MO_format_174 : decode b_MO_format 174 = .ok (.return_, 1) := by decide +kernel
theorem d_MO_insert_0 : decode b_MO_insert 0 = .ok (.aload_n 0, 1) := by decide +kernel
theorem d_MO_insert_1 : decode b_MO_insert 1 = .ok (.aload_n 0, 1) := by decide +kernel
theorem d_MO_insert_2 : decode b_MO_insert 2 = .ok (.getfield 157, 3) := by decide +kernel
theorem d_MO_insert_5 : decode b_MO_insert 5 = .ok (.ifCond .ne 7, 3) := by decide +kernel
theorem d_MO_insert_8 : decode b_MO_insert 8 = .ok (.iconst 1, 1) := by decide +kernel
theorem d_MO_insert_9 : decode b_MO_insert 9 = .ok (.goto 12, 3) := by decide +kernel
theorem d_MO_insert_12 : decode b_MO_insert 12 = .ok (.iload_n 1, 1) := by decide +kernel
theorem d_MO_insert_13 : decode b_MO_insert 13 = .ok (.ifCond .ge 7, 3) := by decide +kernel
theorem d_MO_insert_16 : decode b_MO_insert 16 = .ok (.iconst 2, 1) := by decide +kernel
theorem d_MO_insert_17 : decode b_MO_insert 17 = .ok (.goto 4, 3) := by decide +kernel
theorem d_MO_insert_20 : decode b_MO_insert 20 = .ok (.iconst 0, 1) := by decide +kernel
theorem d_MO_insert_21 : decode b_MO_insert 21 = .ok (.putfield 53, 3) := by decide +kernel
theorem d_MO_insert_24 : decode b_MO_insert 24 = .ok (.aload_n 0, 1) := by decide +kernel
theorem d_MO_insert_25 : decode b_MO_insert 25 = .ok (.getfield 53, 3) := by decide +kernel
theorem d_MO_insert_28 : decode b_MO_insert 28 = .ok (.ifCond .le 5, 3) := by decide +kernel
theorem d_MO_insert_31 : decode b_MO_insert 31 = .ok (.iconst 0, 1) := by decide +kernel
theorem d_MO_insert_32 : decode b_MO_insert 32 = .ok (.ireturn, 1) := by decide +kernel
theorem d_MO_insert_33 : decode b_MO_insert 33 = .ok (.aload_n 0, 1) := by decide +kernel
theorem d_MO_insert_34 : decode b_MO_insert 34 = .ok (.getfield 101, 3) := by decide +kernel
theorem d_MO_insert_37 : decode b_MO_insert 37 = .ok (.aload_n 0, 1) := by decide +kernel
theorem d_MO_insert_38 : decode b_MO_insert 38 = .ok (.getfield 170, 3) := by decide +kernel
theorem d_MO_insert_41 : decode b_MO_insert 41 = .ok (.if_icmp .ne 14, 3) := by decide +kernel
theorem d_MO_insert_44 : decode b_MO_insert 44 = .ok (.aload_n 0, 1) := by decide +kernel
theorem d_MO_insert_45 : decode b_MO_insert 45 = .ok (.invokevirtual 176, 3) := by decide +kernel
theorem d_MO_insert_48 : decode b_MO_insert 48 = .ok (.ifCond .ne 7, 3) := by decide +kernel
theorem d_MO_insert_51 : decode b_MO_insert 51 = .ok (.iconst 1, 1) := by decide +kernel
theorem d_MO_insert_52 : decode b_MO_insert 52 = .ok (.goto 4, 3) := by decide +kernel
theorem d_MO_insert_55 : decode b_MO_insert 55 = .ok (.iconst 0, 1) := by decide +kernel
theorem d_MO_insert_56 : decode b_MO_insert 56 = .ok (.istore_n 2, 1) := by decide +kernel
theorem d_MO_insert_57 : decode b_MO_insert 57 = .ok (.iload_n 2, 1) := by decide +kernel
theorem d_MO_insert_58 : decode b_MO_insert 58 = .ok (.ifCond .ne 30, 3) := by decide +kernel
theorem d_MO_insert_61 : decode b_MO_insert 61 = .ok (.aload_n 0, 1) := by decide +kernel
theorem d_MO_insert_62 : decode b_MO_insert 62 = .ok (.getfield 64, 3) := by decide +kernel
theorem d_MO_insert_65 : decode b_MO_insert 65 = .ok (.ifCond .ne 23, 3) := by decide +kernel
theorem d_MO_insert_68 : decode b_MO_insert 68 = .ok (.aload_n 0, 1) := by decide +kernel
theorem d_MO_insert_69 : decode b_MO_insert 69 = .ok (.getfield 13, 3) := by decide +kernel
theorem d_MO_insert_72 : decode b_MO_insert 72 = .ok (.aload_n 0, 1) := by decide +kernel
theorem d_MO_insert_73 : decode b_MO_insert 73 = .ok (.getfield 101, 3) := by decide +kernel
theorem d_MO_insert_76 : decode b_MO_insert 76 = .ok (.iload_n 1, 1) := by decide +kernel
theorem d_MO_insert_77 : decode b_MO_insert 77 = .ok (.iastore, 1) := by decide +kernel
theorem d_MO_insert_78 : decode b_MO_insert 78 = .ok (.aload_n 0, 1) := by decide +kernel
theorem d_MO_insert_79 : decode b_MO_insert 79 = .ok (.dup, 1) := by decide +kernel
theorem d_MO_insert_80 : decode b_MO_insert 80 = .ok (.getfield 101, 3) := by decide +kernel
theorem d_MO_insert_83 : decode b_MO_insert 83 = .ok (.iconst 1, 1) := by decide +kernel
theorem d_MO_insert_84 : decode b_MO_insert 84 = .ok (.iadd, 1) := by decide +kernel
theorem d_MO_insert_85 : decode b_MO_insert 85 = .ok (.putfield 101, 3) := by decide +kernel
theorem d_MO_insert_88 : decode b_MO_insert 88 = .ok (.aload_n 0, 1) := by decide +kernel
theorem d_MO_insert_89 : decode b_MO_insert 89 = .ok (.iload_n 2, 1) := by decide +kernel
theorem d_MO_insert_90 : decode b_MO_insert 90 = .ok (.ifCond .eq 8, 3) := by decide +kernel
theorem d_MO_insert_93 : decode b_MO_insert 93 = .ok (.bipush (-2), 2) := by decide +kernel
theorem d_MO_insert_95 : decode b_MO_insert 95 = .ok (.goto 4, 3) := by decide +kernel
theorem d_MO_insert_98 : decode b_MO_insert 98 = .ok (.iconst 0, 1) := by decide +kernel
theorem d_MO_insert_99 : decode b_MO_insert 99 = .ok (.invokevirtual 179, 3) := by decide +kernel
theorem d_MO_insert_102 : decode b_MO_insert 102 = .ok (.ireturn, 1) := by decide +kernel
theorem d_MO_leastRun_0 : decode b_MO_leastRun 0 = .ok (.iconst (-1), 1) := by decide +kernel
theorem d_MO_leastRun_1 : decode b_MO_leastRun 1 = .ok (.istore_n 1, 1) := by decide +kernel
theorem d_MO_leastRun_2 : decode b_MO_leastRun 2 = .ok (.iconst 0, 1) := by decide +kernel
theorem d_MO_leastRun_3 : decode b_MO_leastRun 3 = .ok (.istore_n 2, 1) := by decide +kernel
theorem d_MO_leastRun_4 : decode b_MO_leastRun 4 = .ok (.iload_n 2, 1) := by decide +kernel
theorem d_MO_leastRun_5 : decode b_MO_leastRun 5 = .ok (.aload_n 0, 1) := by decide +kernel
theorem d_MO_leastRun_6 : decode b_MO_leastRun 6 = .ok (.getfield 82, 3) := by decide +kernel
theorem d_MO_leastRun_9 : decode b_MO_leastRun 9 = .ok (.if_icmp .ge 32, 3) := by decide +kernel
theorem d_MO_leastRun_12 : decode b_MO_leastRun 12 = .ok (.iload_n 1, 1) := by decide +kernel
theorem d_MO_leastRun_13 : decode b_MO_leastRun 13 = .ok (.ifCond .lt 16, 3) := by decide +kernel
theorem d_MO_leastRun_16 : decode b_MO_leastRun 16 = .ok (.aload_n 0, 1) := by decide +kernel
theorem d_MO_leastRun_17 : decode b_MO_leastRun 17 = .ok (.iload_n 2, 1) := by decide +kernel
theorem d_MO_leastRun_18 : decode b_MO_leastRun 18 = .ok (.invokevirtual 182, 3) := by decide +kernel
theorem d_MO_leastRun_21 : decode b_MO_leastRun 21 = .ok (.aload_n 0, 1) := by decide +kernel
theorem d_MO_leastRun_22 : decode b_MO_leastRun 22 = .ok (.iload_n 1, 1) := by decide +kernel
theorem d_MO_leastRun_23 : decode b_MO_leastRun 23 = .ok (.invokevirtual 182, 3) := by decide +kernel
theorem d_MO_leastRun_26 : decode b_MO_leastRun 26 = .ok (.if_icmp .ge 7, 3) := by decide +kernel
theorem d_MO_leastRun_29 : decode b_MO_leastRun 29 = .ok (.iload_n 2, 1) := by decide +kernel
theorem d_MO_leastRun_30 : decode b_MO_leastRun 30 = .ok (.goto 4, 3) := by decide +kernel
theorem d_MO_leastRun_33 : decode b_MO_leastRun 33 = .ok (.iload_n 1, 1) := by decide +kernel
theorem d_MO_leastRun_34 : decode b_MO_leastRun 34 = .ok (.istore_n 1, 1) := by decide +kernel
theorem d_MO_leastRun_35 : decode b_MO_leastRun 35 = .ok (.iinc 2 1, 3) := by decide +kernel
theorem d_MO_leastRun_38 : decode b_MO_leastRun 38 = .ok (.goto (-34), 3) := by decide +kernel
theorem d_MO_leastRun_41 : decode b_MO_leastRun 41 = .ok (.iload_n 1, 1) := by decide +kernel
theorem d_MO_leastRun_42 : decode b_MO_leastRun 42 = .ok (.ireturn, 1) := by decide +kernel
theorem d_MO_leastInMemory_0 : decode b_MO_leastInMemory 0 = .ok (.iconst (-1), 1) := by decide +kernel
end
section
theorem d_MO_leastInMemory_1 : decode b_MO_leastInMemory 1 = .ok (.istore_n 1, 1) := by decide +kernel
theorem d_MO_leastInMemory_2 : decode b_MO_leastInMemory 2 = .ok (.iconst 0, 1) := by decide +kernel
theorem d_MO_leastInMemory_3 : decode b_MO_leastInMemory 3 = .ok (.istore_n 2, 1) := by decide +kernel
theorem d_MO_leastInMemory_4 : decode b_MO_leastInMemory 4 = .ok (.iload_n 2, 1) := by decide +kernel
theorem d_MO_leastInMemory_5 : decode b_MO_leastInMemory 5 = .ok (.aload_n 0, 1) := by decide +kernel
theorem d_MO_leastInMemory_6 : decode b_MO_leastInMemory 6 = .ok (.getfield 101, 3) := by decide +kernel
theorem d_MO_leastInMemory_9 : decode b_MO_leastInMemory 9 = .ok (.if_icmp .ge 34, 3) := by decide +kernel
theorem d_MO_leastInMemory_12 : decode b_MO_leastInMemory 12 = .ok (.iload_n 1, 1) := by decide +kernel
theorem d_MO_leastInMemory_13 : decode b_MO_leastInMemory 13 = .ok (.ifCond .lt 13, 3) := by decide +kernel
theorem d_MO_leastInMemory_16 : decode b_MO_leastInMemory 16 = .ok (.aload_n 0, 1) := by decide +kernel
theorem d_MO_leastInMemory_17 : decode b_MO_leastInMemory 17 = .ok (.getfield 13, 3) := by decide +kernel
theorem d_MO_leastInMemory_20 : decode b_MO_leastInMemory 20 = .ok (.iload_n 2, 1) := by decide +kernel
theorem d_MO_leastInMemory_21 : decode b_MO_leastInMemory 21 = .ok (.iaload, 1) := by decide +kernel
theorem d_MO_leastInMemory_22 : decode b_MO_leastInMemory 22 = .ok (.iload_n 1, 1) := by decide +kernel
theorem d_MO_leastInMemory_23 : decode b_MO_leastInMemory 23 = .ok (.if_icmp .ge 12, 3) := by decide +kernel
theorem d_MO_leastInMemory_26 : decode b_MO_leastInMemory 26 = .ok (.aload_n 0, 1) := by decide +kernel
theorem d_MO_leastInMemory_27 : decode b_MO_leastInMemory 27 = .ok (.getfield 13, 3) := by decide +kernel
theorem d_MO_leastInMemory_30 : decode b_MO_leastInMemory 30 = .ok (.iload_n 2, 1) := by decide +kernel
theorem d_MO_leastInMemory_31 : decode b_MO_leastInMemory 31 = .ok (.iaload, 1) := by decide +kernel
theorem d_MO_leastInMemory_32 : decode b_MO_leastInMemory 32 = .ok (.goto 4, 3) := by decide +kernel
theorem d_MO_leastInMemory_35 : decode b_MO_leastInMemory 35 = .ok (.iload_n 1, 1) := by decide +kernel
theorem d_MO_leastInMemory_36 : decode b_MO_leastInMemory 36 = .ok (.istore_n 1, 1) := by decide +kernel
theorem d_MO_leastInMemory_37 : decode b_MO_leastInMemory 37 = .ok (.iinc 2 1, 3) := by decide +kernel
theorem d_MO_leastInMemory_40 : decode b_MO_leastInMemory 40 = .ok (.goto (-36), 3) := by decide +kernel
theorem d_MO_leastInMemory_43 : decode b_MO_leastInMemory 43 = .ok (.iload_n 1, 1) := by decide +kernel
theorem d_MO_leastInMemory_44 : decode b_MO_leastInMemory 44 = .ok (.ireturn, 1) := by decide +kernel
theorem d_MO_leastKey_0 : decode b_MO_leastKey 0 = .ok (.aload_n 0, 1) := by decide +kernel
theorem d_MO_leastKey_1 : decode b_MO_leastKey 1 = .ok (.invokevirtual 185, 3) := by decide +kernel
theorem d_MO_leastKey_4 : decode b_MO_leastKey 4 = .ok (.istore_n 1, 1) := by decide +kernel
theorem d_MO_leastKey_5 : decode b_MO_leastKey 5 = .ok (.aload_n 0, 1) := by decide +kernel
theorem d_MO_leastKey_6 : decode b_MO_leastKey 6 = .ok (.invokevirtual 188, 3) := by decide +kernel
theorem d_MO_leastKey_9 : decode b_MO_leastKey 9 = .ok (.istore_n 2, 1) := by decide +kernel
theorem d_MO_leastKey_10 : decode b_MO_leastKey 10 = .ok (.iload_n 1, 1) := by decide +kernel
theorem d_MO_leastKey_11 : decode b_MO_leastKey 11 = .ok (.ifCond .ge 7, 3) := by decide +kernel
theorem d_MO_leastKey_14 : decode b_MO_leastKey 14 = .ok (.iload_n 2, 1) := by decide +kernel
theorem d_MO_leastKey_15 : decode b_MO_leastKey 15 = .ok (.goto 25, 3) := by decide +kernel
theorem d_MO_leastKey_18 : decode b_MO_leastKey 18 = .ok (.iload_n 2, 1) := by decide +kernel
theorem d_MO_leastKey_19 : decode b_MO_leastKey 19 = .ok (.ifCond .lt 16, 3) := by decide +kernel
theorem d_MO_leastKey_22 : decode b_MO_leastKey 22 = .ok (.iload_n 2, 1) := by decide +kernel
theorem d_MO_leastKey_23 : decode b_MO_leastKey 23 = .ok (.aload_n 0, 1) := by decide +kernel
theorem d_MO_leastKey_24 : decode b_MO_leastKey 24 = .ok (.iload_n 1, 1) := by decide +kernel
theorem d_MO_leastKey_25 : decode b_MO_leastKey 25 = .ok (.invokevirtual 182, 3) := by decide +kernel
theorem d_MO_leastKey_28 : decode b_MO_leastKey 28 = .ok (.if_icmp .gt 7, 3) := by decide +kernel
theorem d_MO_leastKey_31 : decode b_MO_leastKey 31 = .ok (.iload_n 2, 1) := by decide +kernel
theorem d_MO_leastKey_32 : decode b_MO_leastKey 32 = .ok (.goto 8, 3) := by decide +kernel
theorem d_MO_leastKey_35 : decode b_MO_leastKey 35 = .ok (.aload_n 0, 1) := by decide +kernel
theorem d_MO_leastKey_36 : decode b_MO_leastKey 36 = .ok (.iload_n 1, 1) := by decide +kernel
theorem d_MO_leastKey_37 : decode b_MO_leastKey 37 = .ok (.invokevirtual 182, 3) := by decide +kernel
theorem d_MO_leastKey_40 : decode b_MO_leastKey 40 = .ok (.ireturn, 1) := by decide +kernel
theorem d_MO_min_0 : decode b_MO_min 0 = .ok (.aload_n 0, 1) := by decide +kernel
theorem d_MO_min_1 : decode b_MO_min 1 = .ok (.aload_n 0, 1) := by decide +kernel
theorem d_MO_min_2 : decode b_MO_min 2 = .ok (.getfield 157, 3) := by decide +kernel
theorem d_MO_min_5 : decode b_MO_min 5 = .ok (.ifCond .eq 7, 3) := by decide +kernel
theorem d_MO_min_8 : decode b_MO_min 8 = .ok (.iconst 0, 1) := by decide +kernel
theorem d_MO_min_9 : decode b_MO_min 9 = .ok (.goto 4, 3) := by decide +kernel
theorem d_MO_min_12 : decode b_MO_min 12 = .ok (.iconst 1, 1) := by decide +kernel
theorem d_MO_min_13 : decode b_MO_min 13 = .ok (.putfield 53, 3) := by decide +kernel
theorem d_MO_min_16 : decode b_MO_min 16 = .ok (.aload_n 0, 1) := by decide +kernel
theorem d_MO_min_17 : decode b_MO_min 17 = .ok (.getfield 53, 3) := by decide +kernel
theorem d_MO_min_20 : decode b_MO_min 20 = .ok (.ifCond .le 7, 3) := by decide +kernel
theorem d_MO_min_23 : decode b_MO_min 23 = .ok (.iconst 0, 1) := by decide +kernel
theorem d_MO_min_24 : decode b_MO_min 24 = .ok (.goto 7, 3) := by decide +kernel
theorem d_MO_min_27 : decode b_MO_min 27 = .ok (.aload_n 0, 1) := by decide +kernel
theorem d_MO_min_28 : decode b_MO_min 28 = .ok (.invokevirtual 191, 3) := by decide +kernel
theorem d_MO_min_31 : decode b_MO_min 31 = .ok (.ireturn, 1) := by decide +kernel
theorem d_MO_take_0 : decode b_MO_take 0 = .ok (.aload_n 0, 1) := by decide +kernel
theorem d_MO_take_1 : decode b_MO_take 1 = .ok (.aload_n 0, 1) := by decide +kernel
theorem d_MO_take_2 : decode b_MO_take 2 = .ok (.getfield 157, 3) := by decide +kernel
theorem d_MO_take_5 : decode b_MO_take 5 = .ok (.ifCond .eq 7, 3) := by decide +kernel
theorem d_MO_take_8 : decode b_MO_take 8 = .ok (.iconst 0, 1) := by decide +kernel
theorem d_MO_take_9 : decode b_MO_take 9 = .ok (.goto 4, 3) := by decide +kernel
theorem d_MO_take_12 : decode b_MO_take 12 = .ok (.iconst 1, 1) := by decide +kernel
theorem d_MO_take_13 : decode b_MO_take 13 = .ok (.putfield 53, 3) := by decide +kernel
theorem d_MO_take_16 : decode b_MO_take 16 = .ok (.aload_n 0, 1) := by decide +kernel
theorem d_MO_take_17 : decode b_MO_take 17 = .ok (.getfield 53, 3) := by decide +kernel
theorem d_MO_take_20 : decode b_MO_take 20 = .ok (.ifCond .le 5, 3) := by decide +kernel
theorem d_MO_take_23 : decode b_MO_take 23 = .ok (.iconst 0, 1) := by decide +kernel
theorem d_MO_take_24 : decode b_MO_take 24 = .ok (.ireturn, 1) := by decide +kernel
theorem d_MO_take_25 : decode b_MO_take 25 = .ok (.aload_n 0, 1) := by decide +kernel
theorem d_MO_take_26 : decode b_MO_take 26 = .ok (.invokevirtual 191, 3) := by decide +kernel
theorem d_MO_take_29 : decode b_MO_take 29 = .ok (.istore_n 1, 1) := by decide +kernel
theorem d_MO_take_30 : decode b_MO_take 30 = .ok (.aload_n 0, 1) := by decide +kernel
theorem d_MO_take_31 : decode b_MO_take 31 = .ok (.getfield 101, 3) := by decide +kernel
theorem d_MO_take_34 : decode b_MO_take 34 = .ok (.ifCond .le 16, 3) := by decide +kernel
theorem d_MO_take_37 : decode b_MO_take 37 = .ok (.aload_n 0, 1) := by decide +kernel
theorem d_MO_take_38 : decode b_MO_take 38 = .ok (.invokevirtual 188, 3) := by decide +kernel
theorem d_MO_take_41 : decode b_MO_take 41 = .ok (.iload_n 1, 1) := by decide +kernel
theorem d_MO_take_42 : decode b_MO_take 42 = .ok (.if_icmp .ne 8, 3) := by decide +kernel
theorem d_MO_take_45 : decode b_MO_take 45 = .ok (.aload_n 0, 1) := by decide +kernel
theorem d_MO_take_46 : decode b_MO_take 46 = .ok (.invokevirtual 110, 3) := by decide +kernel
theorem d_MO_take_49 : decode b_MO_take 49 = .ok (.ireturn, 1) := by decide +kernel
theorem d_MO_take_50 : decode b_MO_take 50 = .ok (.aload_n 0, 1) := by decide +kernel
theorem d_MO_take_51 : decode b_MO_take 51 = .ok (.invokevirtual 185, 3) := by decide +kernel
theorem d_MO_take_54 : decode b_MO_take 54 = .ok (.istore_n 2, 1) := by decide +kernel
theorem d_MO_take_55 : decode b_MO_take 55 = .ok (.iload_n 2, 1) := by decide +kernel
theorem d_MO_take_56 : decode b_MO_take 56 = .ok (.ifCond .ge 5, 3) := by decide +kernel
theorem d_MO_take_59 : decode b_MO_take 59 = .ok (.iload_n 1, 1) := by decide +kernel
theorem d_MO_take_60 : decode b_MO_take 60 = .ok (.ireturn, 1) := by decide +kernel
theorem d_MO_take_61 : decode b_MO_take 61 = .ok (.aload_n 0, 1) := by decide +kernel
theorem d_MO_take_62 : decode b_MO_take 62 = .ok (.getfield 22, 3) := by decide +kernel
theorem d_MO_take_65 : decode b_MO_take 65 = .ok (.iload_n 2, 1) := by decide +kernel
theorem d_MO_take_66 : decode b_MO_take 66 = .ok (.dup2, 1) := by decide +kernel
theorem d_MO_take_67 : decode b_MO_take 67 = .ok (.iaload, 1) := by decide +kernel
theorem d_MO_take_68 : decode b_MO_take 68 = .ok (.iconst 1, 1) := by decide +kernel
theorem d_MO_take_69 : decode b_MO_take 69 = .ok (.isub, 1) := by decide +kernel
theorem d_MO_take_70 : decode b_MO_take 70 = .ok (.iastore, 1) := by decide +kernel
theorem d_MO_take_71 : decode b_MO_take 71 = .ok (.aload_n 0, 1) := by decide +kernel
theorem d_MO_take_72 : decode b_MO_take 72 = .ok (.getfield 19, 3) := by decide +kernel
theorem d_MO_take_75 : decode b_MO_take 75 = .ok (.iload_n 2, 1) := by decide +kernel
theorem d_MO_take_76 : decode b_MO_take 76 = .ok (.dup2, 1) := by decide +kernel
theorem d_MO_take_77 : decode b_MO_take 77 = .ok (.iaload, 1) := by decide +kernel
theorem d_MO_take_78 : decode b_MO_take 78 = .ok (.iconst 1, 1) := by decide +kernel
theorem d_MO_take_79 : decode b_MO_take 79 = .ok (.iadd, 1) := by decide +kernel
theorem d_MO_take_80 : decode b_MO_take 80 = .ok (.iastore, 1) := by decide +kernel
theorem d_MO_take_81 : decode b_MO_take 81 = .ok (.aload_n 0, 1) := by decide +kernel
theorem d_MO_take_82 : decode b_MO_take 82 = .ok (.getfield 22, 3) := by decide +kernel
theorem d_MO_take_85 : decode b_MO_take 85 = .ok (.iload_n 2, 1) := by decide +kernel
theorem d_MO_take_86 : decode b_MO_take 86 = .ok (.iaload, 1) := by decide +kernel
theorem d_MO_take_87 : decode b_MO_take 87 = .ok (.ifCond .ne 11, 3) := by decide +kernel
theorem d_MO_take_90 : decode b_MO_take 90 = .ok (.aload_n 0, 1) := by decide +kernel
theorem d_MO_take_91 : decode b_MO_take 91 = .ok (.iload_n 2, 1) := by decide +kernel
theorem d_MO_take_92 : decode b_MO_take 92 = .ok (.invokevirtual 127, 3) := by decide +kernel
theorem d_MO_take_95 : decode b_MO_take 95 = .ok (.goto 40, 3) := by decide +kernel
theorem d_MO_take_98 : decode b_MO_take 98 = .ok (.aload_n 0, 1) := by decide +kernel
theorem d_MO_take_99 : decode b_MO_take 99 = .ok (.getfield 19, 3) := by decide +kernel
theorem d_MO_take_102 : decode b_MO_take 102 = .ok (.iload_n 2, 1) := by decide +kernel
theorem d_MO_take_103 : decode b_MO_take 103 = .ok (.iaload, 1) := by decide +kernel
theorem d_MO_take_104 : decode b_MO_take 104 = .ok (.aload_n 0, 1) := by decide +kernel
theorem d_MO_take_105 : decode b_MO_take 105 = .ok (.invokevirtual 78, 3) := by decide +kernel
theorem d_MO_take_108 : decode b_MO_take 108 = .ok (.if_icmp .ne 27, 3) := by decide +kernel
theorem d_MO_take_111 : decode b_MO_take 111 = .ok (.aload_n 0, 1) := by decide +kernel
theorem d_MO_take_112 : decode b_MO_take 112 = .ok (.getfield 16, 3) := by decide +kernel
theorem d_MO_take_115 : decode b_MO_take 115 = .ok (.iload_n 2, 1) := by decide +kernel
theorem d_MO_take_116 : decode b_MO_take 116 = .ok (.aload_n 0, 1) := by decide +kernel
theorem d_MO_take_117 : decode b_MO_take 117 = .ok (.aload_n 0, 1) := by decide +kernel
theorem d_MO_take_118 : decode b_MO_take 118 = .ok (.getfield 16, 3) := by decide +kernel
theorem d_MO_take_121 : decode b_MO_take 121 = .ok (.iload_n 2, 1) := by decide +kernel
theorem d_MO_take_122 : decode b_MO_take 122 = .ok (.iaload, 1) := by decide +kernel
theorem d_MO_take_123 : decode b_MO_take 123 = .ok (.iconst 1, 1) := by decide +kernel
theorem d_MO_take_124 : decode b_MO_take 124 = .ok (.invokevirtual 60, 3) := by decide +kernel
theorem d_MO_take_127 : decode b_MO_take 127 = .ok (.iastore, 1) := by decide +kernel
theorem d_MO_take_128 : decode b_MO_take 128 = .ok (.aload_n 0, 1) := by decide +kernel
theorem d_MO_take_129 : decode b_MO_take 129 = .ok (.getfield 19, 3) := by decide +kernel
theorem d_MO_take_132 : decode b_MO_take 132 = .ok (.iload_n 2, 1) := by decide +kernel
theorem d_MO_take_133 : decode b_MO_take 133 = .ok (.iconst 0, 1) := by decide +kernel
theorem d_MO_take_134 : decode b_MO_take 134 = .ok (.iastore, 1) := by decide +kernel
theorem d_MO_take_135 : decode b_MO_take 135 = .ok (.iload_n 1, 1) := by decide +kernel
theorem d_MO_take_136 : decode b_MO_take 136 = .ok (.ireturn, 1) := by decide +kernel
theorem d_MO_sync_0 : decode b_MO_sync 0 = .ok (.aload_n 0, 1) := by decide +kernel
theorem d_MO_sync_1 : decode b_MO_sync 1 = .ok (.aload_n 0, 1) := by decide +kernel
theorem d_MO_sync_2 : decode b_MO_sync 2 = .ok (.getfield 157, 3) := by decide +kernel
theorem d_MO_sync_5 : decode b_MO_sync 5 = .ok (.ifCond .eq 7, 3) := by decide +kernel
theorem d_MO_sync_8 : decode b_MO_sync 8 = .ok (.iconst 0, 1) := by decide +kernel
theorem d_MO_sync_9 : decode b_MO_sync 9 = .ok (.goto 4, 3) := by decide +kernel
theorem d_MO_sync_12 : decode b_MO_sync 12 = .ok (.iconst 1, 1) := by decide +kernel
theorem d_MO_sync_13 : decode b_MO_sync 13 = .ok (.putfield 53, 3) := by decide +kernel
theorem d_MO_sync_16 : decode b_MO_sync 16 = .ok (.aload_n 0, 1) := by decide +kernel
theorem d_MO_sync_17 : decode b_MO_sync 17 = .ok (.getfield 53, 3) := by decide +kernel
theorem d_MO_sync_20 : decode b_MO_sync 20 = .ok (.ifCond .le 5, 3) := by decide +kernel
theorem d_MO_sync_23 : decode b_MO_sync 23 = .ok (.iconst 0, 1) := by decide +kernel
theorem d_MO_sync_24 : decode b_MO_sync 24 = .ok (.ireturn, 1) := by decide +kernel
theorem d_MO_sync_25 : decode b_MO_sync 25 = .ok (.aload_n 0, 1) := by decide +kernel
theorem d_MO_sync_26 : decode b_MO_sync 26 = .ok (.getfield 101, 3) := by decide +kernel
theorem d_MO_sync_29 : decode b_MO_sync 29 = .ok (.ifCond .le 17, 3) := by decide +kernel
theorem d_MO_sync_32 : decode b_MO_sync 32 = .ok (.aload_n 0, 1) := by decide +kernel
theorem d_MO_sync_33 : decode b_MO_sync 33 = .ok (.invokevirtual 176, 3) := by decide +kernel
theorem d_MO_sync_36 : decode b_MO_sync 36 = .ok (.ifCond .ne 10, 3) := by decide +kernel
theorem d_MO_sync_39 : decode b_MO_sync 39 = .ok (.aload_n 0, 1) := by decide +kernel
theorem d_MO_sync_40 : decode b_MO_sync 40 = .ok (.bipush (-2), 2) := by decide +kernel
theorem d_MO_sync_42 : decode b_MO_sync 42 = .ok (.invokevirtual 179, 3) := by decide +kernel
theorem d_MO_sync_45 : decode b_MO_sync 45 = .ok (.ireturn, 1) := by decide +kernel
theorem d_MO_sync_46 : decode b_MO_sync 46 = .ok (.aload_n 0, 1) := by decide +kernel
theorem d_MO_sync_47 : decode b_MO_sync 47 = .ok (.getfield 64, 3) := by decide +kernel
theorem d_MO_sync_50 : decode b_MO_sync 50 = .ok (.ifCond .ne 7, 3) := by decide +kernel
theorem d_MO_sync_53 : decode b_MO_sync 53 = .ok (.aload_n 0, 1) := by decide +kernel
theorem d_MO_sync_54 : decode b_MO_sync 54 = .ok (.invokevirtual 173, 3) := by decide +kernel
theorem d_MO_sync_57 : decode b_MO_sync 57 = .ok (.aload_n 0, 1) := by decide +kernel
theorem d_MO_sync_58 : decode b_MO_sync 58 = .ok (.iconst 0, 1) := by decide +kernel
theorem d_MO_sync_59 : decode b_MO_sync 59 = .ok (.invokevirtual 179, 3) := by decide +kernel
theorem d_MO_sync_62 : decode b_MO_sync 62 = .ok (.ireturn, 1) := by decide +kernel
theorem d_MO_cutAt_0 : decode b_MO_cutAt 0 = .ok (.aload_n 0, 1) := by decide +kernel
theorem d_MO_cutAt_1 : decode b_MO_cutAt 1 = .ok (.aload_n 0, 1) := by decide +kernel
theorem d_MO_cutAt_2 : decode b_MO_cutAt 2 = .ok (.getfield 157, 3) := by decide +kernel
theorem d_MO_cutAt_5 : decode b_MO_cutAt 5 = .ok (.ifCond .ne 7, 3) := by decide +kernel
theorem d_MO_cutAt_8 : decode b_MO_cutAt 8 = .ok (.iconst 1, 1) := by decide +kernel
theorem d_MO_cutAt_9 : decode b_MO_cutAt 9 = .ok (.goto 19, 3) := by decide +kernel
theorem d_MO_cutAt_12 : decode b_MO_cutAt 12 = .ok (.iload_n 1, 1) := by decide +kernel
theorem d_MO_cutAt_13 : decode b_MO_cutAt 13 = .ok (.iconst 0, 1) := by decide +kernel
theorem d_MO_cutAt_14 : decode b_MO_cutAt 14 = .ok (.sipush 10000, 3) := by decide +kernel
theorem d_MO_cutAt_17 : decode b_MO_cutAt 17 = .ok (.invokestatic 163, 3) := by decide +kernel
theorem d_MO_cutAt_20 : decode b_MO_cutAt 20 = .ok (.ifCond .ne 7, 3) := by decide +kernel
theorem d_MO_cutAt_23 : decode b_MO_cutAt 23 = .ok (.iconst 2, 1) := by decide +kernel
theorem d_MO_cutAt_24 : decode b_MO_cutAt 24 = .ok (.goto 4, 3) := by decide +kernel
theorem d_MO_cutAt_27 : decode b_MO_cutAt 27 = .ok (.iconst 0, 1) := by decide +kernel
theorem d_MO_cutAt_28 : decode b_MO_cutAt 28 = .ok (.putfield 53, 3) := by decide +kernel
theorem d_MO_cutAt_31 : decode b_MO_cutAt 31 = .ok (.aload_n 0, 1) := by decide +kernel
theorem d_MO_cutAt_32 : decode b_MO_cutAt 32 = .ok (.aload_n 0, 1) := by decide +kernel
theorem d_MO_cutAt_33 : decode b_MO_cutAt 33 = .ok (.getfield 53, 3) := by decide +kernel
theorem d_MO_cutAt_36 : decode b_MO_cutAt 36 = .ok (.ifCond .le 10, 3) := by decide +kernel
theorem d_MO_cutAt_39 : decode b_MO_cutAt 39 = .ok (.aload_n 0, 1) := by decide +kernel
theorem d_MO_cutAt_40 : decode b_MO_cutAt 40 = .ok (.getfield 68, 3) := by decide +kernel
theorem d_MO_cutAt_43 : decode b_MO_cutAt 43 = .ok (.goto 4, 3) := by decide +kernel
theorem d_MO_cutAt_46 : decode b_MO_cutAt 46 = .ok (.iload_n 1, 1) := by decide +kernel
theorem d_MO_cutAt_47 : decode b_MO_cutAt 47 = .ok (.putfield 68, 3) := by decide +kernel
theorem d_MO_cutAt_50 : decode b_MO_cutAt 50 = .ok (.return_, 1) := by decide +kernel
theorem d_MO_cut_0 : decode b_MO_cut 0 = .ok (.aload_n 0, 1) := by decide +kernel
theorem d_MO_cut_1 : decode b_MO_cut 1 = .ok (.aload_n 0, 1) := by decide +kernel
theorem d_MO_cut_2 : decode b_MO_cut 2 = .ok (.getfield 167, 3) := by decide +kernel
theorem d_MO_cut_5 : decode b_MO_cut 5 = .ok (.ifCond .eq 7, 3) := by decide +kernel
theorem d_MO_cut_8 : decode b_MO_cut 8 = .ok (.iconst 0, 1) := by decide +kernel
theorem d_MO_cut_9 : decode b_MO_cut 9 = .ok (.goto 4, 3) := by decide +kernel
theorem d_MO_cut_12 : decode b_MO_cut 12 = .ok (.iconst 1, 1) := by decide +kernel
theorem d_MO_cut_13 : decode b_MO_cut 13 = .ok (.putfield 53, 3) := by decide +kernel
theorem d_MO_cut_16 : decode b_MO_cut 16 = .ok (.aload_n 0, 1) := by decide +kernel
theorem d_MO_cut_17 : decode b_MO_cut 17 = .ok (.getfield 53, 3) := by decide +kernel
theorem d_MO_cut_20 : decode b_MO_cut 20 = .ok (.ifCond .ne 7, 3) := by decide +kernel
theorem d_MO_cut_23 : decode b_MO_cut 23 = .ok (.aload_n 0, 1) := by decide +kernel
theorem d_MO_cut_24 : decode b_MO_cut 24 = .ok (.invokevirtual 160, 3) := by decide +kernel
theorem d_MO_cut_27 : decode b_MO_cut 27 = .ok (.return_, 1) := by decide +kernel
theorem d_MO_readRun_0 : decode b_MO_readRun 0 = .ok (.iconst 3, 1) := by decide +kernel
theorem d_MO_readRun_1 : decode b_MO_readRun 1 = .ok (.iconst 4, 1) := by decide +kernel
theorem d_MO_readRun_2 : decode b_MO_readRun 2 = .ok (.iload_n 2, 1) := by decide +kernel
theorem d_MO_readRun_3 : decode b_MO_readRun 3 = .ok (.imul, 1) := by decide +kernel
theorem d_MO_readRun_4 : decode b_MO_readRun 4 = .ok (.iadd, 1) := by decide +kernel
theorem d_MO_readRun_5 : decode b_MO_readRun 5 = .ok (.istore_n 3, 1) := by decide +kernel
theorem d_MO_readRun_6 : decode b_MO_readRun 6 = .ok (.aload_n 0, 1) := by decide +kernel
theorem d_MO_readRun_7 : decode b_MO_readRun 7 = .ok (.iload_n 1, 1) := by decide +kernel
theorem d_MO_readRun_8 : decode b_MO_readRun 8 = .ok (.iload_n 3, 1) := by decide +kernel
theorem d_MO_readRun_9 : decode b_MO_readRun 9 = .ok (.invokevirtual 60, 3) := by decide +kernel
theorem d_MO_readRun_12 : decode b_MO_readRun 12 = .ok (.istore 4, 2) := by decide +kernel
theorem d_MO_readRun_14 : decode b_MO_readRun 14 = .ok (.aload_n 0, 1) := by decide +kernel
theorem d_MO_readRun_15 : decode b_MO_readRun 15 = .ok (.iload_n 1, 1) := by decide +kernel
theorem d_MO_readRun_16 : decode b_MO_readRun 16 = .ok (.iload_n 3, 1) := by decide +kernel
theorem d_MO_readRun_17 : decode b_MO_readRun 17 = .ok (.iconst 1, 1) := by decide +kernel
theorem d_MO_readRun_18 : decode b_MO_readRun 18 = .ok (.iadd, 1) := by decide +kernel
theorem d_MO_readRun_19 : decode b_MO_readRun 19 = .ok (.invokevirtual 60, 3) := by decide +kernel
theorem d_MO_readRun_22 : decode b_MO_readRun 22 = .ok (.istore 5, 2) := by decide +kernel
theorem d_MO_readRun_24 : decode b_MO_readRun 24 = .ok (.aload_n 0, 1) := by decide +kernel
theorem d_MO_readRun_25 : decode b_MO_readRun 25 = .ok (.iload_n 1, 1) := by decide +kernel
theorem d_MO_readRun_26 : decode b_MO_readRun 26 = .ok (.iload_n 3, 1) := by decide +kernel
theorem d_MO_readRun_27 : decode b_MO_readRun 27 = .ok (.iconst 2, 1) := by decide +kernel
theorem d_MO_readRun_28 : decode b_MO_readRun 28 = .ok (.iadd, 1) := by decide +kernel
theorem d_MO_readRun_29 : decode b_MO_readRun 29 = .ok (.invokevirtual 60, 3) := by decide +kernel
theorem d_MO_readRun_32 : decode b_MO_readRun 32 = .ok (.istore 6, 2) := by decide +kernel
theorem d_MO_readRun_34 : decode b_MO_readRun 34 = .ok (.aload_n 0, 1) := by decide +kernel
theorem d_MO_readRun_35 : decode b_MO_readRun 35 = .ok (.iload_n 1, 1) := by decide +kernel
theorem d_MO_readRun_36 : decode b_MO_readRun 36 = .ok (.iload_n 3, 1) := by decide +kernel
theorem d_MO_readRun_37 : decode b_MO_readRun 37 = .ok (.iconst 3, 1) := by decide +kernel
theorem d_MO_readRun_38 : decode b_MO_readRun 38 = .ok (.iadd, 1) := by decide +kernel
theorem d_MO_readRun_39 : decode b_MO_readRun 39 = .ok (.invokevirtual 60, 3) := by decide +kernel
theorem d_MO_readRun_42 : decode b_MO_readRun 42 = .ok (.ifCond .lt 23, 3) := by decide +kernel
theorem d_MO_readRun_45 : decode b_MO_readRun 45 = .ok (.iload 6, 2) := by decide +kernel
theorem d_MO_readRun_47 : decode b_MO_readRun 47 = .ok (.iconst 1, 1) := by decide +kernel
theorem d_MO_readRun_48 : decode b_MO_readRun 48 = .ok (.if_icmp .lt 17, 3) := by decide +kernel
theorem d_MO_readRun_51 : decode b_MO_readRun 51 = .ok (.iload 5, 2) := by decide +kernel
theorem d_MO_readRun_53 : decode b_MO_readRun 53 = .ok (.ifCond .lt 12, 3) := by decide +kernel
theorem d_MO_readRun_56 : decode b_MO_readRun 56 = .ok (.iload 5, 2) := by decide +kernel
theorem d_MO_readRun_58 : decode b_MO_readRun 58 = .ok (.aload_n 0, 1) := by decide +kernel
theorem d_MO_readRun_59 : decode b_MO_readRun 59 = .ok (.invokevirtual 78, 3) := by decide +kernel
theorem d_MO_readRun_62 : decode b_MO_readRun 62 = .ok (.if_icmp .lt 5, 3) := by decide +kernel
theorem d_MO_readRun_65 : decode b_MO_readRun 65 = .ok (.iconst 0, 1) := by decide +kernel
theorem d_MO_readRun_66 : decode b_MO_readRun 66 = .ok (.ireturn, 1) := by decide +kernel
theorem d_MO_readRun_67 : decode b_MO_readRun 67 = .ok (.aload_n 0, 1) := by decide +kernel
theorem d_MO_readRun_68 : decode b_MO_readRun 68 = .ok (.getfield 16, 3) := by decide +kernel
theorem d_MO_readRun_71 : decode b_MO_readRun 71 = .ok (.aload_n 0, 1) := by decide +kernel
theorem d_MO_readRun_72 : decode b_MO_readRun 72 = .ok (.getfield 82, 3) := by decide +kernel
theorem d_MO_readRun_75 : decode b_MO_readRun 75 = .ok (.iload 4, 2) := by decide +kernel
theorem d_MO_readRun_77 : decode b_MO_readRun 77 = .ok (.iastore, 1) := by decide +kernel
theorem d_MO_readRun_78 : decode b_MO_readRun 78 = .ok (.aload_n 0, 1) := by decide +kernel
theorem d_MO_readRun_79 : decode b_MO_readRun 79 = .ok (.getfield 19, 3) := by decide +kernel
theorem d_MO_readRun_82 : decode b_MO_readRun 82 = .ok (.aload_n 0, 1) := by decide +kernel
theorem d_MO_readRun_83 : decode b_MO_readRun 83 = .ok (.getfield 82, 3) := by decide +kernel
theorem d_MO_readRun_86 : decode b_MO_readRun 86 = .ok (.iload 5, 2) := by decide +kernel
theorem d_MO_readRun_88 : decode b_MO_readRun 88 = .ok (.iastore, 1) := by decide +kernel
theorem d_MO_readRun_89 : decode b_MO_readRun 89 = .ok (.aload_n 0, 1) := by decide +kernel
theorem d_MO_readRun_90 : decode b_MO_readRun 90 = .ok (.getfield 22, 3) := by decide +kernel
theorem d_MO_readRun_93 : decode b_MO_readRun 93 = .ok (.aload_n 0, 1) := by decide +kernel
theorem d_MO_readRun_94 : decode b_MO_readRun 94 = .ok (.getfield 82, 3) := by decide +kernel
theorem d_MO_readRun_97 : decode b_MO_readRun 97 = .ok (.iload 6, 2) := by decide +kernel
theorem d_MO_readRun_99 : decode b_MO_readRun 99 = .ok (.iastore, 1) := by decide +kernel
theorem d_MO_readRun_100 : decode b_MO_readRun 100 = .ok (.aload_n 0, 1) := by decide +kernel
theorem d_MO_readRun_101 : decode b_MO_readRun 101 = .ok (.getfield 25, 3) := by decide +kernel
theorem d_MO_readRun_104 : decode b_MO_readRun 104 = .ok (.aload_n 0, 1) := by decide +kernel
theorem d_MO_readRun_105 : decode b_MO_readRun 105 = .ok (.getfield 82, 3) := by decide +kernel
theorem d_MO_readRun_108 : decode b_MO_readRun 108 = .ok (.aload_n 0, 1) := by decide +kernel
theorem d_MO_readRun_109 : decode b_MO_readRun 109 = .ok (.iload_n 1, 1) := by decide +kernel
theorem d_MO_readRun_110 : decode b_MO_readRun 110 = .ok (.iload_n 3, 1) := by decide +kernel
theorem d_MO_readRun_111 : decode b_MO_readRun 111 = .ok (.iconst 3, 1) := by decide +kernel
theorem d_MO_readRun_112 : decode b_MO_readRun 112 = .ok (.iadd, 1) := by decide +kernel
theorem d_MO_readRun_113 : decode b_MO_readRun 113 = .ok (.invokevirtual 60, 3) := by decide +kernel
theorem d_MO_readRun_116 : decode b_MO_readRun 116 = .ok (.iastore, 1) := by decide +kernel
theorem d_MO_readRun_117 : decode b_MO_readRun 117 = .ok (.iload 5, 2) := by decide +kernel
theorem d_MO_readRun_119 : decode b_MO_readRun 119 = .ok (.istore 7, 2) := by decide +kernel
theorem d_MO_readRun_121 : decode b_MO_readRun 121 = .ok (.iconst 0, 1) := by decide +kernel
theorem d_MO_readRun_122 : decode b_MO_readRun 122 = .ok (.istore 8, 2) := by decide +kernel
theorem d_MO_readRun_124 : decode b_MO_readRun 124 = .ok (.iload 6, 2) := by decide +kernel
theorem d_MO_readRun_126 : decode b_MO_readRun 126 = .ok (.istore 9, 2) := by decide +kernel
theorem d_MO_readRun_128 : decode b_MO_readRun 128 = .ok (.iload 9, 2) := by decide +kernel
theorem d_MO_readRun_130 : decode b_MO_readRun 130 = .ok (.ifCond .le 121, 3) := by decide +kernel
theorem d_MO_readRun_133 : decode b_MO_readRun 133 = .ok (.iload 4, 2) := by decide +kernel
theorem d_MO_readRun_135 : decode b_MO_readRun 135 = .ok (.iconst 2, 1) := by decide +kernel
theorem d_MO_readRun_136 : decode b_MO_readRun 136 = .ok (.if_icmp .lt 38, 3) := by decide +kernel
theorem d_MO_readRun_139 : decode b_MO_readRun 139 = .ok (.iload 4, 2) := by decide +kernel
theorem d_MO_readRun_141 : decode b_MO_readRun 141 = .ok (.aload_n 0, 1) := by decide +kernel
theorem d_MO_readRun_142 : decode b_MO_readRun 142 = .ok (.getfield 91, 3) := by decide +kernel
theorem d_MO_readRun_145 : decode b_MO_readRun 145 = .ok (.if_icmp .ge 29, 3) := by decide +kernel
theorem d_MO_readRun_148 : decode b_MO_readRun 148 = .ok (.aload_n 0, 1) := by decide +kernel
theorem d_MO_readRun_149 : decode b_MO_readRun 149 = .ok (.getfield 32, 3) := by decide +kernel
theorem d_MO_readRun_152 : decode b_MO_readRun 152 = .ok (.iload 4, 2) := by decide +kernel
theorem d_MO_readRun_154 : decode b_MO_readRun 154 = .ok (.baload, 1) := by decide +kernel
theorem d_MO_readRun_155 : decode b_MO_readRun 155 = .ok (.ifCond .ne 19, 3) := by decide +kernel
theorem d_MO_readRun_158 : decode b_MO_readRun 158 = .ok (.aload_n 0, 1) := by decide +kernel
theorem d_MO_readRun_159 : decode b_MO_readRun 159 = .ok (.iload 4, 2) := by decide +kernel
theorem d_MO_readRun_161 : decode b_MO_readRun 161 = .ok (.iconst 0, 1) := by decide +kernel
theorem d_MO_readRun_162 : decode b_MO_readRun 162 = .ok (.invokevirtual 60, 3) := by decide +kernel
theorem d_MO_readRun_165 : decode b_MO_readRun 165 = .ok (.aload_n 0, 1) := by decide +kernel
theorem d_MO_readRun_166 : decode b_MO_readRun 166 = .ok (.iload 4, 2) := by decide +kernel
theorem d_MO_readRun_168 : decode b_MO_readRun 168 = .ok (.invokevirtual 74, 3) := by decide +kernel
theorem d_MO_readRun_171 : decode b_MO_readRun 171 = .ok (.if_icmp .eq 5, 3) := by decide +kernel
theorem d_MO_readRun_174 : decode b_MO_readRun 174 = .ok (.iconst 0, 1) := by decide +kernel
theorem d_MO_readRun_175 : decode b_MO_readRun 175 = .ok (.ireturn, 1) := by decide +kernel
theorem d_MO_readRun_176 : decode b_MO_readRun 176 = .ok (.aload_n 0, 1) := by decide +kernel
theorem d_MO_readRun_177 : decode b_MO_readRun 177 = .ok (.getfield 32, 3) := by decide +kernel
theorem d_MO_readRun_180 : decode b_MO_readRun 180 = .ok (.iload 4, 2) := by decide +kernel
theorem d_MO_readRun_182 : decode b_MO_readRun 182 = .ok (.iconst 1, 1) := by decide +kernel
theorem d_MO_readRun_183 : decode b_MO_readRun 183 = .ok (.bastore, 1) := by decide +kernel
theorem d_MO_readRun_184 : decode b_MO_readRun 184 = .ok (.iload 7, 2) := by decide +kernel
theorem d_MO_readRun_186 : decode b_MO_readRun 186 = .ok (.aload_n 0, 1) := by decide +kernel
theorem d_MO_readRun_187 : decode b_MO_readRun 187 = .ok (.invokevirtual 78, 3) := by decide +kernel
theorem d_MO_readRun_190 : decode b_MO_readRun 190 = .ok (.if_icmp .ge 46, 3) := by decide +kernel
theorem d_MO_readRun_193 : decode b_MO_readRun 193 = .ok (.iload 9, 2) := by decide +kernel
theorem d_MO_readRun_195 : decode b_MO_readRun 195 = .ok (.ifCond .le 41, 3) := by decide +kernel
theorem d_MO_readRun_198 : decode b_MO_readRun 198 = .ok (.aload_n 0, 1) := by decide +kernel
theorem d_MO_readRun_199 : decode b_MO_readRun 199 = .ok (.iload 4, 2) := by decide +kernel
theorem d_MO_readRun_201 : decode b_MO_readRun 201 = .ok (.iconst 2, 1) := by decide +kernel
theorem d_MO_readRun_202 : decode b_MO_readRun 202 = .ok (.iload 7, 2) := by decide +kernel
theorem d_MO_readRun_204 : decode b_MO_readRun 204 = .ok (.iadd, 1) := by decide +kernel
theorem d_MO_readRun_205 : decode b_MO_readRun 205 = .ok (.invokevirtual 60, 3) := by decide +kernel
theorem d_MO_readRun_208 : decode b_MO_readRun 208 = .ok (.iload 8, 2) := by decide +kernel
theorem d_MO_readRun_210 : decode b_MO_readRun 210 = .ok (.if_icmp .ge 5, 3) := by decide +kernel
theorem d_MO_readRun_213 : decode b_MO_readRun 213 = .ok (.iconst 0, 1) := by decide +kernel
theorem d_MO_readRun_214 : decode b_MO_readRun 214 = .ok (.ireturn, 1) := by decide +kernel
theorem d_MO_readRun_215 : decode b_MO_readRun 215 = .ok (.aload_n 0, 1) := by decide +kernel
theorem d_MO_readRun_216 : decode b_MO_readRun 216 = .ok (.iload 4, 2) := by decide +kernel
theorem d_MO_readRun_218 : decode b_MO_readRun 218 = .ok (.iconst 2, 1) := by decide +kernel
theorem d_MO_readRun_219 : decode b_MO_readRun 219 = .ok (.iload 7, 2) := by decide +kernel
theorem d_MO_readRun_221 : decode b_MO_readRun 221 = .ok (.iadd, 1) := by decide +kernel
theorem d_MO_readRun_222 : decode b_MO_readRun 222 = .ok (.invokevirtual 60, 3) := by decide +kernel
theorem d_MO_readRun_225 : decode b_MO_readRun 225 = .ok (.istore 8, 2) := by decide +kernel
theorem d_MO_readRun_227 : decode b_MO_readRun 227 = .ok (.iinc 7 1, 3) := by decide +kernel
theorem d_MO_readRun_230 : decode b_MO_readRun 230 = .ok (.iinc 9 (-1), 3) := by decide +kernel
theorem d_MO_readRun_233 : decode b_MO_readRun 233 = .ok (.goto (-49), 3) := by decide +kernel
theorem d_MO_readRun_236 : decode b_MO_readRun 236 = .ok (.iconst 0, 1) := by decide +kernel
theorem d_MO_readRun_237 : decode b_MO_readRun 237 = .ok (.istore 7, 2) := by decide +kernel
theorem d_MO_readRun_239 : decode b_MO_readRun 239 = .ok (.aload_n 0, 1) := by decide +kernel
theorem d_MO_readRun_240 : decode b_MO_readRun 240 = .ok (.iload 4, 2) := by decide +kernel
theorem d_MO_readRun_242 : decode b_MO_readRun 242 = .ok (.iconst 1, 1) := by decide +kernel
theorem d_MO_readRun_243 : decode b_MO_readRun 243 = .ok (.invokevirtual 60, 3) := by decide +kernel
theorem d_MO_readRun_246 : decode b_MO_readRun 246 = .ok (.istore 4, 2) := by decide +kernel
theorem d_MO_readRun_248 : decode b_MO_readRun 248 = .ok (.goto (-120), 3) := by decide +kernel
theorem d_MO_readRun_251 : decode b_MO_readRun 251 = .ok (.aload_n 0, 1) := by decide +kernel
theorem d_MO_readRun_252 : decode b_MO_readRun 252 = .ok (.dup, 1) := by decide +kernel
theorem d_MO_readRun_253 : decode b_MO_readRun 253 = .ok (.getfield 82, 3) := by decide +kernel
theorem d_MO_readRun_256 : decode b_MO_readRun 256 = .ok (.iconst 1, 1) := by decide +kernel
theorem d_MO_readRun_257 : decode b_MO_readRun 257 = .ok (.iadd, 1) := by decide +kernel
theorem d_MO_readRun_258 : decode b_MO_readRun 258 = .ok (.putfield 82, 3) := by decide +kernel
theorem d_MO_readRun_261 : decode b_MO_readRun 261 = .ok (.iload 4, 2) := by decide +kernel
theorem d_MO_readRun_263 : decode b_MO_readRun 263 = .ok (.ifCond .ne 7, 3) := by decide +kernel
theorem d_MO_readRun_266 : decode b_MO_readRun 266 = .ok (.iconst 1, 1) := by decide +kernel
theorem d_MO_readRun_267 : decode b_MO_readRun 267 = .ok (.goto 4, 3) := by decide +kernel
theorem d_MO_readRun_270 : decode b_MO_readRun 270 = .ok (.iconst 0, 1) := by decide +kernel
theorem d_MO_readRun_271 : decode b_MO_readRun 271 = .ok (.ireturn, 1) := by decide +kernel
theorem d_MO_readSuper_0 : decode b_MO_readSuper 0 = .ok (.aload_n 0, 1) := by decide +kernel
theorem d_MO_readSuper_1 : decode b_MO_readSuper 1 = .ok (.iconst 0, 1) := by decide +kernel
theorem d_MO_readSuper_2 : decode b_MO_readSuper 2 = .ok (.putfield 82, 3) := by decide +kernel
theorem d_MO_readSuper_5 : decode b_MO_readSuper 5 = .ok (.iconst 0, 1) := by decide +kernel
theorem d_MO_readSuper_6 : decode b_MO_readSuper 6 = .ok (.istore_n 2, 1) := by decide +kernel
theorem d_MO_readSuper_7 : decode b_MO_readSuper 7 = .ok (.iload_n 2, 1) := by decide +kernel
theorem d_MO_readSuper_8 : decode b_MO_readSuper 8 = .ok (.sipush 200, 3) := by decide +kernel
theorem d_MO_readSuper_11 : decode b_MO_readSuper 11 = .ok (.if_icmp .ge 16, 3) := by decide +kernel
theorem d_MO_readSuper_14 : decode b_MO_readSuper 14 = .ok (.aload_n 0, 1) := by decide +kernel
theorem d_MO_readSuper_15 : decode b_MO_readSuper 15 = .ok (.getfield 32, 3) := by decide +kernel
theorem d_MO_readSuper_18 : decode b_MO_readSuper 18 = .ok (.iload_n 2, 1) := by decide +kernel
theorem d_MO_readSuper_19 : decode b_MO_readSuper 19 = .ok (.iconst 0, 1) := by decide +kernel
theorem d_MO_readSuper_20 : decode b_MO_readSuper 20 = .ok (.bastore, 1) := by decide +kernel
theorem d_MO_readSuper_21 : decode b_MO_readSuper 21 = .ok (.iinc 2 1, 3) := by decide +kernel
theorem d_MO_readSuper_24 : decode b_MO_readSuper 24 = .ok (.goto (-17), 3) := by decide +kernel
theorem d_MO_readSuper_27 : decode b_MO_readSuper 27 = .ok (.aload_n 0, 1) := by decide +kernel
theorem d_MO_readSuper_28 : decode b_MO_readSuper 28 = .ok (.iload_n 1, 1) := by decide +kernel
theorem d_MO_readSuper_29 : decode b_MO_readSuper 29 = .ok (.iconst 1, 1) := by decide +kernel
theorem d_MO_readSuper_30 : decode b_MO_readSuper 30 = .ok (.invokevirtual 60, 3) := by decide +kernel
theorem d_MO_readSuper_33 : decode b_MO_readSuper 33 = .ok (.istore_n 2, 1) := by decide +kernel
theorem d_MO_readSuper_34 : decode b_MO_readSuper 34 = .ok (.aload_n 0, 1) := by decide +kernel
theorem d_MO_readSuper_35 : decode b_MO_readSuper 35 = .ok (.iload_n 1, 1) := by decide +kernel
theorem d_MO_readSuper_36 : decode b_MO_readSuper 36 = .ok (.iconst 2, 1) := by decide +kernel
theorem d_MO_readSuper_37 : decode b_MO_readSuper 37 = .ok (.invokevirtual 60, 3) := by decide +kernel
theorem d_MO_readSuper_40 : decode b_MO_readSuper 40 = .ok (.istore_n 3, 1) := by decide +kernel
theorem d_MO_readSuper_41 : decode b_MO_readSuper 41 = .ok (.aload_n 0, 1) := by decide +kernel
theorem d_MO_readSuper_42 : decode b_MO_readSuper 42 = .ok (.iload_n 1, 1) := by decide +kernel
theorem d_MO_readSuper_43 : decode b_MO_readSuper 43 = .ok (.iconst 0, 1) := by decide +kernel
theorem d_MO_readSuper_44 : decode b_MO_readSuper 44 = .ok (.invokevirtual 60, 3) := by decide +kernel
theorem d_MO_readSuper_47 : decode b_MO_readSuper 47 = .ok (.aload_n 0, 1) := by decide +kernel
theorem d_MO_readSuper_48 : decode b_MO_readSuper 48 = .ok (.iload_n 1, 1) := by decide +kernel
theorem d_MO_readSuper_49 : decode b_MO_readSuper 49 = .ok (.invokevirtual 74, 3) := by decide +kernel
theorem d_MO_readSuper_52 : decode b_MO_readSuper 52 = .ok (.if_icmp .ne 27, 3) := by decide +kernel
theorem d_MO_readSuper_55 : decode b_MO_readSuper 55 = .ok (.iload_n 2, 1) := by decide +kernel
theorem d_MO_readSuper_56 : decode b_MO_readSuper 56 = .ok (.iconst 1, 1) := by decide +kernel
theorem d_MO_readSuper_57 : decode b_MO_readSuper 57 = .ok (.if_icmp .lt 22, 3) := by decide +kernel
theorem d_MO_readSuper_60 : decode b_MO_readSuper 60 = .ok (.iload_n 2, 1) := by decide +kernel
theorem d_MO_readSuper_61 : decode b_MO_readSuper 61 = .ok (.iconst 2, 1) := by decide +kernel
theorem d_MO_readSuper_62 : decode b_MO_readSuper 62 = .ok (.irem, 1) := by decide +kernel
theorem d_MO_readSuper_63 : decode b_MO_readSuper 63 = .ok (.iload_n 1, 1) := by decide +kernel
theorem d_MO_readSuper_64 : decode b_MO_readSuper 64 = .ok (.if_icmp .ne 15, 3) := by decide +kernel
theorem d_MO_readSuper_67 : decode b_MO_readSuper 67 = .ok (.iload_n 3, 1) := by decide +kernel
theorem d_MO_readSuper_68 : decode b_MO_readSuper 68 = .ok (.iconst 0, 1) := by decide +kernel
theorem d_MO_readSuper_69 : decode b_MO_readSuper 69 = .ok (.aload_n 0, 1) := by decide +kernel
theorem d_MO_readSuper_70 : decode b_MO_readSuper 70 = .ok (.invokevirtual 144, 3) := by decide +kernel
theorem d_MO_readSuper_73 : decode b_MO_readSuper 73 = .ok (.invokestatic 163, 3) := by decide +kernel
theorem d_MO_readSuper_76 : decode b_MO_readSuper 76 = .ok (.ifCond .ne 5, 3) := by decide +kernel
theorem d_MO_readSuper_79 : decode b_MO_readSuper 79 = .ok (.iconst 0, 1) := by decide +kernel
theorem d_MO_readSuper_80 : decode b_MO_readSuper 80 = .ok (.ireturn, 1) := by decide +kernel
theorem d_MO_readSuper_81 : decode b_MO_readSuper 81 = .ok (.iconst 1, 1) := by decide +kernel
theorem d_MO_readSuper_82 : decode b_MO_readSuper 82 = .ok (.istore 4, 2) := by decide +kernel
theorem d_MO_readSuper_84 : decode b_MO_readSuper 84 = .ok (.iconst 0, 1) := by decide +kernel
theorem d_MO_readSuper_85 : decode b_MO_readSuper 85 = .ok (.istore 5, 2) := by decide +kernel
theorem d_MO_readSuper_87 : decode b_MO_readSuper 87 = .ok (.iload 5, 2) := by decide +kernel
theorem d_MO_readSuper_89 : decode b_MO_readSuper 89 = .ok (.iload_n 3, 1) := by decide +kernel
theorem d_MO_readSuper_90 : decode b_MO_readSuper 90 = .ok (.if_icmp .ge 23, 3) := by decide +kernel
theorem d_MO_readSuper_93 : decode b_MO_readSuper 93 = .ok (.iload 4, 2) := by decide +kernel
theorem d_MO_readSuper_95 : decode b_MO_readSuper 95 = .ok (.ifCond .eq 18, 3) := by decide +kernel
theorem d_MO_readSuper_98 : decode b_MO_readSuper 98 = .ok (.aload_n 0, 1) := by decide +kernel
theorem d_MO_readSuper_99 : decode b_MO_readSuper 99 = .ok (.iload_n 1, 1) := by decide +kernel
theorem d_MO_readSuper_100 : decode b_MO_readSuper 100 = .ok (.iload 5, 2) := by decide +kernel
theorem d_MO_readSuper_102 : decode b_MO_readSuper 102 = .ok (.invokevirtual 194, 3) := by decide +kernel
theorem d_MO_readSuper_105 : decode b_MO_readSuper 105 = .ok (.istore 4, 2) := by decide +kernel
theorem d_MO_readSuper_107 : decode b_MO_readSuper 107 = .ok (.iinc 5 1, 3) := by decide +kernel
theorem d_MO_readSuper_110 : decode b_MO_readSuper 110 = .ok (.goto (-23), 3) := by decide +kernel
theorem d_MO_readSuper_113 : decode b_MO_readSuper 113 = .ok (.iload 4, 2) := by decide +kernel
theorem d_MO_readSuper_115 : decode b_MO_readSuper 115 = .ok (.ireturn, 1) := by decide +kernel
theorem d_MO_size0_0 : decode b_MO_size0 0 = .ok (.aload_n 0, 1) := by decide +kernel
theorem d_MO_size0_1 : decode b_MO_size0 1 = .ok (.getfield 101, 3) := by decide +kernel
theorem d_MO_size0_4 : decode b_MO_size0 4 = .ok (.istore_n 1, 1) := by decide +kernel
theorem d_MO_size0_5 : decode b_MO_size0 5 = .ok (.iconst 0, 1) := by decide +kernel
theorem d_MO_size0_6 : decode b_MO_size0 6 = .ok (.istore_n 2, 1) := by decide +kernel
theorem d_MO_size0_7 : decode b_MO_size0 7 = .ok (.iload_n 2, 1) := by decide +kernel
theorem d_MO_size0_8 : decode b_MO_size0 8 = .ok (.aload_n 0, 1) := by decide +kernel
theorem d_MO_size0_9 : decode b_MO_size0 9 = .ok (.getfield 82, 3) := by decide +kernel
theorem d_MO_size0_12 : decode b_MO_size0 12 = .ok (.if_icmp .ge 18, 3) := by decide +kernel
theorem d_MO_size0_15 : decode b_MO_size0 15 = .ok (.iload_n 1, 1) := by decide +kernel
theorem d_MO_size0_16 : decode b_MO_size0 16 = .ok (.aload_n 0, 1) := by decide +kernel
theorem d_MO_size0_17 : decode b_MO_size0 17 = .ok (.getfield 22, 3) := by decide +kernel
theorem d_MO_size0_20 : decode b_MO_size0 20 = .ok (.iload_n 2, 1) := by decide +kernel
theorem d_MO_size0_21 : decode b_MO_size0 21 = .ok (.iaload, 1) := by decide +kernel
theorem d_MO_size0_22 : decode b_MO_size0 22 = .ok (.iadd, 1) := by decide +kernel
theorem d_MO_size0_23 : decode b_MO_size0 23 = .ok (.istore_n 1, 1) := by decide +kernel
theorem d_MO_size0_24 : decode b_MO_size0 24 = .ok (.iinc 2 1, 3) := by decide +kernel
theorem d_MO_size0_27 : decode b_MO_size0 27 = .ok (.goto (-20), 3) := by decide +kernel
theorem d_MO_size0_30 : decode b_MO_size0 30 = .ok (.iload_n 1, 1) := by decide +kernel
theorem d_MO_size0_31 : decode b_MO_size0 31 = .ok (.ireturn, 1) := by decide +kernel
theorem d_MO_recover_0 : decode b_MO_recover 0 = .ok (.aload_n 0, 1) := by decide +kernel
theorem d_MO_recover_1 : decode b_MO_recover 1 = .ok (.aload_n 0, 1) := by decide +kernel
theorem d_MO_recover_2 : decode b_MO_recover 2 = .ok (.getfield 167, 3) := by decide +kernel
theorem d_MO_recover_5 : decode b_MO_recover 5 = .ok (.ifCond .eq 7, 3) := by decide +kernel
theorem d_MO_recover_8 : decode b_MO_recover 8 = .ok (.iconst 0, 1) := by decide +kernel
theorem d_MO_recover_9 : decode b_MO_recover 9 = .ok (.goto 4, 3) := by decide +kernel
theorem d_MO_recover_12 : decode b_MO_recover 12 = .ok (.iconst 1, 1) := by decide +kernel
theorem d_MO_recover_13 : decode b_MO_recover 13 = .ok (.putfield 53, 3) := by decide +kernel
theorem d_MO_recover_16 : decode b_MO_recover 16 = .ok (.aload_n 0, 1) := by decide +kernel
theorem d_MO_recover_17 : decode b_MO_recover 17 = .ok (.getfield 53, 3) := by decide +kernel
theorem d_MO_recover_20 : decode b_MO_recover 20 = .ok (.ifCond .le 5, 3) := by decide +kernel
theorem d_MO_recover_23 : decode b_MO_recover 23 = .ok (.iconst 0, 1) := by decide +kernel
theorem d_MO_recover_24 : decode b_MO_recover 24 = .ok (.ireturn, 1) := by decide +kernel
theorem d_MO_recover_25 : decode b_MO_recover 25 = .ok (.aload_n 0, 1) := by decide +kernel
theorem d_MO_recover_26 : decode b_MO_recover 26 = .ok (.iconst 0, 1) := by decide +kernel
theorem d_MO_recover_27 : decode b_MO_recover 27 = .ok (.putfield 68, 3) := by decide +kernel
theorem d_MO_recover_30 : decode b_MO_recover 30 = .ok (.aload_n 0, 1) := by decide +kernel
theorem d_MO_recover_31 : decode b_MO_recover 31 = .ok (.iconst 0, 1) := by decide +kernel
theorem d_MO_recover_32 : decode b_MO_recover 32 = .ok (.putfield 64, 3) := by decide +kernel
theorem d_MO_recover_35 : decode b_MO_recover 35 = .ok (.aload_n 0, 1) := by decide +kernel
theorem d_MO_recover_36 : decode b_MO_recover 36 = .ok (.invokevirtual 160, 3) := by decide +kernel
theorem d_MO_recover_39 : decode b_MO_recover 39 = .ok (.aload_n 0, 1) := by decide +kernel
theorem d_MO_recover_40 : decode b_MO_recover 40 = .ok (.iconst 0, 1) := by decide +kernel
theorem d_MO_recover_41 : decode b_MO_recover 41 = .ok (.invokevirtual 198, 3) := by decide +kernel
theorem d_MO_recover_44 : decode b_MO_recover 44 = .ok (.istore_n 1, 1) := by decide +kernel
theorem d_MO_recover_45 : decode b_MO_recover 45 = .ok (.aload_n 0, 1) := by decide +kernel
theorem d_MO_recover_46 : decode b_MO_recover 46 = .ok (.iconst 1, 1) := by decide +kernel
theorem d_MO_recover_47 : decode b_MO_recover 47 = .ok (.invokevirtual 198, 3) := by decide +kernel
theorem d_MO_recover_50 : decode b_MO_recover 50 = .ok (.istore_n 2, 1) := by decide +kernel
theorem d_MO_recover_51 : decode b_MO_recover 51 = .ok (.iload_n 1, 1) := by decide +kernel
theorem d_MO_recover_52 : decode b_MO_recover 52 = .ok (.ifCond .ne 15, 3) := by decide +kernel
theorem d_MO_recover_55 : decode b_MO_recover 55 = .ok (.iload_n 2, 1) := by decide +kernel
theorem d_MO_recover_56 : decode b_MO_recover 56 = .ok (.ifCond .ne 11, 3) := by decide +kernel
theorem d_MO_recover_59 : decode b_MO_recover 59 = .ok (.aload_n 0, 1) := by decide +kernel
theorem d_MO_recover_60 : decode b_MO_recover 60 = .ok (.iconst 0, 1) := by decide +kernel
theorem d_MO_recover_61 : decode b_MO_recover 61 = .ok (.putfield 82, 3) := by decide +kernel
theorem d_MO_recover_64 : decode b_MO_recover 64 = .ok (.bipush (-3), 2) := by decide +kernel
theorem d_MO_recover_66 : decode b_MO_recover 66 = .ok (.ireturn, 1) := by decide +kernel
theorem d_MO_recover_67 : decode b_MO_recover 67 = .ok (.iload_n 1, 1) := by decide +kernel
theorem d_MO_recover_68 : decode b_MO_recover 68 = .ok (.ifCond .eq 30, 3) := by decide +kernel
theorem d_MO_recover_71 : decode b_MO_recover 71 = .ok (.iload_n 2, 1) := by decide +kernel
theorem d_MO_recover_72 : decode b_MO_recover 72 = .ok (.ifCond .eq 26, 3) := by decide +kernel
theorem d_MO_recover_75 : decode b_MO_recover 75 = .ok (.aload_n 0, 1) := by decide +kernel
theorem d_MO_recover_76 : decode b_MO_recover 76 = .ok (.iconst 0, 1) := by decide +kernel
theorem d_MO_recover_77 : decode b_MO_recover 77 = .ok (.iconst 1, 1) := by decide +kernel
theorem d_MO_recover_78 : decode b_MO_recover 78 = .ok (.invokevirtual 60, 3) := by decide +kernel
theorem d_MO_recover_81 : decode b_MO_recover 81 = .ok (.aload_n 0, 1) := by decide +kernel
theorem d_MO_recover_82 : decode b_MO_recover 82 = .ok (.iconst 1, 1) := by decide +kernel
theorem d_MO_recover_83 : decode b_MO_recover 83 = .ok (.iconst 1, 1) := by decide +kernel
theorem d_MO_recover_84 : decode b_MO_recover 84 = .ok (.invokevirtual 60, 3) := by decide +kernel
theorem d_MO_recover_87 : decode b_MO_recover 87 = .ok (.if_icmp .le 7, 3) := by decide +kernel
theorem d_MO_recover_90 : decode b_MO_recover 90 = .ok (.iconst 0, 1) := by decide +kernel
theorem d_MO_recover_91 : decode b_MO_recover 91 = .ok (.goto 16, 3) := by decide +kernel
theorem d_MO_recover_94 : decode b_MO_recover 94 = .ok (.iconst 1, 1) := by decide +kernel
theorem d_MO_recover_95 : decode b_MO_recover 95 = .ok (.goto 12, 3) := by decide +kernel
theorem d_MO_recover_98 : decode b_MO_recover 98 = .ok (.iload_n 1, 1) := by decide +kernel
theorem d_MO_recover_99 : decode b_MO_recover 99 = .ok (.ifCond .eq 7, 3) := by decide +kernel
theorem d_MO_recover_102 : decode b_MO_recover 102 = .ok (.iconst 0, 1) := by decide +kernel
theorem d_MO_recover_103 : decode b_MO_recover 103 = .ok (.goto 4, 3) := by decide +kernel
theorem d_MO_recover_106 : decode b_MO_recover 106 = .ok (.iconst 1, 1) := by decide +kernel
theorem d_MO_recover_107 : decode b_MO_recover 107 = .ok (.istore_n 3, 1) := by decide +kernel
theorem d_MO_recover_108 : decode b_MO_recover 108 = .ok (.aload_n 0, 1) := by decide +kernel
theorem d_MO_recover_109 : decode b_MO_recover 109 = .ok (.aload_n 0, 1) := by decide +kernel
theorem d_MO_recover_110 : decode b_MO_recover 110 = .ok (.iload_n 3, 1) := by decide +kernel
theorem d_MO_recover_111 : decode b_MO_recover 111 = .ok (.invokevirtual 198, 3) := by decide +kernel
theorem d_MO_recover_114 : decode b_MO_recover 114 = .ok (.putfield 157, 3) := by decide +kernel
theorem d_MO_recover_117 : decode b_MO_recover 117 = .ok (.aload_n 0, 1) := by decide +kernel
theorem d_MO_recover_118 : decode b_MO_recover 118 = .ok (.aload_n 0, 1) := by decide +kernel
theorem d_MO_recover_119 : decode b_MO_recover 119 = .ok (.iload_n 3, 1) := by decide +kernel
theorem d_MO_recover_120 : decode b_MO_recover 120 = .ok (.iconst 1, 1) := by decide +kernel
theorem d_MO_recover_121 : decode b_MO_recover 121 = .ok (.invokevirtual 60, 3) := by decide +kernel
theorem d_MO_recover_124 : decode b_MO_recover 124 = .ok (.putfield 154, 3) := by decide +kernel
theorem d_MO_recover_127 : decode b_MO_recover 127 = .ok (.iconst 0, 1) := by decide +kernel
theorem d_MO_recover_128 : decode b_MO_recover 128 = .ok (.istore 4, 2) := by decide +kernel
theorem d_MO_recover_130 : decode b_MO_recover 130 = .ok (.iload 4, 2) := by decide +kernel
theorem d_MO_recover_132 : decode b_MO_recover 132 = .ok (.sipush 200, 3) := by decide +kernel
theorem d_MO_recover_135 : decode b_MO_recover 135 = .ok (.if_icmp .ge 23, 3) := by decide +kernel
theorem d_MO_recover_138 : decode b_MO_recover 138 = .ok (.aload_n 0, 1) := by decide +kernel
theorem d_MO_recover_139 : decode b_MO_recover 139 = .ok (.getfield 28, 3) := by decide +kernel
theorem d_MO_recover_142 : decode b_MO_recover 142 = .ok (.iload 4, 2) := by decide +kernel
theorem d_MO_recover_144 : decode b_MO_recover 144 = .ok (.aload_n 0, 1) := by decide +kernel
theorem d_MO_recover_145 : decode b_MO_recover 145 = .ok (.getfield 32, 3) := by decide +kernel
theorem d_MO_recover_148 : decode b_MO_recover 148 = .ok (.iload 4, 2) := by decide +kernel
theorem d_MO_recover_150 : decode b_MO_recover 150 = .ok (.baload, 1) := by decide +kernel
theorem d_MO_recover_151 : decode b_MO_recover 151 = .ok (.bastore, 1) := by decide +kernel
theorem d_MO_recover_152 : decode b_MO_recover 152 = .ok (.iinc 4 1, 3) := by decide +kernel
theorem d_MO_recover_155 : decode b_MO_recover 155 = .ok (.goto (-25), 3) := by decide +kernel
theorem d_MO_recover_158 : decode b_MO_recover 158 = .ok (.aload_n 0, 1) := by decide +kernel
theorem d_MO_recover_159 : decode b_MO_recover 159 = .ok (.invokevirtual 201, 3) := by decide +kernel
theorem d_MO_recover_162 : decode b_MO_recover 162 = .ok (.ireturn, 1) := by decide +kernel
theorem d_MO_size_0 : decode b_MO_size 0 = .ok (.aload_n 0, 1) := by decide +kernel
theorem d_MO_size_1 : decode b_MO_size 1 = .ok (.iconst 0, 1) := by decide +kernel
theorem d_MO_size_2 : decode b_MO_size 2 = .ok (.putfield 53, 3) := by decide +kernel
theorem d_MO_size_5 : decode b_MO_size 5 = .ok (.aload_n 0, 1) := by decide +kernel
theorem d_MO_size_6 : decode b_MO_size 6 = .ok (.getfield 157, 3) := by decide +kernel
theorem d_MO_size_9 : decode b_MO_size 9 = .ok (.ifCond .eq 10, 3) := by decide +kernel
theorem d_MO_size_12 : decode b_MO_size 12 = .ok (.aload_n 0, 1) := by decide +kernel
theorem d_MO_size_13 : decode b_MO_size 13 = .ok (.invokevirtual 201, 3) := by decide +kernel
theorem d_MO_size_16 : decode b_MO_size 16 = .ok (.goto 4, 3) := by decide +kernel
theorem d_MO_size_19 : decode b_MO_size 19 = .ok (.iconst 0, 1) := by decide +kernel
theorem d_MO_size_20 : decode b_MO_size 20 = .ok (.ireturn, 1) := by decide +kernel
theorem d_MO_run_0 : decode b_MO_run 0 = .ok (.aload_n 0, 1) := by decide +kernel
theorem d_MO_run_1 : decode b_MO_run 1 = .ok (.aload_n 0, 1) := by decide +kernel
theorem d_MO_run_2 : decode b_MO_run 2 = .ok (.getfield 157, 3) := by decide +kernel
theorem d_MO_run_5 : decode b_MO_run 5 = .ok (.ifCond .ne 7, 3) := by decide +kernel
theorem d_MO_run_8 : decode b_MO_run 8 = .ok (.iconst 1, 1) := by decide +kernel
theorem d_MO_run_9 : decode b_MO_run 9 = .ok (.goto 29, 3) := by decide +kernel
theorem d_MO_run_12 : decode b_MO_run 12 = .ok (.iload_n 1, 1) := by decide +kernel
theorem d_MO_run_13 : decode b_MO_run 13 = .ok (.ifCond .lt 20, 3) := by decide +kernel
theorem d_MO_run_16 : decode b_MO_run 16 = .ok (.iload_n 1, 1) := by decide +kernel
theorem d_MO_run_17 : decode b_MO_run 17 = .ok (.aload_n 0, 1) := by decide +kernel
theorem d_MO_run_18 : decode b_MO_run 18 = .ok (.getfield 82, 3) := by decide +kernel
theorem d_MO_run_21 : decode b_MO_run 21 = .ok (.if_icmp .ge 12, 3) := by decide +kernel
theorem d_MO_run_24 : decode b_MO_run 24 = .ok (.iload_n 2, 1) := by decide +kernel
theorem d_MO_run_25 : decode b_MO_run 25 = .ok (.iconst 0, 1) := by decide +kernel
theorem d_MO_run_26 : decode b_MO_run 26 = .ok (.iconst 5, 1) := by decide +kernel
theorem d_MO_run_27 : decode b_MO_run 27 = .ok (.invokestatic 163, 3) := by decide +kernel
theorem d_MO_run_30 : decode b_MO_run 30 = .ok (.ifCond .ne 7, 3) := by decide +kernel
theorem d_MO_run_33 : decode b_MO_run 33 = .ok (.iconst 2, 1) := by decide +kernel
theorem d_MO_run_34 : decode b_MO_run 34 = .ok (.goto 4, 3) := by decide +kernel
theorem d_MO_run_37 : decode b_MO_run 37 = .ok (.iconst 0, 1) := by decide +kernel
theorem d_MO_run_38 : decode b_MO_run 38 = .ok (.putfield 53, 3) := by decide +kernel
theorem d_MO_run_41 : decode b_MO_run 41 = .ok (.aload_n 0, 1) := by decide +kernel
theorem d_MO_run_42 : decode b_MO_run 42 = .ok (.getfield 53, 3) := by decide +kernel
theorem d_MO_run_45 : decode b_MO_run 45 = .ok (.ifCond .le 5, 3) := by decide +kernel
theorem d_MO_run_48 : decode b_MO_run 48 = .ok (.iconst 0, 1) := by decide +kernel
theorem d_MO_run_49 : decode b_MO_run 49 = .ok (.ireturn, 1) := by decide +kernel
theorem d_MO_run_50 : decode b_MO_run 50 = .ok (.iload_n 2, 1) := by decide +kernel
theorem d_MO_run_51 : decode b_MO_run 51 = .ok (.iconst 3, 1) := by decide +kernel
theorem d_MO_run_52 : decode b_MO_run 52 = .ok (.if_icmp .ge 37, 3) := by decide +kernel
theorem d_MO_run_55 : decode b_MO_run 55 = .ok (.iload_n 2, 1) := by decide +kernel
theorem d_MO_run_56 : decode b_MO_run 56 = .ok (.ifCond .ne 12, 3) := by decide +kernel
theorem d_MO_run_59 : decode b_MO_run 59 = .ok (.aload_n 0, 1) := by decide +kernel
theorem d_MO_run_60 : decode b_MO_run 60 = .ok (.getfield 16, 3) := by decide +kernel
theorem d_MO_run_63 : decode b_MO_run 63 = .ok (.iload_n 1, 1) := by decide +kernel
theorem d_MO_run_64 : decode b_MO_run 64 = .ok (.iaload, 1) := by decide +kernel
theorem d_MO_run_65 : decode b_MO_run 65 = .ok (.goto 23, 3) := by decide +kernel
theorem d_MO_run_68 : decode b_MO_run 68 = .ok (.iload_n 2, 1) := by decide +kernel
theorem d_MO_run_69 : decode b_MO_run 69 = .ok (.iconst 1, 1) := by decide +kernel
theorem d_MO_run_70 : decode b_MO_run 70 = .ok (.if_icmp .ne 12, 3) := by decide +kernel
theorem d_MO_run_73 : decode b_MO_run 73 = .ok (.aload_n 0, 1) := by decide +kernel
end
section
theorem d_MO_run_74 : decode b_MO_run 74 = .ok (.getfield 19, 3) := by decide +kernel
theorem d_MO_run_77 : decode b_MO_run 77 = .ok (.iload_n 1, 1) := by decide +kernel
theorem d_MO_run_78 : decode b_MO_run 78 = .ok (.iaload, 1) := by decide +kernel
theorem d_MO_run_79 : decode b_MO_run 79 = .ok (.goto 9, 3) := by decide +kernel
theorem d_MO_run_82 : decode b_MO_run 82 = .ok (.aload_n 0, 1) := by decide +kernel
theorem d_MO_run_83 : decode b_MO_run 83 = .ok (.getfield 22, 3) := by decide +kernel
theorem d_MO_run_86 : decode b_MO_run 86 = .ok (.iload_n 1, 1) := by decide +kernel
theorem d_MO_run_87 : decode b_MO_run 87 = .ok (.iaload, 1) := by decide +kernel
theorem d_MO_run_88 : decode b_MO_run 88 = .ok (.ireturn, 1) := by decide +kernel
theorem d_MO_run_89 : decode b_MO_run 89 = .ok (.iload_n 2, 1) := by decide +kernel
theorem d_MO_run_90 : decode b_MO_run 90 = .ok (.iconst 3, 1) := by decide +kernel
theorem d_MO_run_91 : decode b_MO_run 91 = .ok (.if_icmp .ne 12, 3) := by decide +kernel
theorem d_MO_run_94 : decode b_MO_run 94 = .ok (.aload_n 0, 1) := by decide +kernel
theorem d_MO_run_95 : decode b_MO_run 95 = .ok (.getfield 25, 3) := by decide +kernel
theorem d_MO_run_98 : decode b_MO_run 98 = .ok (.iload_n 1, 1) := by decide +kernel
theorem d_MO_run_99 : decode b_MO_run 99 = .ok (.iaload, 1) := by decide +kernel
theorem d_MO_run_100 : decode b_MO_run 100 = .ok (.goto 32, 3) := by decide +kernel
theorem d_MO_run_103 : decode b_MO_run 103 = .ok (.iload_n 2, 1) := by decide +kernel
theorem d_MO_run_104 : decode b_MO_run 104 = .ok (.iconst 4, 1) := by decide +kernel
theorem d_MO_run_105 : decode b_MO_run 105 = .ok (.if_icmp .ne 22, 3) := by decide +kernel
theorem d_MO_run_108 : decode b_MO_run 108 = .ok (.aload_n 0, 1) := by decide +kernel
theorem d_MO_run_109 : decode b_MO_run 109 = .ok (.aload_n 0, 1) := by decide +kernel
theorem d_MO_run_110 : decode b_MO_run 110 = .ok (.getfield 19, 3) := by decide +kernel
theorem d_MO_run_113 : decode b_MO_run 113 = .ok (.iload_n 1, 1) := by decide +kernel
theorem d_MO_run_114 : decode b_MO_run 114 = .ok (.iaload, 1) := by decide +kernel
theorem d_MO_run_115 : decode b_MO_run 115 = .ok (.aload_n 0, 1) := by decide +kernel
theorem d_MO_run_116 : decode b_MO_run 116 = .ok (.getfield 22, 3) := by decide +kernel
theorem d_MO_run_119 : decode b_MO_run 119 = .ok (.iload_n 1, 1) := by decide +kernel
theorem d_MO_run_120 : decode b_MO_run 120 = .ok (.iaload, 1) := by decide +kernel
theorem d_MO_run_121 : decode b_MO_run 121 = .ok (.invokevirtual 85, 3) := by decide +kernel
theorem d_MO_run_124 : decode b_MO_run 124 = .ok (.goto 8, 3) := by decide +kernel
theorem d_MO_run_127 : decode b_MO_run 127 = .ok (.aload_n 0, 1) := by decide +kernel
theorem d_MO_run_128 : decode b_MO_run 128 = .ok (.iload_n 1, 1) := by decide +kernel
theorem d_MO_run_129 : decode b_MO_run 129 = .ok (.invokevirtual 182, 3) := by decide +kernel
theorem d_MO_run_132 : decode b_MO_run 132 = .ok (.ireturn, 1) := by decide +kernel
theorem d_MO_about_0 : decode b_MO_about 0 = .ok (.aload_n 0, 1) := by decide +kernel
theorem d_MO_about_1 : decode b_MO_about 1 = .ok (.iload_n 1, 1) := by decide +kernel
theorem d_MO_about_2 : decode b_MO_about 2 = .ok (.iconst 0, 1) := by decide +kernel
theorem d_MO_about_3 : decode b_MO_about 3 = .ok (.bipush 6, 2) := by decide +kernel
theorem d_MO_about_5 : decode b_MO_about 5 = .ok (.invokestatic 163, 3) := by decide +kernel
theorem d_MO_about_8 : decode b_MO_about 8 = .ok (.ifCond .eq 7, 3) := by decide +kernel
theorem d_MO_about_11 : decode b_MO_about 11 = .ok (.iconst 0, 1) := by decide +kernel
theorem d_MO_about_12 : decode b_MO_about 12 = .ok (.goto 4, 3) := by decide +kernel
theorem d_MO_about_15 : decode b_MO_about 15 = .ok (.iconst 1, 1) := by decide +kernel
theorem d_MO_about_16 : decode b_MO_about 16 = .ok (.putfield 53, 3) := by decide +kernel
theorem d_MO_about_19 : decode b_MO_about 19 = .ok (.aload_n 0, 1) := by decide +kernel
theorem d_MO_about_20 : decode b_MO_about 20 = .ok (.getfield 53, 3) := by decide +kernel
theorem d_MO_about_23 : decode b_MO_about 23 = .ok (.ifCond .le 5, 3) := by decide +kernel
theorem d_MO_about_26 : decode b_MO_about 26 = .ok (.iconst 0, 1) := by decide +kernel
theorem d_MO_about_27 : decode b_MO_about 27 = .ok (.ireturn, 1) := by decide +kernel
theorem d_MO_about_28 : decode b_MO_about 28 = .ok (.iload_n 1, 1) := by decide +kernel
theorem d_MO_about_29 : decode b_MO_about 29 = .ok (.iconst 4, 1) := by decide +kernel
theorem d_MO_about_30 : decode b_MO_about 30 = .ok (.if_icmp .le 28, 3) := by decide +kernel
theorem d_MO_about_33 : decode b_MO_about 33 = .ok (.iload_n 1, 1) := by decide +kernel
theorem d_MO_about_34 : decode b_MO_about 34 = .ok (.iconst 5, 1) := by decide +kernel
theorem d_MO_about_35 : decode b_MO_about 35 = .ok (.if_icmp .ne 10, 3) := by decide +kernel
theorem d_MO_about_38 : decode b_MO_about 38 = .ok (.aload_n 0, 1) := by decide +kernel
theorem d_MO_about_39 : decode b_MO_about 39 = .ok (.getfield 71, 3) := by decide +kernel
theorem d_MO_about_42 : decode b_MO_about 42 = .ok (.goto 15, 3) := by decide +kernel
theorem d_MO_about_45 : decode b_MO_about 45 = .ok (.aload_n 0, 1) := by decide +kernel
theorem d_MO_about_46 : decode b_MO_about 46 = .ok (.getfield 157, 3) := by decide +kernel
theorem d_MO_about_49 : decode b_MO_about 49 = .ok (.ifCond .eq 7, 3) := by decide +kernel
theorem d_MO_about_52 : decode b_MO_about 52 = .ok (.iconst 0, 1) := by decide +kernel
theorem d_MO_about_53 : decode b_MO_about 53 = .ok (.goto 4, 3) := by decide +kernel
theorem d_MO_about_56 : decode b_MO_about 56 = .ok (.iconst 1, 1) := by decide +kernel
theorem d_MO_about_57 : decode b_MO_about 57 = .ok (.ireturn, 1) := by decide +kernel
theorem d_MO_about_58 : decode b_MO_about 58 = .ok (.aload_n 0, 1) := by decide +kernel
theorem d_MO_about_59 : decode b_MO_about 59 = .ok (.getfield 157, 3) := by decide +kernel
theorem d_MO_about_62 : decode b_MO_about 62 = .ok (.ifCond .ne 5, 3) := by decide +kernel
theorem d_MO_about_65 : decode b_MO_about 65 = .ok (.iconst 0, 1) := by decide +kernel
theorem d_MO_about_66 : decode b_MO_about 66 = .ok (.ireturn, 1) := by decide +kernel
theorem d_MO_about_67 : decode b_MO_about 67 = .ok (.iload_n 1, 1) := by decide +kernel
theorem d_MO_about_68 : decode b_MO_about 68 = .ok (.ifCond .ne 10, 3) := by decide +kernel
theorem d_MO_about_71 : decode b_MO_about 71 = .ok (.aload_n 0, 1) := by decide +kernel
theorem d_MO_about_72 : decode b_MO_about 72 = .ok (.getfield 82, 3) := by decide +kernel
theorem d_MO_about_75 : decode b_MO_about 75 = .ok (.goto 43, 3) := by decide +kernel
theorem d_MO_about_78 : decode b_MO_about 78 = .ok (.iload_n 1, 1) := by decide +kernel
theorem d_MO_about_79 : decode b_MO_about 79 = .ok (.iconst 1, 1) := by decide +kernel
theorem d_MO_about_80 : decode b_MO_about 80 = .ok (.if_icmp .ne 10, 3) := by decide +kernel
theorem d_MO_about_83 : decode b_MO_about 83 = .ok (.aload_n 0, 1) := by decide +kernel
theorem d_MO_about_84 : decode b_MO_about 84 = .ok (.getfield 101, 3) := by decide +kernel
theorem d_MO_about_87 : decode b_MO_about 87 = .ok (.goto 31, 3) := by decide +kernel
theorem d_MO_about_90 : decode b_MO_about 90 = .ok (.iload_n 1, 1) := by decide +kernel
theorem d_MO_about_91 : decode b_MO_about 91 = .ok (.iconst 2, 1) := by decide +kernel
theorem d_MO_about_92 : decode b_MO_about 92 = .ok (.if_icmp .ne 10, 3) := by decide +kernel
theorem d_MO_about_95 : decode b_MO_about 95 = .ok (.aload_n 0, 1) := by decide +kernel
theorem d_MO_about_96 : decode b_MO_about 96 = .ok (.invokevirtual 98, 3) := by decide +kernel
theorem d_MO_about_99 : decode b_MO_about 99 = .ok (.goto 19, 3) := by decide +kernel
theorem d_MO_about_102 : decode b_MO_about 102 = .ok (.iload_n 1, 1) := by decide +kernel
theorem d_MO_about_103 : decode b_MO_about 103 = .ok (.iconst 3, 1) := by decide +kernel
theorem d_MO_about_104 : decode b_MO_about 104 = .ok (.if_icmp .ne 10, 3) := by decide +kernel
theorem d_MO_about_107 : decode b_MO_about 107 = .ok (.aload_n 0, 1) := by decide +kernel
theorem d_MO_about_108 : decode b_MO_about 108 = .ok (.getfield 154, 3) := by decide +kernel
theorem d_MO_about_111 : decode b_MO_about 111 = .ok (.goto 7, 3) := by decide +kernel
theorem d_MO_about_114 : decode b_MO_about 114 = .ok (.aload_n 0, 1) := by decide +kernel
theorem d_MO_about_115 : decode b_MO_about 115 = .ok (.invokevirtual 144, 3) := by decide +kernel
theorem d_MO_about_118 : decode b_MO_about 118 = .ok (.ireturn, 1) := by decide +kernel
theorem d_MO_isWord_0 : decode b_MO_isWord 0 = .ok (.aload_n 0, 1) := by decide +kernel
theorem d_MO_isWord_1 : decode b_MO_isWord 1 = .ok (.getfield 167, 3) := by decide +kernel
theorem d_MO_isWord_4 : decode b_MO_isWord 4 = .ok (.ifCond .eq 35, 3) := by decide +kernel
theorem d_MO_isWord_7 : decode b_MO_isWord 7 = .ok (.iload_n 1, 1) := by decide +kernel
theorem d_MO_isWord_8 : decode b_MO_isWord 8 = .ok (.iconst 0, 1) := by decide +kernel
theorem d_MO_isWord_9 : decode b_MO_isWord 9 = .ok (.aload_n 0, 1) := by decide +kernel
theorem d_MO_isWord_10 : decode b_MO_isWord 10 = .ok (.getfield 91, 3) := by decide +kernel
theorem d_MO_isWord_13 : decode b_MO_isWord 13 = .ok (.iconst 1, 1) := by decide +kernel
theorem d_MO_isWord_14 : decode b_MO_isWord 14 = .ok (.isub, 1) := by decide +kernel
theorem d_MO_isWord_15 : decode b_MO_isWord 15 = .ok (.invokestatic 163, 3) := by decide +kernel
theorem d_MO_isWord_18 : decode b_MO_isWord 18 = .ok (.ifCond .eq 21, 3) := by decide +kernel
theorem d_MO_isWord_21 : decode b_MO_isWord 21 = .ok (.iload_n 2, 1) := by decide +kernel
theorem d_MO_isWord_22 : decode b_MO_isWord 22 = .ok (.iconst 0, 1) := by decide +kernel
theorem d_MO_isWord_23 : decode b_MO_isWord 23 = .ok (.aload_n 0, 1) := by decide +kernel
theorem d_MO_isWord_24 : decode b_MO_isWord 24 = .ok (.getfield 57, 3) := by decide +kernel
theorem d_MO_isWord_27 : decode b_MO_isWord 27 = .ok (.iconst 1, 1) := by decide +kernel
theorem d_MO_isWord_28 : decode b_MO_isWord 28 = .ok (.isub, 1) := by decide +kernel
theorem d_MO_isWord_29 : decode b_MO_isWord 29 = .ok (.invokestatic 163, 3) := by decide +kernel
theorem d_MO_isWord_32 : decode b_MO_isWord 32 = .ok (.ifCond .eq 7, 3) := by decide +kernel
theorem d_MO_isWord_35 : decode b_MO_isWord 35 = .ok (.iconst 1, 1) := by decide +kernel
theorem d_MO_isWord_36 : decode b_MO_isWord 36 = .ok (.goto 4, 3) := by decide +kernel
theorem d_MO_isWord_39 : decode b_MO_isWord 39 = .ok (.iconst 0, 1) := by decide +kernel
theorem d_MO_isWord_40 : decode b_MO_isWord 40 = .ok (.ireturn, 1) := by decide +kernel
theorem d_MO_word_0 : decode b_MO_word 0 = .ok (.aload_n 0, 1) := by decide +kernel
theorem d_MO_word_1 : decode b_MO_word 1 = .ok (.aload_n 0, 1) := by decide +kernel
theorem d_MO_word_2 : decode b_MO_word 2 = .ok (.iload_n 1, 1) := by decide +kernel
theorem d_MO_word_3 : decode b_MO_word 3 = .ok (.iload_n 2, 1) := by decide +kernel
theorem d_MO_word_4 : decode b_MO_word 4 = .ok (.invokevirtual 204, 3) := by decide +kernel
theorem d_MO_word_7 : decode b_MO_word 7 = .ok (.ifCond .eq 7, 3) := by decide +kernel
theorem d_MO_word_10 : decode b_MO_word 10 = .ok (.iconst 0, 1) := by decide +kernel
theorem d_MO_word_11 : decode b_MO_word 11 = .ok (.goto 4, 3) := by decide +kernel
theorem d_MO_word_14 : decode b_MO_word 14 = .ok (.iconst 1, 1) := by decide +kernel
theorem d_MO_word_15 : decode b_MO_word 15 = .ok (.putfield 53, 3) := by decide +kernel
theorem d_MO_word_18 : decode b_MO_word 18 = .ok (.aload_n 0, 1) := by decide +kernel
theorem d_MO_word_19 : decode b_MO_word 19 = .ok (.getfield 53, 3) := by decide +kernel
theorem d_MO_word_22 : decode b_MO_word 22 = .ok (.ifCond .le 7, 3) := by decide +kernel
theorem d_MO_word_25 : decode b_MO_word 25 = .ok (.iconst 0, 1) := by decide +kernel
theorem d_MO_word_26 : decode b_MO_word 26 = .ok (.goto 9, 3) := by decide +kernel
theorem d_MO_word_29 : decode b_MO_word 29 = .ok (.aload_n 0, 1) := by decide +kernel
theorem d_MO_word_30 : decode b_MO_word 30 = .ok (.iload_n 1, 1) := by decide +kernel
theorem d_MO_word_31 : decode b_MO_word 31 = .ok (.iload_n 2, 1) := by decide +kernel
theorem d_MO_word_32 : decode b_MO_word 32 = .ok (.invokevirtual 60, 3) := by decide +kernel
theorem d_MO_word_35 : decode b_MO_word 35 = .ok (.ireturn, 1) := by decide +kernel
theorem d_MO_spoil_0 : decode b_MO_spoil 0 = .ok (.aload_n 0, 1) := by decide +kernel
theorem d_MO_spoil_1 : decode b_MO_spoil 1 = .ok (.aload_n 0, 1) := by decide +kernel
theorem d_MO_spoil_2 : decode b_MO_spoil 2 = .ok (.getfield 157, 3) := by decide +kernel
theorem d_MO_spoil_5 : decode b_MO_spoil 5 = .ok (.ifCond .eq 7, 3) := by decide +kernel
theorem d_MO_spoil_8 : decode b_MO_spoil 8 = .ok (.iconst 1, 1) := by decide +kernel
theorem d_MO_spoil_9 : decode b_MO_spoil 9 = .ok (.goto 17, 3) := by decide +kernel
theorem d_MO_spoil_12 : decode b_MO_spoil 12 = .ok (.aload_n 0, 1) := by decide +kernel
theorem d_MO_spoil_13 : decode b_MO_spoil 13 = .ok (.iload_n 1, 1) := by decide +kernel
theorem d_MO_spoil_14 : decode b_MO_spoil 14 = .ok (.iload_n 2, 1) := by decide +kernel
theorem d_MO_spoil_15 : decode b_MO_spoil 15 = .ok (.invokevirtual 204, 3) := by decide +kernel
theorem d_MO_spoil_18 : decode b_MO_spoil 18 = .ok (.ifCond .ne 7, 3) := by decide +kernel
theorem d_MO_spoil_21 : decode b_MO_spoil 21 = .ok (.iconst 2, 1) := by decide +kernel
theorem d_MO_spoil_22 : decode b_MO_spoil 22 = .ok (.goto 4, 3) := by decide +kernel
theorem d_MO_spoil_25 : decode b_MO_spoil 25 = .ok (.iconst 0, 1) := by decide +kernel
theorem d_MO_spoil_26 : decode b_MO_spoil 26 = .ok (.putfield 53, 3) := by decide +kernel
theorem d_MO_spoil_29 : decode b_MO_spoil 29 = .ok (.aload_n 0, 1) := by decide +kernel
theorem d_MO_spoil_30 : decode b_MO_spoil 30 = .ok (.getfield 53, 3) := by decide +kernel
theorem d_MO_spoil_33 : decode b_MO_spoil 33 = .ok (.ifCond .ne 27, 3) := by decide +kernel
theorem d_MO_spoil_36 : decode b_MO_spoil 36 = .ok (.aload_n 0, 1) := by decide +kernel
theorem d_MO_spoil_37 : decode b_MO_spoil 37 = .ok (.getfield 7, 3) := by decide +kernel
theorem d_MO_spoil_40 : decode b_MO_spoil 40 = .ok (.bipush 40, 2) := by decide +kernel
theorem d_MO_spoil_42 : decode b_MO_spoil 42 = .ok (.iload_n 1, 1) := by decide +kernel
theorem d_MO_spoil_43 : decode b_MO_spoil 43 = .ok (.imul, 1) := by decide +kernel
theorem d_MO_spoil_44 : decode b_MO_spoil 44 = .ok (.iload_n 2, 1) := by decide +kernel
theorem d_MO_spoil_45 : decode b_MO_spoil 45 = .ok (.iadd, 1) := by decide +kernel
theorem d_MO_spoil_46 : decode b_MO_spoil 46 = .ok (.aload_n 0, 1) := by decide +kernel
theorem d_MO_spoil_47 : decode b_MO_spoil 47 = .ok (.getfield 7, 3) := by decide +kernel
theorem d_MO_spoil_50 : decode b_MO_spoil 50 = .ok (.bipush 40, 2) := by decide +kernel
theorem d_MO_spoil_52 : decode b_MO_spoil 52 = .ok (.iload_n 1, 1) := by decide +kernel
theorem d_MO_spoil_53 : decode b_MO_spoil 53 = .ok (.imul, 1) := by decide +kernel
theorem d_MO_spoil_54 : decode b_MO_spoil 54 = .ok (.iload_n 2, 1) := by decide +kernel
theorem d_MO_spoil_55 : decode b_MO_spoil 55 = .ok (.iadd, 1) := by decide +kernel
theorem d_MO_spoil_56 : decode b_MO_spoil 56 = .ok (.iaload, 1) := by decide +kernel
theorem d_MO_spoil_57 : decode b_MO_spoil 57 = .ok (.iload_n 3, 1) := by decide +kernel
theorem d_MO_spoil_58 : decode b_MO_spoil 58 = .ok (.ixor, 1) := by decide +kernel
theorem d_MO_spoil_59 : decode b_MO_spoil 59 = .ok (.iastore, 1) := by decide +kernel
theorem d_MO_spoil_60 : decode b_MO_spoil 60 = .ok (.return_, 1) := by decide +kernel
end
section
/-! The walk's judgement over worlds and lists of locals alone: heap, written places and slots are hidden. -/
abbrev gX := va_G × ClassId × ClassId × ClassId
def gT (X : gX) : List (ClassId × FieldType) := [(X.2.1, .int), (X.2.2.1, .boolean), (X.2.2.2, .long)]
abbrev gE := ((Program × Launch × Env × Room) × (State × MethodId × Array Value × List Frame × Method × Code)) × ((State → Prop) × (Nat → Prop) × Heap × Nat)
def gW (X : gX) (E : gE) (cells slots : Nat) (ws : va_W) (lv : List (Nat × Value)) (pc : Nat) (st : List Value) : Prop := match E with
  | (((p, l, e, R), (s, m, args, below, meth, c)), (Q, A, H0, nL)) => ∀ (H : Heap) (locs : List Loc) (ls : Array Slot), va_P X.1 vwCl ws H → va_D A ws → va_S A H0 H locs → lv_has ls nL lv → W p l e R s m args below meth c H locs cells slots Q (F0 m pc ls st)
/-- what a walk stands on: the machine, the code, the words and the nest's words, the classes -/
def gC (X : gX) (E : gE) (cc : ByteArray) (nL0 : Nat) (own : String) : Prop := match E with
  | (((p, _, _, _), (s, m, args, _, _, c)), (_, A, H0, nL)) => (p.tables.exec = Jvm.exec ∧ c.code = cc ∧ c.maxLocals = nL ∧ s.vm.findClass own = some m.cls ∧ ∀ w ∈ gTs, w.before args s = true) ∧ va_K X.1 vwCl (gT X) s ∧ (∀ w ∈ gNl, va_Nw w s) ∧ (∀ q, H0.size ≤ q → A q) ∧ nL = nL0
/-- a place of a list -/
theorem gm {α : Type} {l : List α} {a : α} (i : Nat) (h : l[i]? = some a) : a ∈ l := List.mem_of_getElem? h
/-- locals in the order of their numbers -/
def lins : List (Nat × Value) → Nat → Value → List (Nat × Value)
  | [], i, v => [(i, v)]
  | (j, x) :: t, i, v => bif Nat.blt i j then (i, v) :: (j, x) :: t else (j, x) :: lins t i v
theorem lins_mem : ∀ (l : List (Nat × Value)) (i : Nat) (v : Value) (q : Nat × Value), q ∈ lins l i v → q = (i, v) ∨ q ∈ l
  | [], i, v, q, h => Or.inl (by simpa [lins] using h)
  | (j, x) :: t, i, v, q, h => by
    unfold lins at h
    cases hb : Nat.blt i j with
    | true =>
      rw [hb] at h
      rcases List.mem_cons.mp h with h | h
      · exact Or.inl h
      · exact Or.inr h
    | false =>
      rw [hb] at h
      rcases List.mem_cons.mp h with h | h
      · exact Or.inr (by rw [h]; exact List.mem_cons_self)
      · rcases lins_mem t i v q h with h | h
        · exact Or.inl h
        · exact Or.inr (List.mem_cons_of_mem _ h)
def lset (lv : List (Nat × Value)) (i : Nat) (v : Value) : List (Nat × Value) := lins (lv.filter (fun q => !(q.1 == i) && !(q.1 + 1 == i && q.2.category == 2))) i v
theorem lset_has {ls : Array Slot} {nL i : Nat} {v : Value} {lv lv' : List (Nat × Value)} (h : lv_has ls nL ((i, v) :: lv.filter (fun q => !(q.1 == i) && !(q.1 + 1 == i && q.2.category == 2)))) (e : lset lv i v = lv') : lv_has ls nL lv' := by
  subst e
  refine ⟨h.1, h.2.1, fun q hq => h.2.2 q ?_⟩
  rcases lins_mem _ _ _ _ hq with h | h
  · rw [h]; exact List.mem_cons_self
  · exact List.mem_cons_of_mem _ h
section GW
variable {X : gX} {E : gE} {cc : ByteArray} {nL0 : Nat} {own : String} {cells slots pc : Nat} {ws : va_W} {lv : List (Nat × Value)} {st : List Value}
theorem g_iconst (C : gC X E cc nL0 own) {n : Int} (v : Int32) (hdg : decode cc pc = .ok (.iconst n, 1)) (hv : Int32.ofInt n = v) (kk : gW X E cells slots ws lv (pc + 1) (.int v :: st)) : gW X E cells slots ws lv pc st := by
  obtain ⟨⟨⟨p, l, e, R⟩, s, m, args, below, meth, c⟩, Q, A, H0, nL⟩ := E
  obtain ⟨⟨hx, hb, hml, hown, hts⟩, hK, hN, hA, hn0⟩ := C
  intro H locs ls hP hD hS hl
  exact lv_iconst hx hb hdg hv (kk H locs ls hP hD hS hl)
theorem g_bipush (C : gC X E cc nL0 own) {n : Int} (v : Int32) (hdg : decode cc pc = .ok (.bipush n, 2)) (hv : (Int8.ofInt n).toInt32 = v) (kk : gW X E cells slots ws lv (pc + 2) (.int v :: st)) : gW X E cells slots ws lv pc st := by
  obtain ⟨⟨⟨p, l, e, R⟩, s, m, args, below, meth, c⟩, Q, A, H0, nL⟩ := E
  obtain ⟨⟨hx, hb, hml, hown, hts⟩, hK, hN, hA, hn0⟩ := C
  intro H locs ls hP hD hS hl
  exact lv_bipush hx hb hdg hv (kk H locs ls hP hD hS hl)
theorem g_sipush (C : gC X E cc nL0 own) {n : Int} (v : Int32) (hdg : decode cc pc = .ok (.sipush n, 3)) (hv : (Int16.ofInt n).toInt32 = v) (kk : gW X E cells slots ws lv (pc + 3) (.int v :: st)) : gW X E cells slots ws lv pc st := by
  obtain ⟨⟨⟨p, l, e, R⟩, s, m, args, below, meth, c⟩, Q, A, H0, nL⟩ := E
  obtain ⟨⟨hx, hb, hml, hown, hts⟩, hK, hN, hA, hn0⟩ := C
  intro H locs ls hP hD hS hl
  exact lv_sipush hx hb hdg hv (kk H locs ls hP hD hS hl)
theorem g_ldc (C : gC X E cc nL0 own) {index : Nat} (v : Int32) (hc : Jvm.Cond.constant own index v ∈ gTs) (hdg : decode cc pc = .ok (.ldc index, 2)) (kk : gW X E cells slots ws lv (pc + 2) (.int v :: st)) : gW X E cells slots ws lv pc st := by
  obtain ⟨⟨⟨p, l, e, R⟩, s, m, args, below, meth, c⟩, Q, A, H0, nL⟩ := E
  obtain ⟨⟨hx, hb, hml, hown, hts⟩, hK, hN, hA, hn0⟩ := C
  intro H locs ls hP hD hS hl
  exact lv_ldc hx hb hown (hts _ hc) hdg (kk H locs ls hP hD hS hl)
theorem g_iload_n (C : gC X E cc nL0 own) {k : Fin 4} {i : Nat} {x : Int32} (hdg : decode cc pc = .ok (.iload_n k, 1)) (hi : (k : Nat) = i) (j : Nat) (hj : lv[j]? = some (i, .int x)) (kk : gW X E cells slots ws lv (pc + 1) (.int x :: st)) : gW X E cells slots ws lv pc st := by
  obtain ⟨⟨⟨p, l, e, R⟩, s, m, args, below, meth, c⟩, Q, A, H0, nL⟩ := E
  obtain ⟨⟨hx, hb, hml, hown, hts⟩, hK, hN, hA, hn0⟩ := C
  intro H locs ls hP hD hS hl
  exact lv_iload_n hx hb hdg hi (lv_at hl j hj) (kk H locs ls hP hD hS hl)
theorem g_iload (C : gC X E cc nL0 own) {i : Nat} {x : Int32} (hdg : decode cc pc = .ok (.iload i, 2)) (j : Nat) (hj : lv[j]? = some (i, .int x)) (kk : gW X E cells slots ws lv (pc + 2) (.int x :: st)) : gW X E cells slots ws lv pc st := by
  obtain ⟨⟨⟨p, l, e, R⟩, s, m, args, below, meth, c⟩, Q, A, H0, nL⟩ := E
  obtain ⟨⟨hx, hb, hml, hown, hts⟩, hK, hN, hA, hn0⟩ := C
  intro H locs ls hP hD hS hl
  exact lv_iload hx hb hdg (lv_at hl j hj) (kk H locs ls hP hD hS hl)
theorem g_istore_n (C : gC X E cc nL0 own) {k : Fin 4} {i : Nat} {x : Int32} {lv2 : List (Nat × Value)} (hdg : decode cc pc = .ok (.istore_n k, 1)) (hi : (k : Nat) = i) (hn : i < nL0) (e2 : lset lv i (.int x) = lv2) (kk : gW X E cells slots ws lv2 (pc + 1) st) : gW X E cells slots ws lv pc (.int x :: st) := by
  obtain ⟨⟨⟨p, l, e, R⟩, s, m, args, below, meth, c⟩, Q, A, H0, nL⟩ := E
  obtain ⟨⟨hx, hb, hml, hown, hts⟩, hK, hN, hA, hn0⟩ := C
  intro H locs ls hP hD hS hl
  subst hn0
  exact lv_istore_n hx hb hdg hi hl hn rfl (fun ls2 hl2 => kk H locs ls2 hP hD hS (lset_has hl2 e2))
theorem g_istore (C : gC X E cc nL0 own) {i : Nat} {x : Int32} {lv2 : List (Nat × Value)} (hdg : decode cc pc = .ok (.istore i, 2)) (hn : i < nL0) (e2 : lset lv i (.int x) = lv2) (kk : gW X E cells slots ws lv2 (pc + 2) st) : gW X E cells slots ws lv pc (.int x :: st) := by
  obtain ⟨⟨⟨p, l, e, R⟩, s, m, args, below, meth, c⟩, Q, A, H0, nL⟩ := E
  obtain ⟨⟨hx, hb, hml, hown, hts⟩, hK, hN, hA, hn0⟩ := C
  intro H locs ls hP hD hS hl
  subst hn0
  exact lv_istore hx hb hdg hl hn rfl (fun ls2 hl2 => kk H locs ls2 hP hD hS (lset_has hl2 e2))
theorem g_aload_n (C : gC X E cc nL0 own) {k : Fin 4} {i : Nat} {x : Nat} (hdg : decode cc pc = .ok (.aload_n k, 1)) (hi : (k : Nat) = i) (j : Nat) (hj : lv[j]? = some (i, .ref x)) (kk : gW X E cells slots ws lv (pc + 1) (.ref x :: st)) : gW X E cells slots ws lv pc st := by
  obtain ⟨⟨⟨p, l, e, R⟩, s, m, args, below, meth, c⟩, Q, A, H0, nL⟩ := E
  obtain ⟨⟨hx, hb, hml, hown, hts⟩, hK, hN, hA, hn0⟩ := C
  intro H locs ls hP hD hS hl
  exact lv_aload_n hx hb hdg hi (lv_at hl j hj) (kk H locs ls hP hD hS hl)
theorem g_aload (C : gC X E cc nL0 own) {i : Nat} {x : Nat} (hdg : decode cc pc = .ok (.aload i, 2)) (j : Nat) (hj : lv[j]? = some (i, .ref x)) (kk : gW X E cells slots ws lv (pc + 2) (.ref x :: st)) : gW X E cells slots ws lv pc st := by
  obtain ⟨⟨⟨p, l, e, R⟩, s, m, args, below, meth, c⟩, Q, A, H0, nL⟩ := E
  obtain ⟨⟨hx, hb, hml, hown, hts⟩, hK, hN, hA, hn0⟩ := C
  intro H locs ls hP hD hS hl
  exact lv_aload hx hb hdg (lv_at hl j hj) (kk H locs ls hP hD hS hl)
theorem g_astore_n (C : gC X E cc nL0 own) {k : Fin 4} {i : Nat} {x : Nat} {lv2 : List (Nat × Value)} (hdg : decode cc pc = .ok (.astore_n k, 1)) (hi : (k : Nat) = i) (hn : i < nL0) (e2 : lset lv i (.ref x) = lv2) (kk : gW X E cells slots ws lv2 (pc + 1) st) : gW X E cells slots ws lv pc (.ref x :: st) := by
  obtain ⟨⟨⟨p, l, e, R⟩, s, m, args, below, meth, c⟩, Q, A, H0, nL⟩ := E
  obtain ⟨⟨hx, hb, hml, hown, hts⟩, hK, hN, hA, hn0⟩ := C
  intro H locs ls hP hD hS hl
  subst hn0
  exact lv_astore_n hx hb hdg hi hl hn rfl (fun ls2 hl2 => kk H locs ls2 hP hD hS (lset_has hl2 e2))
theorem g_astore (C : gC X E cc nL0 own) {i : Nat} {x : Nat} {lv2 : List (Nat × Value)} (hdg : decode cc pc = .ok (.astore i, 2)) (hn : i < nL0) (e2 : lset lv i (.ref x) = lv2) (kk : gW X E cells slots ws lv2 (pc + 2) st) : gW X E cells slots ws lv pc (.ref x :: st) := by
  obtain ⟨⟨⟨p, l, e, R⟩, s, m, args, below, meth, c⟩, Q, A, H0, nL⟩ := E
  obtain ⟨⟨hx, hb, hml, hown, hts⟩, hK, hN, hA, hn0⟩ := C
  intro H locs ls hP hD hS hl
  subst hn0
  exact lv_astore hx hb hdg hl hn rfl (fun ls2 hl2 => kk H locs ls2 hP hD hS (lset_has hl2 e2))
theorem g_iinc (C : gC X E cc nL0 own) {i : Nat} {n : Int} {x v : Int32} {lv2 : List (Nat × Value)} (hdg : decode cc pc = .ok (.iinc i n, 3)) (j : Nat) (hj : lv[j]? = some (i, .int x)) (hv : x + Int32.ofInt n = v) (hn : i < nL0) (e2 : lset lv i (.int v) = lv2) (kk : gW X E cells slots ws lv2 (pc + 3) st) : gW X E cells slots ws lv pc st := by
  obtain ⟨⟨⟨p, l, e, R⟩, s, m, args, below, meth, c⟩, Q, A, H0, nL⟩ := E
  obtain ⟨⟨hx, hb, hml, hown, hts⟩, hK, hN, hA, hn0⟩ := C
  intro H locs ls hP hD hS hl
  subst hn0
  exact lv_iinc hx hb hdg hl hj hv hn rfl (fun ls2 hl2 => kk H locs ls2 hP hD hS (lset_has hl2 e2))
theorem g_iadd (C : gC X E cc nL0 own) {x y : Int32} (hdg : decode cc pc = .ok (.iadd, 1)) (kk : gW X E cells slots ws lv (pc + 1) (.int (x + y) :: st)) : gW X E cells slots ws lv pc (.int y :: .int x :: st) := by
  obtain ⟨⟨⟨p, l, e, R⟩, s, m, args, below, meth, c⟩, Q, A, H0, nL⟩ := E
  obtain ⟨⟨hx, hb, hml, hown, hts⟩, hK, hN, hA, hn0⟩ := C
  intro H locs ls hP hD hS hl
  exact lv_iadd hx hb hdg  (kk H locs ls hP hD hS hl)
theorem g_isub (C : gC X E cc nL0 own) {x y : Int32} (hdg : decode cc pc = .ok (.isub, 1)) (kk : gW X E cells slots ws lv (pc + 1) (.int (x - y) :: st)) : gW X E cells slots ws lv pc (.int y :: .int x :: st) := by
  obtain ⟨⟨⟨p, l, e, R⟩, s, m, args, below, meth, c⟩, Q, A, H0, nL⟩ := E
  obtain ⟨⟨hx, hb, hml, hown, hts⟩, hK, hN, hA, hn0⟩ := C
  intro H locs ls hP hD hS hl
  exact lv_isub hx hb hdg  (kk H locs ls hP hD hS hl)
theorem g_imul (C : gC X E cc nL0 own) {x y : Int32} (hdg : decode cc pc = .ok (.imul, 1)) (kk : gW X E cells slots ws lv (pc + 1) (.int (x * y) :: st)) : gW X E cells slots ws lv pc (.int y :: .int x :: st) := by
  obtain ⟨⟨⟨p, l, e, R⟩, s, m, args, below, meth, c⟩, Q, A, H0, nL⟩ := E
  obtain ⟨⟨hx, hb, hml, hown, hts⟩, hK, hN, hA, hn0⟩ := C
  intro H locs ls hP hD hS hl
  exact lv_imul hx hb hdg  (kk H locs ls hP hD hS hl)
theorem g_iand (C : gC X E cc nL0 own) {x y : Int32} (hdg : decode cc pc = .ok (.iand, 1)) (kk : gW X E cells slots ws lv (pc + 1) (.int (x &&& y) :: st)) : gW X E cells slots ws lv pc (.int y :: .int x :: st) := by
  obtain ⟨⟨⟨p, l, e, R⟩, s, m, args, below, meth, c⟩, Q, A, H0, nL⟩ := E
  obtain ⟨⟨hx, hb, hml, hown, hts⟩, hK, hN, hA, hn0⟩ := C
  intro H locs ls hP hD hS hl
  exact lv_iand hx hb hdg  (kk H locs ls hP hD hS hl)
theorem g_ior (C : gC X E cc nL0 own) {x y : Int32} (hdg : decode cc pc = .ok (.ior, 1)) (kk : gW X E cells slots ws lv (pc + 1) (.int (x ||| y) :: st)) : gW X E cells slots ws lv pc (.int y :: .int x :: st) := by
  obtain ⟨⟨⟨p, l, e, R⟩, s, m, args, below, meth, c⟩, Q, A, H0, nL⟩ := E
  obtain ⟨⟨hx, hb, hml, hown, hts⟩, hK, hN, hA, hn0⟩ := C
  intro H locs ls hP hD hS hl
  exact lv_ior hx hb hdg  (kk H locs ls hP hD hS hl)
theorem g_ixor (C : gC X E cc nL0 own) {x y : Int32} (hdg : decode cc pc = .ok (.ixor, 1)) (kk : gW X E cells slots ws lv (pc + 1) (.int (x ^^^ y) :: st)) : gW X E cells slots ws lv pc (.int y :: .int x :: st) := by
  obtain ⟨⟨⟨p, l, e, R⟩, s, m, args, below, meth, c⟩, Q, A, H0, nL⟩ := E
  obtain ⟨⟨hx, hb, hml, hown, hts⟩, hK, hN, hA, hn0⟩ := C
  intro H locs ls hP hD hS hl
  exact lv_ixor hx hb hdg  (kk H locs ls hP hD hS hl)
theorem g_idiv (C : gC X E cc nL0 own) {x y : Int32} (hne : ¬ y = 0) (hdg : decode cc pc = .ok (.idiv, 1)) (kk : gW X E cells slots ws lv (pc + 1) (.int (x / y) :: st)) : gW X E cells slots ws lv pc (.int y :: .int x :: st) := by
  obtain ⟨⟨⟨p, l, e, R⟩, s, m, args, below, meth, c⟩, Q, A, H0, nL⟩ := E
  obtain ⟨⟨hx, hb, hml, hown, hts⟩, hK, hN, hA, hn0⟩ := C
  intro H locs ls hP hD hS hl
  exact lv_idiv hx hb hdg hne (kk H locs ls hP hD hS hl)
theorem g_irem (C : gC X E cc nL0 own) {x y : Int32} (hne : ¬ y = 0) (hdg : decode cc pc = .ok (.irem, 1)) (kk : gW X E cells slots ws lv (pc + 1) (.int (x - x / y * y) :: st)) : gW X E cells slots ws lv pc (.int y :: .int x :: st) := by
  obtain ⟨⟨⟨p, l, e, R⟩, s, m, args, below, meth, c⟩, Q, A, H0, nL⟩ := E
  obtain ⟨⟨hx, hb, hml, hown, hts⟩, hK, hN, hA, hn0⟩ := C
  intro H locs ls hP hD hS hl
  exact lv_irem hx hb hdg hne (kk H locs ls hP hD hS hl)
theorem g_dup (C : gC X E cc nL0 own) {a : Value} (ha : a.category = 1) (hdg : decode cc pc = .ok (.dup, 1)) (kk : gW X E cells slots ws lv (pc + 1) (a :: a :: st)) : gW X E cells slots ws lv pc (a :: st) := by
  obtain ⟨⟨⟨p, l, e, R⟩, s, m, args, below, meth, c⟩, Q, A, H0, nL⟩ := E
  obtain ⟨⟨hx, hb, hml, hown, hts⟩, hK, hN, hA, hn0⟩ := C
  intro H locs ls hP hD hS hl
  exact lv_dup hx hb hdg ha (kk H locs ls hP hD hS hl)
theorem g_pop (C : gC X E cc nL0 own) {a : Value} (ha : a.category = 1) (hdg : decode cc pc = .ok (.pop, 1)) (kk : gW X E cells slots ws lv (pc + 1) st) : gW X E cells slots ws lv pc (a :: st) := by
  obtain ⟨⟨⟨p, l, e, R⟩, s, m, args, below, meth, c⟩, Q, A, H0, nL⟩ := E
  obtain ⟨⟨hx, hb, hml, hown, hts⟩, hK, hN, hA, hn0⟩ := C
  intro H locs ls hP hD hS hl
  exact lv_pop hx hb hdg ha (kk H locs ls hP hD hS hl)
theorem g_dup_x1 (C : gC X E cc nL0 own) {a b : Value} (ha : a.category = 1) (h2 : b.category = 1) (hdg : decode cc pc = .ok (.dup_x1, 1)) (kk : gW X E cells slots ws lv (pc + 1) (a :: b :: a :: st)) : gW X E cells slots ws lv pc (a :: b :: st) := by
  obtain ⟨⟨⟨p, l, e, R⟩, s, m, args, below, meth, c⟩, Q, A, H0, nL⟩ := E
  obtain ⟨⟨hx, hb, hml, hown, hts⟩, hK, hN, hA, hn0⟩ := C
  intro H locs ls hP hD hS hl
  exact lv_dup_x1 hx hb hdg ha h2 (kk H locs ls hP hD hS hl)
theorem g_dup2 (C : gC X E cc nL0 own) {a b : Value} (ha : a.category = 1) (h2 : b.category = 1) (hdg : decode cc pc = .ok (.dup2, 1)) (kk : gW X E cells slots ws lv (pc + 1) (a :: b :: a :: b :: st)) : gW X E cells slots ws lv pc (a :: b :: st) := by
  obtain ⟨⟨⟨p, l, e, R⟩, s, m, args, below, meth, c⟩, Q, A, H0, nL⟩ := E
  obtain ⟨⟨hx, hb, hml, hown, hts⟩, hK, hN, hA, hn0⟩ := C
  intro H locs ls hP hD hS hl
  exact lv_dup2_11 hx hb hdg ha h2 (kk H locs ls hP hD hS hl)
theorem g_goto (C : gC X E cc nL0 own) {off : Int} (tgt : Nat) (hdg : decode cc pc = .ok (.goto off, 3)) (ht : (pc : Int) + off = (tgt : Int)) (kk : gW X E cells slots ws lv tgt st) : gW X E cells slots ws lv pc st := by
  obtain ⟨⟨⟨p, l, e, R⟩, s, m, args, below, meth, c⟩, Q, A, H0, nL⟩ := E
  obtain ⟨⟨hx, hb, hml, hown, hts⟩, hK, hN, hA, hn0⟩ := C
  intro H locs ls hP hD hS hl
  exact lv_goto hx hb hdg ht (kk H locs ls hP hD hS hl)
theorem g_if_eq (C : gC X E cc nL0 own) {x : Int32} {off : Int} (tgt : Nat) (hdg : decode cc pc = .ok (.ifCond .eq off, 3)) (ht : (pc : Int) + off = (tgt : Int)) (kt : x = 0 → gW X E cells slots ws lv tgt st) (kf : ¬ x = 0 → gW X E cells slots ws lv (pc + 3) st) : gW X E cells slots ws lv pc (.int x :: st) := by
  obtain ⟨⟨⟨p, l, e, R⟩, s, m, args, below, meth, c⟩, Q, A, H0, nL⟩ := E
  obtain ⟨⟨hx, hb, hml, hown, hts⟩, hK, hN, hA, hn0⟩ := C
  intro H locs ls hP hD hS hl
  exact lv_if_eq hx hb hdg ht (fun h => kt h H locs ls hP hD hS hl) (fun h => kf h H locs ls hP hD hS hl)
theorem g_icmp_eq (C : gC X E cc nL0 own) {x y : Int32} {off : Int} (tgt : Nat) (hdg : decode cc pc = .ok (.if_icmp .eq off, 3)) (ht : (pc : Int) + off = (tgt : Int)) (kt : x = y → gW X E cells slots ws lv tgt st) (kf : ¬ x = y → gW X E cells slots ws lv (pc + 3) st) : gW X E cells slots ws lv pc (.int y :: .int x :: st) := by
  obtain ⟨⟨⟨p, l, e, R⟩, s, m, args, below, meth, c⟩, Q, A, H0, nL⟩ := E
  obtain ⟨⟨hx, hb, hml, hown, hts⟩, hK, hN, hA, hn0⟩ := C
  intro H locs ls hP hD hS hl
  exact lv_icmp_eq hx hb hdg ht (fun h => kt h H locs ls hP hD hS hl) (fun h => kf h H locs ls hP hD hS hl)
theorem g_if_ne (C : gC X E cc nL0 own) {x : Int32} {off : Int} (tgt : Nat) (hdg : decode cc pc = .ok (.ifCond .ne off, 3)) (ht : (pc : Int) + off = (tgt : Int)) (kt : ¬ x = 0 → gW X E cells slots ws lv tgt st) (kf : x = 0 → gW X E cells slots ws lv (pc + 3) st) : gW X E cells slots ws lv pc (.int x :: st) := by
  obtain ⟨⟨⟨p, l, e, R⟩, s, m, args, below, meth, c⟩, Q, A, H0, nL⟩ := E
  obtain ⟨⟨hx, hb, hml, hown, hts⟩, hK, hN, hA, hn0⟩ := C
  intro H locs ls hP hD hS hl
  exact lv_if_ne hx hb hdg ht (fun h => kt h H locs ls hP hD hS hl) (fun h => kf h H locs ls hP hD hS hl)
theorem g_icmp_ne (C : gC X E cc nL0 own) {x y : Int32} {off : Int} (tgt : Nat) (hdg : decode cc pc = .ok (.if_icmp .ne off, 3)) (ht : (pc : Int) + off = (tgt : Int)) (kt : ¬ x = y → gW X E cells slots ws lv tgt st) (kf : x = y → gW X E cells slots ws lv (pc + 3) st) : gW X E cells slots ws lv pc (.int y :: .int x :: st) := by
  obtain ⟨⟨⟨p, l, e, R⟩, s, m, args, below, meth, c⟩, Q, A, H0, nL⟩ := E
  obtain ⟨⟨hx, hb, hml, hown, hts⟩, hK, hN, hA, hn0⟩ := C
  intro H locs ls hP hD hS hl
  exact lv_icmp_ne hx hb hdg ht (fun h => kt h H locs ls hP hD hS hl) (fun h => kf h H locs ls hP hD hS hl)
theorem g_if_lt (C : gC X E cc nL0 own) {x : Int32} {off : Int} (tgt : Nat) (hdg : decode cc pc = .ok (.ifCond .lt off, 3)) (ht : (pc : Int) + off = (tgt : Int)) (kt : x < 0 → gW X E cells slots ws lv tgt st) (kf : ¬ x < 0 → gW X E cells slots ws lv (pc + 3) st) : gW X E cells slots ws lv pc (.int x :: st) := by
  obtain ⟨⟨⟨p, l, e, R⟩, s, m, args, below, meth, c⟩, Q, A, H0, nL⟩ := E
  obtain ⟨⟨hx, hb, hml, hown, hts⟩, hK, hN, hA, hn0⟩ := C
  intro H locs ls hP hD hS hl
  exact lv_if_lt hx hb hdg ht (fun h => kt h H locs ls hP hD hS hl) (fun h => kf h H locs ls hP hD hS hl)
theorem g_icmp_lt (C : gC X E cc nL0 own) {x y : Int32} {off : Int} (tgt : Nat) (hdg : decode cc pc = .ok (.if_icmp .lt off, 3)) (ht : (pc : Int) + off = (tgt : Int)) (kt : x < y → gW X E cells slots ws lv tgt st) (kf : ¬ x < y → gW X E cells slots ws lv (pc + 3) st) : gW X E cells slots ws lv pc (.int y :: .int x :: st) := by
  obtain ⟨⟨⟨p, l, e, R⟩, s, m, args, below, meth, c⟩, Q, A, H0, nL⟩ := E
  obtain ⟨⟨hx, hb, hml, hown, hts⟩, hK, hN, hA, hn0⟩ := C
  intro H locs ls hP hD hS hl
  exact lv_icmp_lt hx hb hdg ht (fun h => kt h H locs ls hP hD hS hl) (fun h => kf h H locs ls hP hD hS hl)
theorem g_if_ge (C : gC X E cc nL0 own) {x : Int32} {off : Int} (tgt : Nat) (hdg : decode cc pc = .ok (.ifCond .ge off, 3)) (ht : (pc : Int) + off = (tgt : Int)) (kt : 0 ≤ x → gW X E cells slots ws lv tgt st) (kf : ¬ 0 ≤ x → gW X E cells slots ws lv (pc + 3) st) : gW X E cells slots ws lv pc (.int x :: st) := by
  obtain ⟨⟨⟨p, l, e, R⟩, s, m, args, below, meth, c⟩, Q, A, H0, nL⟩ := E
  obtain ⟨⟨hx, hb, hml, hown, hts⟩, hK, hN, hA, hn0⟩ := C
  intro H locs ls hP hD hS hl
  exact lv_if_ge hx hb hdg ht (fun h => kt h H locs ls hP hD hS hl) (fun h => kf h H locs ls hP hD hS hl)
theorem g_icmp_ge (C : gC X E cc nL0 own) {x y : Int32} {off : Int} (tgt : Nat) (hdg : decode cc pc = .ok (.if_icmp .ge off, 3)) (ht : (pc : Int) + off = (tgt : Int)) (kt : y ≤ x → gW X E cells slots ws lv tgt st) (kf : ¬ y ≤ x → gW X E cells slots ws lv (pc + 3) st) : gW X E cells slots ws lv pc (.int y :: .int x :: st) := by
  obtain ⟨⟨⟨p, l, e, R⟩, s, m, args, below, meth, c⟩, Q, A, H0, nL⟩ := E
  obtain ⟨⟨hx, hb, hml, hown, hts⟩, hK, hN, hA, hn0⟩ := C
  intro H locs ls hP hD hS hl
  exact lv_icmp_ge hx hb hdg ht (fun h => kt h H locs ls hP hD hS hl) (fun h => kf h H locs ls hP hD hS hl)
theorem g_if_gt (C : gC X E cc nL0 own) {x : Int32} {off : Int} (tgt : Nat) (hdg : decode cc pc = .ok (.ifCond .gt off, 3)) (ht : (pc : Int) + off = (tgt : Int)) (kt : 0 < x → gW X E cells slots ws lv tgt st) (kf : ¬ 0 < x → gW X E cells slots ws lv (pc + 3) st) : gW X E cells slots ws lv pc (.int x :: st) := by
  obtain ⟨⟨⟨p, l, e, R⟩, s, m, args, below, meth, c⟩, Q, A, H0, nL⟩ := E
  obtain ⟨⟨hx, hb, hml, hown, hts⟩, hK, hN, hA, hn0⟩ := C
  intro H locs ls hP hD hS hl
  exact lv_if_gt hx hb hdg ht (fun h => kt h H locs ls hP hD hS hl) (fun h => kf h H locs ls hP hD hS hl)
theorem g_icmp_gt (C : gC X E cc nL0 own) {x y : Int32} {off : Int} (tgt : Nat) (hdg : decode cc pc = .ok (.if_icmp .gt off, 3)) (ht : (pc : Int) + off = (tgt : Int)) (kt : y < x → gW X E cells slots ws lv tgt st) (kf : ¬ y < x → gW X E cells slots ws lv (pc + 3) st) : gW X E cells slots ws lv pc (.int y :: .int x :: st) := by
  obtain ⟨⟨⟨p, l, e, R⟩, s, m, args, below, meth, c⟩, Q, A, H0, nL⟩ := E
  obtain ⟨⟨hx, hb, hml, hown, hts⟩, hK, hN, hA, hn0⟩ := C
  intro H locs ls hP hD hS hl
  exact lv_icmp_gt hx hb hdg ht (fun h => kt h H locs ls hP hD hS hl) (fun h => kf h H locs ls hP hD hS hl)
theorem g_if_le (C : gC X E cc nL0 own) {x : Int32} {off : Int} (tgt : Nat) (hdg : decode cc pc = .ok (.ifCond .le off, 3)) (ht : (pc : Int) + off = (tgt : Int)) (kt : x ≤ 0 → gW X E cells slots ws lv tgt st) (kf : ¬ x ≤ 0 → gW X E cells slots ws lv (pc + 3) st) : gW X E cells slots ws lv pc (.int x :: st) := by
  obtain ⟨⟨⟨p, l, e, R⟩, s, m, args, below, meth, c⟩, Q, A, H0, nL⟩ := E
  obtain ⟨⟨hx, hb, hml, hown, hts⟩, hK, hN, hA, hn0⟩ := C
  intro H locs ls hP hD hS hl
  exact lv_if_le hx hb hdg ht (fun h => kt h H locs ls hP hD hS hl) (fun h => kf h H locs ls hP hD hS hl)
theorem g_icmp_le (C : gC X E cc nL0 own) {x y : Int32} {off : Int} (tgt : Nat) (hdg : decode cc pc = .ok (.if_icmp .le off, 3)) (ht : (pc : Int) + off = (tgt : Int)) (kt : x ≤ y → gW X E cells slots ws lv tgt st) (kf : ¬ x ≤ y → gW X E cells slots ws lv (pc + 3) st) : gW X E cells slots ws lv pc (.int y :: .int x :: st) := by
  obtain ⟨⟨⟨p, l, e, R⟩, s, m, args, below, meth, c⟩, Q, A, H0, nL⟩ := E
  obtain ⟨⟨hx, hb, hml, hown, hts⟩, hK, hN, hA, hn0⟩ := C
  intro H locs ls hP hD hS hl
  exact lv_icmp_le hx hb hdg ht (fun h => kt h H locs ls hP hD hS hl) (fun h => kf h H locs ls hP hD hS hl)
/-- a value on the stack gets a name -/
theorem g_topi {x : Int32} (kk : ∀ y : Int32, y = x → gW X E cells slots ws lv pc (.int y :: st)) : gW X E cells slots ws lv pc (.int x :: st) := kk x rfl
/-- the world in other words -/
theorem g_w {ws2 : va_W} (h : ws = ws2) (kk : gW X E cells slots ws2 lv pc st) : gW X E cells slots ws lv pc st := by rw [h]; exact kk
/-- fewer locals -/
theorem g_lv (C : gC X E cc nL0 own) {lv2 : List (Nat × Value)} (ks : List Nat) (h : lv_pick lv ks = lv2) (kk : gW X E cells slots ws lv2 pc st) : gW X E cells slots ws lv pc st := by
  obtain ⟨⟨⟨p, l, e, R⟩, s, m, args, below, meth, c⟩, Q, A, H0, nL⟩ := E
  obtain ⟨⟨hx, hb, hml, hown, hts⟩, hK, hN, hA, hn0⟩ := C
  intro H locs ls hP hD hS hl
  exact kk H locs ls hP hD hS (lv_sub hl ks h)
theorem g_get (C : gC X E cc nL0 own) (q0 k : Nat) {ref C0 : String} {T : u_T} {N ci index a : Nat} {fs : List Value} {v : Value} (hin : ∀ w ∈ u_ws C0 T N, w ∈ gTs) (he : ws[q0]? = some (a, .inr (ci, fs))) (hc : vwCl[ci]? = some (C0, T, N)) (hk : k < N) (hlink : Cond.fieldLink own index ref (T k).2.1 (T k).2.2.1 ∈ gTs) (href : (T k).1 = ref) (hv : fs[k]? = some v) (hdg : decode cc pc = .ok (.getfield index, 3)) (kk : gW X E cells slots ws lv (pc + 3) (v :: st)) : gW X E cells slots ws lv pc (.ref a :: st) := by
  obtain ⟨⟨⟨p, l, e, R⟩, s, m, args, below, meth, c⟩, Q, A, H0, nL⟩ := E
  obtain ⟨⟨hx, hb, hml, hown, hts⟩, hK, hN, hA, hn0⟩ := C
  intro H locs ls hP hD hS hl
  exact va_get hx hb hts hin hown hK hP q0 he hc k hk (hts _ hlink) (fun x h => by rw [← href]; exact h) hv hdg (kk H locs ls hP hD hS hl)
theorem g_put (C : gC X E cc nL0 own) (q0 k : Nat) {ref C0 : String} {T : u_T} {N ci index a : Nat} {fs : List Value} {v : Value} {ws2 : va_W} (hin : ∀ w ∈ u_ws C0 T N, w ∈ gTs) (ty0 : Nat → FieldType) (hty : ∀ k, k < N → parseFieldDescriptor (T k).2.2.1 = some (ty0 k)) (hnm : ∀ a, a < N → ∀ b, b < N → a ≠ b → (T a).2.1 ≠ (T b).2.1) (he : ws[q0]? = some (a, .inr (ci, fs))) (hc : vwCl[ci]? = some (C0, T, N)) (hk : k < N) (hlink : Cond.fieldLink own index ref (T k).2.1 (T k).2.2.1 ∈ gTs) (href : (T k).1 = ref) (hfin : (T k).2.2.2 = false) (hn : narrow (ty0 k) v = v) (hfit : fits (ty0 k) v = true) (hlen : k < fs.length) (e2 : ws.set q0 (a, .inr (ci, fs.set k v)) = ws2) (hdg : decode cc pc = .ok (.putfield index, 3)) (kk : gW X E cells slots ws2 lv (pc + 3) st) : gW X E cells slots ws lv pc (v :: .ref a :: st) := by
  obtain ⟨⟨⟨p, l, e, R⟩, s, m, args, below, meth, c⟩, Q, A, H0, nL⟩ := E
  obtain ⟨⟨hx, hb, hml, hown, hts⟩, hK, hN, hA, hn0⟩ := C
  intro H locs ls hP hD hS hl
  exact va_put hx hb hts hin ty0 hty hnm hown hK hP hD hS q0 he hc k hk (hts _ hlink) (fun x h => by rw [← href]; exact h) hfin (hty k hk) hn hfit hlen hdg (fun H1 locs1 hP1 hD1 hS1 => kk H1 locs1 ls (e2 ▸ hP1) (e2 ▸ hD1) hS1 hl)
theorem g_getN (C : gC X E cc nL0 own) (q0 k : Nat) {ref C0 host : String} {T : u_T} {N ci index a : Nat} {fs : List Value} {v : Value} (hin : ∀ w ∈ u_ws C0 T N, w ∈ gTs) (he : ws[q0]? = some (a, .inr (ci, fs))) (hc : vwCl[ci]? = some (C0, T, N)) (hk : k < N) (hlink : Cond.fieldLinkNest own index ref (T k).2.1 (T k).2.2.1 host ∈ gNl) (href : (T k).1 = ref) (hv : fs[k]? = some v) (hdg : decode cc pc = .ok (.getfield index, 3)) (kk : gW X E cells slots ws lv (pc + 3) (v :: st)) : gW X E cells slots ws lv pc (.ref a :: st) := by
  obtain ⟨⟨⟨p, l, e, R⟩, s, m, args, below, meth, c⟩, Q, A, H0, nL⟩ := E
  obtain ⟨⟨hx, hb, hml, hown, hts⟩, hK, hN, hA, hn0⟩ := C
  intro H locs ls hP hD hS hl
  exact va_getN hx hb hts hin hown hK hP q0 he hc k hk (va_Nw.use rfl (hN _ hlink)) (fun x h => by rw [← href]; exact h) hv hdg (kk H locs ls hP hD hS hl)
theorem g_putN (C : gC X E cc nL0 own) (q0 k : Nat) {ref C0 host : String} {T : u_T} {N ci index a : Nat} {fs : List Value} {v : Value} {ws2 : va_W} (hin : ∀ w ∈ u_ws C0 T N, w ∈ gTs) (ty0 : Nat → FieldType) (hty : ∀ k, k < N → parseFieldDescriptor (T k).2.2.1 = some (ty0 k)) (hnm : ∀ a, a < N → ∀ b, b < N → a ≠ b → (T a).2.1 ≠ (T b).2.1) (he : ws[q0]? = some (a, .inr (ci, fs))) (hc : vwCl[ci]? = some (C0, T, N)) (hk : k < N) (hlink : Cond.fieldLinkNest own index ref (T k).2.1 (T k).2.2.1 host ∈ gNl) (href : (T k).1 = ref) (hfin : (T k).2.2.2 = false) (hn : narrow (ty0 k) v = v) (hfit : fits (ty0 k) v = true) (hlen : k < fs.length) (e2 : ws.set q0 (a, .inr (ci, fs.set k v)) = ws2) (hdg : decode cc pc = .ok (.putfield index, 3)) (kk : gW X E cells slots ws2 lv (pc + 3) st) : gW X E cells slots ws lv pc (v :: .ref a :: st) := by
  obtain ⟨⟨⟨p, l, e, R⟩, s, m, args, below, meth, c⟩, Q, A, H0, nL⟩ := E
  obtain ⟨⟨hx, hb, hml, hown, hts⟩, hK, hN, hA, hn0⟩ := C
  intro H locs ls hP hD hS hl
  exact va_putN hx hb hts hin ty0 hty hnm hown hK hP hD hS q0 he hc k hk (va_Nw.use rfl (hN _ hlink)) (fun x h => by rw [← href]; exact h) hfin (hty k hk) hn hfit hlen hdg (fun H1 locs1 hP1 hD1 hS1 => kk H1 locs1 ls (e2 ▸ hP1) (e2 ▸ hD1) hS1 hl)
theorem g_iald (C : gC X E cc nL0 own) (q0 t0 : Nat) {cA : ClassId} {n a : Nat} {f : Nat → Int32} {i : Int32} (ha : ws[q0]? = some (a, .inl (cA, n, .inl f))) (ht : (gT X)[t0]? = some (cA, .int)) (hin : vp_in i n) (hdg : decode cc pc = .ok (.iaload, 1)) (kk : gW X E cells slots ws lv (pc + 1) (.int (f i.toNatClampNeg) :: st)) : gW X E cells slots ws lv pc (.int i :: .ref a :: st) := by
  obtain ⟨⟨⟨p, l, e, R⟩, s, m, args, below, meth, c⟩, Q, A, H0, nL⟩ := E
  obtain ⟨⟨hx, hb, hml, hown, hts⟩, hK, hN, hA, hn0⟩ := C
  intro H locs ls hP hD hS hl
  exact va_iald hx hb hK hP q0 t0 ha ht hin hdg (kk H locs ls hP hD hS hl)
theorem g_zald (C : gC X E cc nL0 own) (q0 t0 : Nat) {cA : ClassId} {n a : Nat} {f : Nat → Int32} {i : Int32} (ha : ws[q0]? = some (a, .inl (cA, n, .inl f))) (ht : (gT X)[t0]? = some (cA, .boolean)) (hin : vp_in i n) (hdg : decode cc pc = .ok (.baload, 1)) (kk : gW X E cells slots ws lv (pc + 1) (.int (f i.toNatClampNeg) :: st)) : gW X E cells slots ws lv pc (.int i :: .ref a :: st) := by
  obtain ⟨⟨⟨p, l, e, R⟩, s, m, args, below, meth, c⟩, Q, A, H0, nL⟩ := E
  obtain ⟨⟨hx, hb, hml, hown, hts⟩, hK, hN, hA, hn0⟩ := C
  intro H locs ls hP hD hS hl
  exact va_zald hx hb hK hP q0 t0 ha ht hin hdg (kk H locs ls hP hD hS hl)
theorem g_iast (C : gC X E cc nL0 own) (q0 t0 : Nat) {cA : ClassId} {n a : Nat} {f : Nat → Int32} {i x : Int32} {ws2 : va_W} (ha : ws[q0]? = some (a, .inl (cA, n, .inl f))) (ht : (gT X)[t0]? = some (cA, .int)) (hin : vp_in i n) (e2 : ws.set q0 (a, .inl (cA, n, .inl (upd f i.toNatClampNeg x))) = ws2) (hdg : decode cc pc = .ok (.iastore, 1)) (kk : gW X E cells slots ws2 lv (pc + 1) st) : gW X E cells slots ws lv pc (.int x :: .int i :: .ref a :: st) := by
  obtain ⟨⟨⟨p, l, e, R⟩, s, m, args, below, meth, c⟩, Q, A, H0, nL⟩ := E
  obtain ⟨⟨hx, hb, hml, hown, hts⟩, hK, hN, hA, hn0⟩ := C
  intro H locs ls hP hD hS hl
  exact va_iast hx hb hK hP hD hS q0 t0 ha ht hin hdg (fun H1 locs1 hP1 hD1 hS1 => kk H1 locs1 ls (e2 ▸ hP1) (e2 ▸ hD1) hS1 hl)
theorem g_zast (C : gC X E cc nL0 own) (q0 t0 : Nat) {cA : ClassId} {n a : Nat} {f : Nat → Int32} {i x : Int32} {ws2 : va_W} (ha : ws[q0]? = some (a, .inl (cA, n, .inl f))) (ht : (gT X)[t0]? = some (cA, .boolean)) (hin : vp_in i n) (e2 : ws.set q0 (a, .inl (cA, n, .inl (upd f i.toNatClampNeg (vp_nar .boolean x)))) = ws2) (hdg : decode cc pc = .ok (.bastore, 1)) (kk : gW X E cells slots ws2 lv (pc + 1) st) : gW X E cells slots ws lv pc (.int x :: .int i :: .ref a :: st) := by
  obtain ⟨⟨⟨p, l, e, R⟩, s, m, args, below, meth, c⟩, Q, A, H0, nL⟩ := E
  obtain ⟨⟨hx, hb, hml, hown, hts⟩, hK, hN, hA, hn0⟩ := C
  intro H locs ls hP hD hS hl
  exact va_zast hx hb hK hP hD hS q0 t0 ha ht hin hdg (fun H1 locs1 hP1 hD1 hS1 => kk H1 locs1 ls (e2 ▸ hP1) (e2 ▸ hD1) hS1 hl)
theorem g_alen (C : gC X E cc nL0 own) (q0 t0 : Nat) {cA : ClassId} {a : Nat} {x : vp_A} {ty : FieldType} (v : Int32) (ha : ws[q0]? = some (a, .inl (cA, x))) (ht : (gT X)[t0]? = some (cA, ty)) (hv : Int32.ofNat x.1 = v) (hdg : decode cc pc = .ok (.arraylength, 1)) (kk : gW X E cells slots ws lv (pc + 1) (.int v :: st)) : gW X E cells slots ws lv pc (.ref a :: st) := by
  obtain ⟨⟨⟨p, l, e, R⟩, s, m, args, below, meth, c⟩, Q, A, H0, nL⟩ := E
  obtain ⟨⟨hx, hb, hml, hown, hts⟩, hK, hN, hA, hn0⟩ := C
  intro H locs ls hP hD hS hl
  exact va_alen hx hb hK hP q0 t0 ha ht hv hdg (kk H locs ls hP hD hS hl)
theorem g_tableOut (C : gC X E cc nL0 own) {dflt lo hi : Int} {offs : Array Int} {len : Nat} {x : Int32} (tgt : Nat) (hdg : decode cc pc = .ok (.tableswitch dflt lo hi offs, len)) (h : x.toInt < lo ∨ hi < x.toInt) (ht : (pc : Int) + dflt = (tgt : Int)) (kk : gW X E cells slots ws lv tgt st) : gW X E cells slots ws lv pc (.int x :: st) := by
  obtain ⟨⟨⟨p, l, e, R⟩, s, m, args, below, meth, c⟩, Q, A, H0, nL⟩ := E
  obtain ⟨⟨hx, hb, hml, hown, hts⟩, hK, hN, hA, hn0⟩ := C
  intro H locs ls hP hD hS hl
  exact lv_tableOut hx hb hdg h ht (kk H locs ls hP hD hS hl)
theorem g_tableIn (C : gC X E cc nL0 own) {dflt lo hi : Int} {offs : Array Int} {len : Nat} {x : Int32} {off : Int} (tgt : Nat) (hdg : decode cc pc = .ok (.tableswitch dflt lo hi offs, len)) (h1 : ¬ x.toInt < lo) (h2 : ¬ hi < x.toInt) (ho : offs[(x.toInt - lo).toNat]? = some off) (ht : (pc : Int) + off = (tgt : Int)) (kk : gW X E cells slots ws lv tgt st) : gW X E cells slots ws lv pc (.int x :: st) := by
  obtain ⟨⟨⟨p, l, e, R⟩, s, m, args, below, meth, c⟩, Q, A, H0, nL⟩ := E
  obtain ⟨⟨hx, hb, hml, hown, hts⟩, hK, hN, hA, hn0⟩ := C
  intro H locs ls hP hD hS hl
  exact lv_tableIn hx hb hdg h1 h2 ho ht (kk H locs ls hP hD hS hl)
end GW
end
section
/-! Contracts over worlds, and calls. -/
def gPc (X : gX) (av : List Value) (w : va_W) (sz : Nat) : Array Value → State → Prop := va_Pc av (fun U => U.heap.size = sz ∧ va_P X.1 vwCl w U.heap ∧ va_K X.1 vwCl (gT X) U ∧ va_D (fun _ => True) w ∧ ∀ x ∈ gNl, va_Nw x U)
def gQc (X : gX) (w : va_W) (B : Option Value → va_W → Prop) (sz : Nat) : Array Value → State → Outcome → State → Prop := fun _ st oc t => (∃ (v : Option Value) (u : va_W), oc = .returned v ∧ B v u ∧ va_P X.1 vwCl u t.heap ∧ va_D (va_A w sz) u) ∧ va_F (va_A w sz) st t
/-- the contract of a method that makes no cell -/
def gM (l : Launch) (X : gX) (y : MethodName) (cc : ByteArray) (nL : Nat) (ret : Option FieldType) (rm : Room) (av : List Value) (w : va_W) (B : Option Value → va_W → Prop) : Prop := ∀ sz : Nat, Met l y (.code y cc nL ret :: gTs) rm (gPc X av w sz) (gQc X w B sz) 0 0 (va_A w sz)
/-- how a walk may end: with this answer, in this world -/
def gR (X : gX) (E : gE) (cc : ByteArray) (ret : Option FieldType) (B : Option Value → va_W → Prop) : Prop := ∀ (v : Option Value) (u : va_W) (lv : List (Nat × Value)) (pc : Nat), B v u → ((v = none ∧ ret = none ∧ decode cc pc = .ok (.return_, 1)) ∨ ∃ (x : Int32) (ty : FieldType), v = some (.int x) ∧ ret = some ty ∧ narrow ty (.int x) = .int x ∧ decode cc pc = .ok (.ireturn, 1)) → gW X E 0 0 u lv pc v.toList
theorem g_vret {X : gX} {E : gE} {cc : ByteArray} {B : Option Value → va_W → Prop} {ws : va_W} {lv : List (Nat × Value)} {pc : Nat} (r : gR X E cc none B) (hdg : decode cc pc = .ok (.return_, 1)) (h : B none ws) : gW X E 0 0 ws lv pc [] := r none ws lv pc h (Or.inl ⟨rfl, rfl, hdg⟩)
theorem g_iret {X : gX} {E : gE} {cc : ByteArray} {ty : FieldType} {B : Option Value → va_W → Prop} {ws : va_W} {lv : List (Nat × Value)} {pc : Nat} {x : Int32} (r : gR X E cc (some ty) B) (hn : narrow ty (.int x) = .int x) (hdg : decode cc pc = .ok (.ireturn, 1)) (h : B (some (.int x)) ws) : gW X E 0 0 ws lv pc [.int x] := r (some (.int x)) ws lv pc h (Or.inr ⟨x, ty, rfl, rfl, hn, hdg⟩)
def gRm (E : gE) : Room := E.1.1.2.2.2
theorem gM_of {l : Launch} {X : gX} {y : MethodName} {cc : ByteArray} {nL : Nat} {ret : Option FieldType} {rm : Room} {av : List Value} {w : va_W} {B : Option Value → va_W → Prop} {own : String} {lv0 : List (Nat × Value)} (hy : plainName y.cls = true) (ho : y.cls = own) (hav : (lg_sl av).length ≤ nL) (hlv : lv_args 0 av = lv0)
    (body : ∀ E : gE, gC X E cc nL own → gRm E = rm → gR X E cc ret B → gW X E 0 0 w lv0 0 []) : gM l X y cc nL ret rm av w B := by
  intro sz
  refine Met.ofW (cc := cc) (maxL := nL) (ret := ret) hy rfl ?_
  intro p e s m args below meth c s₁ Bd hml hv
  obtain ⟨rfl, hsz, hP, hK, hD0, hN⟩ := hv
  have hx := Bd.exec
  have hb := Bd.bytes
  have hr := Bd.returns
  have hlocks := Bd.notSynchronized
  have hts := atoms_spec (ws := Cond.code y cc nL ret :: gTs) Bd.pre
  have hown : s.vm.findClass own = some m.cls := by rw [← ho]; exact findClass_of_methodNamed Bd.named
  subst hsz
  have hD := hD0.self (sz := s.heap.size)
  have hS : va_S (va_A w s.heap.size) s.heap s.heap [] := va_S.rf
  have hl := lv_entry av (n := nL) hav
  rw [lg_entry_eq]
  generalize (lg_sl av ++ List.replicate (nL - (lg_sl av).length) Slot.unset).toArray = ls at hl ⊢
  rw [hlv] at hl
  refine body (((p, l, e, (headSpec (Cond.code y cc nL ret :: gTs) rm).room), (s, m, av.toArray, below, meth, c)), (MQ below (gQc X w B s.heap.size) av.toArray s 0 0 (va_A w s.heap.size), va_A w s.heap.size, s.heap, nL)) ⟨⟨hx, hb, hml, hown, fun w h => hts w (List.mem_cons_of_mem _ h)⟩, hK, hN, fun q h => Or.inr h, rfl⟩ rfl ?_ s.heap [] ls hP hD hS hl
  intro v u lv pc hB hi H locs ls2 hP2 hD2 hS2 hl2
  rcases hi with ⟨rfl, rfl, hdg⟩ | ⟨x, ty, rfl, rfl, hn, hdg⟩
  · exact W.vret hx hb hr (fun t ht hW => ⟨⟨none, u, rfl, hB, by rw [ht]; exact hP2, hD2⟩, hS2.F ht⟩) hS2.2.2 hdg hlocks
  · exact W.zret hx hb hr hn (fun t ht hW => ⟨⟨some (.int x), u, rfl, hB, by rw [ht]; exact hP2, hD2⟩, hS2.F ht⟩) hS2.2.2 hdg hlocks
theorem gNw_face {w : Cond} (h1 : w.onTables = true) (h2 : w.keepsFace = true) {s U : State} (hW : s.WarmedH U.vm) (hz : va_Nw w s) : va_Nw w U := va_tabs h1 (rfl : (s.setVm U.vm).vm = U.vm) (Cond.before_shiftedFace (args := #[]) (State.Shifted.of_warmed hW) _ h2 hz)
theorem gNw_warm {w : Cond} (h : gNok w = true) {s U : State} (hW : s.WarmedH U.vm) (hz : va_Nw w s) : va_Nw w U := by
  simp only [gNok, Bool.or_eq_true, Bool.and_eq_true] at h
  rcases h with h | ⟨h1, h2⟩
  · cases w <;> first | exact va_Nw.warmF hW hz | exact va_Nw.warmM hW hz | (simp [gNest] at h; done)
  · exact gNw_face h1 h2 hW hz
theorem gNw_tab {w : Cond} (h : gNok w = true) : w.onTables = true := by
  simp only [gNok, Bool.or_eq_true, Bool.and_eq_true] at h
  rcases h with h | ⟨h1, h2⟩
  · cases w <;> first | rfl | (simp [gNest] at h; done)
  · exact h1
theorem gNw_same {w : Cond} (h : gNok w = true) {s U : State} (e : s.vm = U.vm) (hz : va_Nw w s) : va_Nw w U := va_Nw.same (gNw_tab h) e hz
theorem gPc_blind {X : gX} {av : List Value} {w : va_W} {sz : Nat} : FrameBlind (gPc X av w sz) := by
  intro a U g mk q
  obtain ⟨q0, q1, qP, qK, qD, qN⟩ := q
  exact ⟨q0, q1, qP, va_K.moved (u := U) (U := U.calling g mk a) (Vm.Alike.refl U.vm) qK, qD, fun x hx => gNw_same (s := U) (U := U.calling g mk a) (gNl_ok x hx) rfl (qN x hx)⟩
section GCALL
variable {p : Program} {l : Launch} {e : Env} {R : Room} {s : State} {m : MethodId} {args : Array Value} {below : List Frame} {meth : Method} {c : Code} {H : Heap} {locs : List Loc} {cells slots : Nat} {Q : State → Prop} {X : gX}
theorem gPc_at {av : List Value} {w : va_W} (hP : va_P X.1 vwCl w H) (hK : va_K X.1 vwCl (gT X) s) {A : Nat → Prop} (hD : va_D A w) (hN : ∀ x ∈ gNl, va_Nw x s) : ∀ U : State, U.heap = H → s.WarmedH U.vm → gPc X av w H.size av.toArray U := fun U hU hW => ⟨rfl, by rw [hU], by rw [hU]; exact hP, va_K.moved hW.alike hK, hD.weaken (fun _ _ _ _ => trivial), fun x hx => gNw_warm (gNl_ok x hx) hW (hN x hx)⟩
/-- behind a call on the whole world -/
theorem gx_call {A0 : Nat → Prop} {H0 : Heap} {w : va_W} {B : Option Value → va_W → Prop} {a : Array Value} {pc : Nat} {ls : Array Slot} {st0 rest : List Value} (hr : va_Run p l e R s m args below meth c H locs cells slots 0 0 (F0 m pc ls st0) rest (gQc X w B H.size a) (va_A w H.size)) (hD : va_D A0 w) (hS : va_S A0 H0 H locs) (hA : ∀ q, H0.size ≤ q → A0 q)
    (kk : ∀ (v : Option Value) (u : va_W) (H1 : Heap) (locs1 : List Loc), B v u → va_P X.1 vwCl u H1 → va_D A0 u → va_S A0 H0 H1 locs1 → W p l e R s m args below meth c H1 locs1 cells slots Q (F0 m (pc + 3) ls (v.toList ++ rest))) : W p l e R s m args below meth c H locs cells slots Q (F0 m pc ls st0) := by
  have hF : ∀ q, va_A w H.size q → A0 q := by
    intro q h
    rcases h with ⟨k, e, h⟩ | h
    · exact hD.2 k (q, e) h
    · exact hA q (Nat.le_trans hS.1 h)
  intro T hT Y
  obtain ⟨v, st₀, t, T', L, h0, Y', hL, e1, e2, ⟨⟨v2, u, hv, hB, hP1, hD1⟩, hz, hk⟩, st⟩ := hr T hT Y
  cases hv
  rw [h0] at hz hk
  obtain ⟨t2, a1, b1⟩ := kk v u T'.heap (locs ++ L) hB (by rw [e1]; exact hP1) (hD1.weaken (fun k q _ h => hF q.1 h))
    ⟨Nat.le_trans hS.1 (by rw [e1]; exact hz), fun q h1 h2 => by rw [e1, hk q (Nat.lt_of_lt_of_le h1 hS.1) (fun z => h2 (hF q z))]; exact hS.2.1 q h1 h2, fun q hq => by
      rcases List.mem_append.mp hq with h | h
      · exact hS.2.2 q h
      · exact hF _ (hL q h)⟩ T' rfl Y'
  exact ⟨t2, st t2 a1, b1⟩
end GCALL
/-- the tables' words are good for every callee -/
theorem gGood {y : MethodName} {cc : ByteArray} {nL : Nat} {ret : Option FieldType} (h : Cond.code y cc nL ret ∈ gTs) (hG : ∀ w ∈ gTs, ((w.onTables && w.keeps) = true ∨ ∃ ty, w = .arrayClass ty)) : GoodIn gTs (Cond.code y cc nL ret :: gTs) := by
  intro w hw
  rcases List.mem_cons.mp hw with rfl | hw
  · exact ⟨h, hG _ h⟩
  · exact ⟨hw, hG w hw⟩
section GK
variable {X : gX} {E : gE} {cc : ByteArray} {nL0 : Nat} {own : String} {cells slots pc : Nat} {ws : va_W} {lv : List (Nat × Value)} {rest : List Value}
variable {y : MethodName} {bytes : ByteArray} {maxL n index : Nat} {ret : Option FieldType} {rm : Room} {B : Option Value → va_W → Prop} {As : List Value}
/-- invokevirtual of a method of the receiver's own class -/
theorem g_callV (C : gC X E cc nL0 own) (q0 : Nat) {C0 : String} {T : u_T} {N ci b : Nat} {fs : List Value} (hM : ∀ l, gM l X y bytes maxL ret rm (.ref b :: As) ws B) (he : ws[q0]? = some (b, .inr (ci, fs))) (hc : vwCl[ci]? = some (C0, T, N))
    (h1 : Cond.methodLink own index y ∈ gTs) (cb : gCb y C0 bytes maxL ret n) (h6 : rm.cells = 0 ∧ rm.slots = 0) (hR : rm.frames + 1 ≤ (gRm E).frames ∧ 8 + (maxL + 11) + rm.locals ≤ (gRm E).locals) (hcs : cells ≤ (gRm E).cells ∧ slots ≤ (gRm E).slots) (hn : As.length = n) {st : List Value} (hst : st = As.reverse ++ .ref b :: rest) (hrest : (rest.map fun v => v.category).sum ≤ 8) (hdg : decode cc pc = .ok (.invokevirtual index, 3))
    (kk : ∀ (v : Option Value) (u : va_W), B v u → gW X E cells slots u lv (pc + 3) (v.toList ++ rest)) : gW X E cells slots ws lv pc st := by
  obtain ⟨⟨⟨p, l, e, R⟩, s, m, args, below, meth, c⟩, Q, A, H0, nL⟩ := E
  obtain ⟨⟨hx, hb, hml, hown, hts⟩, hK, hN, hA, hn0⟩ := C
  intro H locs ls hP hD hS hl
  obtain ⟨⟨h2, h3, h4, h5⟩, hd⟩ := cb
  have hG := gGood h5 gTs_good
  have hr := va_runV (e := e) (below := below) (meth := meth) (locs := locs) (cells := cells) (slots := slots) (As := As) (rest := rest) (g := F0 m pc ls st) ⟨hx, hb, hml, hown, hts⟩ (hM l H.size) (R := R) ⟨callB_of n hts hG rfl h6.1 h6.2 (hts _ h4) (hts _ h1) hd hR, hts _ h2, hts _ h3⟩ ⟨gPc_blind, va_recv hK hP hc he, gPc_at hP hK hD hN⟩ rfl hn hl.1 hst (by show 2 * 0 + _ ≤ 8; omega) hdg hcs
  exact gx_call hr hD hS hA (fun v u H1 locs1 hB hP1 hD1 hS1 => kk v u hB H1 locs1 ls hP1 hD1 hS1 hl)
/-- .. of a private method of a nest mate -/
theorem g_callVN (C : gC X E cc nL0 own) (q0 : Nat) {C0 host : String} {T : u_T} {N ci b : Nat} {fs : List Value} (hM : ∀ l, gM l X y bytes maxL ret rm (.ref b :: As) ws B) (he : ws[q0]? = some (b, .inr (ci, fs))) (hc : vwCl[ci]? = some (C0, T, N))
    (h1 : Cond.methodLinkNest own index y host ∈ gNl) (cb : gCb y C0 bytes maxL ret n) (h6 : rm.cells = 0 ∧ rm.slots = 0) (hR : rm.frames + 1 ≤ (gRm E).frames ∧ 8 + (maxL + 11) + rm.locals ≤ (gRm E).locals) (hcs : cells ≤ (gRm E).cells ∧ slots ≤ (gRm E).slots) (hn : As.length = n) {st : List Value} (hst : st = As.reverse ++ .ref b :: rest) (hrest : (rest.map fun v => v.category).sum ≤ 8) (hdg : decode cc pc = .ok (.invokevirtual index, 3))
    (kk : ∀ (v : Option Value) (u : va_W), B v u → gW X E cells slots u lv (pc + 3) (v.toList ++ rest)) : gW X E cells slots ws lv pc st := by
  obtain ⟨⟨⟨p, l, e, R⟩, s, m, args, below, meth, c⟩, Q, A, H0, nL⟩ := E
  obtain ⟨⟨hx, hb, hml, hown, hts⟩, hK, hN, hA, hn0⟩ := C
  intro H locs ls hP hD hS hl
  obtain ⟨⟨h2, h3, h4, h5⟩, hd⟩ := cb
  have hG := gGood h5 gTs_good
  have hr := va_runVN (e := e) (below := below) (meth := meth) (locs := locs) (cells := cells) (slots := slots) (As := As) (rest := rest) (g := F0 m pc ls st) ⟨hx, hb, hml, hown, hts⟩ (hM l H.size) (R := R) ⟨va_cnB n hts hG rfl h6.1 h6.2 (hN _ h1) (hts _ h4) hd hR, hts _ h2, hts _ h3⟩ ⟨gPc_blind, va_recv hK hP hc he, gPc_at hP hK hD hN⟩ rfl hn hl.1 hst (by show 2 * 0 + _ ≤ 8; omega) hdg hcs
  exact gx_call hr hD hS hA (fun v u H1 locs1 hB hP1 hD1 hS1 => kk v u hB H1 locs1 ls hP1 hD1 hS1 hl)
/-- invokestatic -/
theorem g_callS (C : gC X E cc nL0 own) (hM : ∀ l, gM l X y bytes maxL ret rm As ws B)
    (h1 : Cond.methodLink own index y ∈ gTs) (cb : gSb y bytes maxL ret n) (h6 : rm.cells = 0 ∧ rm.slots = 0) (hR : rm.frames + 1 ≤ (gRm E).frames ∧ 8 + (maxL + 11) + rm.locals ≤ (gRm E).locals) (hcs : cells ≤ (gRm E).cells ∧ slots ≤ (gRm E).slots) (hn : As.length = n) {st : List Value} (hst : st = As.reverse ++ rest) (hrest : (rest.map fun v => v.category).sum ≤ 8) (hdg : decode cc pc = .ok (.invokestatic index, 3))
    (kk : ∀ (v : Option Value) (u : va_W), B v u → gW X E cells slots u lv (pc + 3) (v.toList ++ rest)) : gW X E cells slots ws lv pc st := by
  obtain ⟨⟨⟨p, l, e, R⟩, s, m, args, below, meth, c⟩, Q, A, H0, nL⟩ := E
  obtain ⟨⟨hx, hb, hml, hown, hts⟩, hK, hN, hA, hn0⟩ := C
  intro H locs ls hP hD hS hl
  obtain ⟨⟨h2, h4, h5⟩, hd⟩ := cb
  have hG := gGood h5 gTs_good
  have hr := va_runS (e := e) (below := below) (meth := meth) (locs := locs) (cells := cells) (slots := slots) (As := As) (rest := rest) (g := F0 m pc ls st) ⟨hx, hb, hml, hown, hts⟩ (hM l H.size) (R := R) ⟨callB_of n hts hG rfl h6.1 h6.2 (hts _ h4) (hts _ h1) hd hR, hts _ h2⟩ ⟨gPc_blind, gPc_at hP hK hD hN⟩ rfl hn hl.1 hst (by show 2 * 0 + _ ≤ 8; omega) hdg hcs
  exact gx_call hr hD hS hA (fun v u H1 locs1 hB hP1 hD1 hS1 => kk v u hB H1 locs1 ls hP1 hD1 hS1 hl)
end GK
section GLIB
variable {X : gX} {E : gE} {cc : ByteArray} {nL0 : Nat} {own : String} {cells slots pc : Nat} {ws : va_W} {lv : List (Nat × Value)} {st : List Value}
theorem g_mmin (C : gC X E cc nL0 own) {index : Nat} {x y : Int32} (h1 : Cond.methodLink own index Lib.Math.min.name ∈ gTs) (h2 : Cond.static Lib.Math.min.name ∈ gTs) (h3 : Cond.initialized "java/lang/Math" ∈ gTs) (h4 : Cond.code Lib.Math.min.name Lib.Math.min.code 2 (some .int) ∈ gTs) (hR : 1 ≤ (gRm E).frames ∧ (st.map fun v => v.category).sum + 13 ≤ (gRm E).locals) (hcs : cells ≤ (gRm E).cells ∧ slots ≤ (gRm E).slots) (hdg : decode cc pc = .ok (.invokestatic index, 3)) (kk : gW X E cells slots ws lv (pc + 3) (.int (if y < x then y else x) :: st)) : gW X E cells slots ws lv pc (.int y :: .int x :: st) := by
  obtain ⟨⟨⟨p, l, e, R⟩, s, m, args, below, meth, c⟩, Q, A, H0, nL⟩ := E
  obtain ⟨⟨hx, hb, hml, hown, hts⟩, hK, hN, hA, hn0⟩ := C
  intro H locs ls hP hD hS hl
  exact va_mmin hx hb (hml.trans hl.1.symm) hown (hts _ h1) (hts _ h2) (hts _ h3) (hts _ h4) hR.1 hR.2 hcs.1 hcs.2 hdg (kk H locs ls hP hD hS hl)
theorem g_mmax (C : gC X E cc nL0 own) {index : Nat} {x y : Int32} (h1 : Cond.methodLink own index Lib.Math.max.name ∈ gTs) (h2 : Cond.static Lib.Math.max.name ∈ gTs) (h3 : Cond.initialized "java/lang/Math" ∈ gTs) (h4 : Cond.code Lib.Math.max.name Lib.Math.max.code 2 (some .int) ∈ gTs) (hR : 1 ≤ (gRm E).frames ∧ (st.map fun v => v.category).sum + 13 ≤ (gRm E).locals) (hcs : cells ≤ (gRm E).cells ∧ slots ≤ (gRm E).slots) (hdg : decode cc pc = .ok (.invokestatic index, 3)) (kk : gW X E cells slots ws lv (pc + 3) (.int (if x < y then y else x) :: st)) : gW X E cells slots ws lv pc (.int y :: .int x :: st) := by
  obtain ⟨⟨⟨p, l, e, R⟩, s, m, args, below, meth, c⟩, Q, A, H0, nL⟩ := E
  obtain ⟨⟨hx, hb, hml, hown, hts⟩, hK, hN, hA, hn0⟩ := C
  intro H locs ls hP hD hS hl
  exact va_mmax hx hb (hml.trans hl.1.symm) hown (hts _ h1) (hts _ h2) (hts _ h3) (hts _ h4) hR.1 hR.2 hcs.1 hcs.2 hdg (kk H locs ls hP hD hS hl)
/-- System.arraycopy of ints -/
theorem g_copyi (C : gC X E cc nL0 own) {index : Nat} (h1 : Cond.methodLink own index arraycopyName ∈ gTs) (h2 : Cond.native arraycopyName ∈ gTs) (h3 : Cond.static arraycopyName ∈ gTs) (h4 : Cond.initialized "java/lang/System" ∈ gTs) (q0 q1 : Nat) {a0 a : Nat} {c0 c1 : ClassId} {n0 n1 : Nat} {f g : Nat → Int32} {ws2 : va_W} (ha0 : ws[q0]? = some (a0, .inl (c0, n0, .inl f))) (ha1 : ws[q1]? = some (a, .inl (c1, n1, .inl g))) (ht0 : (gT X)[0]? = some (c0, .int)) (ht1 : (gT X)[0]? = some (c1, .int)) {sp dp n : Int32} (hh : ¬ sp < 0 ∧ ¬ dp < 0 ∧ ¬ n < 0 ∧ sp.toNatClampNeg + n.toNatClampNeg ≤ n0 ∧ dp.toNatClampNeg + n.toNatClampNeg ≤ n1) (hR : 1 ≤ (gRm E).frames ∧ (st.map fun v => v.category).sum + (nativeFrameWords "java/lang/System" "arraycopy" 5 + 11) ≤ (gRm E).locals) (e2 : ws.set q1 (a, .inl (c1, n1, .inl (va_cpy f g sp.toNatClampNeg dp.toNatClampNeg n.toNatClampNeg))) = ws2) (hdg : decode cc pc = .ok (.invokestatic index, 3)) (kk : gW X E cells slots ws2 lv (pc + 3) st) : gW X E cells slots ws lv pc (.int n :: .int dp :: .ref a :: .int sp :: .ref a0 :: st) := by
  obtain ⟨⟨⟨p, l, e, R⟩, s, m, args, below, meth, c⟩, Q, A, H0, nL⟩ := E
  obtain ⟨⟨hx, hb, hml, hown, hts⟩, hK, hN, hA, hn0⟩ := C
  intro H locs ls hP hD hS hl
  exact va_copyi hx hb (hml.trans hl.1.symm) hown (hts _ h1) (hts _ h2) (hts _ h3) (hts _ h4) hK hP hD hS q0 q1 0 0 ha0 ha1 ht0 ht1 rfl hh.1 hh.2.1 hh.2.2.1 hh.2.2.2.1 hh.2.2.2.2 (fun _ _ => rfl) hR.1 hR.2 hdg (fun H1 locs1 hP1 hD1 hS1 => kk H1 locs1 ls (e2 ▸ hP1) (e2 ▸ hD1) hS1 hl)
end GLIB
section GKU
variable {X : gX} {E : gE} {cc : ByteArray} {nL0 : Nat} {own : String} {cells slots pc : Nat} {ws : va_W} {lv : List (Nat × Value)} {rest : List Value}
variable {x y : MethodName} {bytes : ByteArray} {maxL n index : Nat} {ret : Option FieldType} {rm : Room} {B : Option Value → va_W → Prop} {As : List Value}
/-- invokevirtual of an abstract method x; the receiver's y is run -/
theorem g_callU (C : gC X E cc nL0 own) (q0 : Nat) {C0 owner : String} {T : u_T} {N ci b : Nat} {fs : List Value} (hM : ∀ l, gM l X y bytes maxL ret rm (.ref b :: As) ws B) (he : ws[q0]? = some (b, .inr (ci, fs))) (hc : vwCl[ci]? = some (C0, T, N))
    (h1 : Cond.methodLink own index x ∈ gTs) (h2 : Cond.sameMethod x.cls owner x.name x.desc ∈ gTs) (hz : Cond.declares ⟨owner, x.name, x.desc⟩ ∈ gNl) (h3 : Cond.selects C0 x y ∈ gTs) (hi : Cond.instanceMethod y ∈ gTs) (h4 : Cond.initialized y.cls ∈ gTs) (h5 : Cond.code y bytes maxL ret ∈ gTs) (hd : owner ≠ "java/lang/invoke/MethodHandle" ∧ owner ≠ "java/lang/invoke/VarHandle" ∧ (parseMethodDescriptor x.desc).map (fun d => d.parameters.length) = some n) (h6 : rm.cells = 0 ∧ rm.slots = 0)
    (hR : rm.frames + 1 ≤ (gRm E).frames ∧ 8 + (maxL + 11) + rm.locals ≤ (gRm E).locals) (hcs : cells ≤ (gRm E).cells ∧ slots ≤ (gRm E).slots) (hn : As.length = n) {st : List Value} (hst : st = As.reverse ++ .ref b :: rest) (hrest : (rest.map fun v => v.category).sum ≤ 8) (hdg : decode cc pc = .ok (.invokevirtual index, 3))
    (kk : ∀ (v : Option Value) (u : va_W), B v u → gW X E cells slots u lv (pc + 3) (v.toList ++ rest)) : gW X E cells slots ws lv pc st := by
  obtain ⟨⟨⟨p, l, e, R⟩, s, m, args, below, meth, c⟩, Q, A, H0, nL⟩ := E
  obtain ⟨⟨hx, hb, hml, hown, hts⟩, hK, hN, hA, hn0⟩ := C
  intro H locs ls hP hD hS hl
  have hG := gGood h5 gTs_good
  have hlen : ∀ sig, parseMethodDescriptor x.desc = some sig → n = sig.parameters.length := by
    intro sig h
    have h2 := hd.2.2
    rw [h] at h2
    exact (Option.some.inj h2).symm
  have hr := va_runU (e := e) (below := below) (meth := meth) (locs := locs) (cells := cells) (slots := slots) (As := As) (rest := rest) (g := F0 m pc ls st) ⟨hx, hb, hml, hown, hts⟩ (hM l H.size) (R := R) (C := C0) (owner := owner) (index := index) (x := x) (n := n) ⟨⟨h6.1, h6.2, hR.1, hR.2, pay_in hts hG, List.mem_cons_self⟩, hts _ h5, hts _ h4, ⟨hd.1, hd.2.1⟩, hlen, hts _ h1, hts _ h2, va_Decl.abs (hN _ hz), hts _ h3, hts _ hi⟩ ⟨gPc_blind, va_recv hK hP hc he, gPc_at hP hK hD hN⟩ rfl hn hl.1 hst (by show 2 * 0 + _ ≤ 8; omega) hdg hcs
  exact gx_call hr hD hS hA (fun v u H1 locs1 hB hP1 hD1 hS1 => kk v u hB H1 locs1 ls hP1 hD1 hS1 hl)
end GKU
/-! A state of a system: scalars by number, arrays by number. -/
abbrev gS := (Nat → Int32) × (Nat → Nat → Int32)
def up (f : Nat → Int32) (k : Nat) (v : Int32) : Nat → Int32 := fun j => bif Nat.beq j k then v else f j
def ua (f : Nat → Nat → Int32) (k : Nat) (g : Nat → Int32) : Nat → Nat → Int32 := fun j => bif Nat.beq j k then g else f j
def gBi (W : gS → va_W) (Q : Int32 → gS → Prop) : Option Value → va_W → Prop := fun v u => ∃ (r : Int32) (s : gS), v = some (.int r) ∧ u = W s ∧ Q r s
def gBv (W : gS → va_W) (Q : gS → Prop) : Option Value → va_W → Prop := fun v u => ∃ s : gS, v = none ∧ u = W s ∧ Q s
theorem gBi_mk {W : gS → va_W} {Q : Int32 → gS → Prop} {r : Int32} {s : gS} (h : Q r s) : gBi W Q (some (.int r)) (W s) := ⟨r, s, rfl, rfl, h⟩
theorem gBv_mk {W : gS → va_W} {Q : gS → Prop} {s : gS} (h : Q s) : gBv W Q none (W s) := ⟨s, rfl, rfl, h⟩
theorem gki {X : gX} {E : gE} {cells slots pc : Nat} {lv : List (Nat × Value)} {rest : List Value} {W : gS → va_W} {Q : Int32 → gS → Prop} (k : ∀ (r : Int32) (s : gS), Q r s → gW X E cells slots (W s) lv pc (.int r :: rest)) : ∀ (v : Option Value) (u : va_W), gBi W Q v u → gW X E cells slots u lv pc (v.toList ++ rest) := by
  rintro v u ⟨r, s, rfl, rfl, h⟩
  exact k r s h
theorem gkv {X : gX} {E : gE} {cells slots pc : Nat} {lv : List (Nat × Value)} {rest : List Value} {W : gS → va_W} {Q : gS → Prop} (k : ∀ (s : gS), Q s → gW X E cells slots (W s) lv pc rest) : ∀ (v : Option Value) (u : va_W), gBv W Q v u → gW X E cells slots u lv pc (v.toList ++ rest) := by
  rintro v u ⟨s, rfl, rfl, h⟩
  exact k s h
end
section
/-! Methods that may throw: the pack that a throw stands on, contracts, throws, calls. -/
def gTh (A : Nat → Prop) (U : State) (H : Heap) : Prop := vx_Zq Bundle.tN "UNASSIGNED_STACK" Bundle.steD A U H ∧ vx_Zq Bundle.tN "SUPPRESSED_SENTINEL" Bundle.listD A U H ∧ ∀ q ∈ gStr, ∃ sa : Nat, vk_R R_SQ q.1 q.2 sa U
theorem gTh_same {A : Nat → Prop} {u U : State} {H : Heap} (e : U.vm = u.vm) (h : gTh A u H) : gTh A U H :=
  ⟨vx_Zq.moved (by rw [e]; exact Vm.Alike.refl _) h.1, vx_Zq.moved (by rw [e]; exact Vm.Alike.refl _) h.2.1, fun q hq => (h.2.2 q hq).imp fun _ k => vk_R.same e k⟩
theorem gTh_warm {A : Nat → Prop} {s U : State} {H : Heap} (hW : s.WarmedH U.vm) (h : gTh A s H) : gTh A U H :=
  ⟨vx_Zq.moved hW.alike h.1, vx_Zq.moved hW.alike h.2.1, fun q hq => (h.2.2 q hq).imp fun _ k => vk_R.warm hW k⟩
theorem gTh_kept {A : Nat → Prop} {U : State} {H H1 : Heap} (h : gTh A U H) (hq : ∀ a : Nat, a < H.size → ¬ A a → H1[a]? = H[a]?) : gTh A U H1 := ⟨h.1.kept hq, h.2.1.kept hq, h.2.2⟩
theorem gTh_narrow {A B : Nat → Prop} {U : State} {H : Heap} (h : gTh A U H) (hAB : ∀ q, B q → A q) : gTh B U H := ⟨h.1.narrow hAB, h.2.1.narrow hAB, h.2.2⟩
def gPx (X : gX) (av : List Value) (w : va_W) (sz : Nat) : Array Value → State → Prop := va_Pc av (fun U => U.heap.size = sz ∧ va_P X.1 vwCl w U.heap ∧ va_K X.1 vwCl (gT X) U ∧ va_D (fun _ => True) w ∧ (∀ x ∈ gNl, va_Nw x U) ∧ gTh (va_A w sz) U U.heap)
def gXC (X : gX) (w : va_W) (BX : String → va_W → Prop) (sz : Nat) : String → State → State → Prop := fun ec st t => (∃ u : va_W, BX ec u ∧ va_P X.1 vwCl u t.heap ∧ va_D (va_A w sz) u) ∧ va_F (va_A w sz) st t
/-- the contract of a method that returns or throws -/
def gMX (l : Launch) (X : gX) (y : MethodName) (cc : ByteArray) (nL : Nat) (ret : Option FieldType) (rm : Room) (mc ms : Nat) (av : List Value) (w : va_W) (B : Option Value → va_W → Prop) (BX : String → va_W → Prop) : Prop := ∀ sz : Nat, vx_Met l y (.code y cc nL ret :: gTs) rm (gPx X av w sz) (gQc X w B sz) (gXC X w BX sz) mc ms (va_A w sz)
/-- a walk of such a body: what it owes at its ends, and what its throws stand on -/
def gQx (X : gX) (E : gE) (w : va_W) (B : Option Value → va_W → Prop) (BX : String → va_W → Prop) (mc ms sz : Nat) : Prop := match E with
  | (((_, l, _, R), (s, _, args, below, meth, c)), (Q, A, H0, _)) => Q = vx_MQ below (gQc X w B sz) (gXC X w BX sz) args s mc ms (va_A w sz) ∧ A = va_A w sz ∧ H0 = s.heap ∧ s.heap.size = sz ∧ (∀ x ∈ c.exceptionTable.toList, False) ∧ meth.locks = false ∧ l.stackTraces = false ∧ gTh A s s.heap ∧ mc ≤ R.cells ∧ ms ≤ R.slots
def gRx (X : gX) (E : gE) (cc : ByteArray) (ret : Option FieldType) (B : Option Value → va_W → Prop) (mc ms : Nat) : Prop := ∀ (cells slots : Nat) (v : Option Value) (u : va_W) (lv : List (Nat × Value)) (pc : Nat), cells ≤ mc → slots ≤ ms → B v u → ((v = none ∧ ret = none ∧ decode cc pc = .ok (.return_, 1)) ∨ ∃ (x : Int32) (ty : FieldType), v = some (.int x) ∧ ret = some ty ∧ narrow ty (.int x) = .int x ∧ decode cc pc = .ok (.ireturn, 1)) → gW X E cells slots u lv pc v.toList
theorem g_vretx {X : gX} {E : gE} {cc : ByteArray} {B : Option Value → va_W → Prop} {mc ms cells slots : Nat} {ws : va_W} {lv : List (Nat × Value)} {pc : Nat} (r : gRx X E cc none B mc ms) (h1 : cells ≤ mc) (h2 : slots ≤ ms) (hdg : decode cc pc = .ok (.return_, 1)) (h : B none ws) : gW X E cells slots ws lv pc [] := r cells slots none ws lv pc h1 h2 h (Or.inl ⟨rfl, rfl, hdg⟩)
theorem g_iretx {X : gX} {E : gE} {cc : ByteArray} {ty : FieldType} {B : Option Value → va_W → Prop} {mc ms cells slots : Nat} {ws : va_W} {lv : List (Nat × Value)} {pc : Nat} {x : Int32} (r : gRx X E cc (some ty) B mc ms) (h1 : cells ≤ mc) (h2 : slots ≤ ms) (hn : narrow ty (.int x) = .int x) (hdg : decode cc pc = .ok (.ireturn, 1)) (h : B (some (.int x)) ws) : gW X E cells slots ws lv pc [.int x] := r cells slots (some (.int x)) ws lv pc h1 h2 h (Or.inr ⟨x, ty, rfl, rfl, hn, hdg⟩)
theorem gMX_of {l : Launch} {X : gX} {y : MethodName} {cc : ByteArray} {nL : Nat} {ret : Option FieldType} {rm : Room} {mc ms : Nat} {av : List Value} {w : va_W} {B : Option Value → va_W → Prop} {BX : String → va_W → Prop} {own : String} {lv0 : List (Nat × Value)} (hl : l.stackTraces = false) (hy : plainName y.cls = true) (ho : y.cls = own) (hav : (lg_sl av).length ≤ nL) (hlv : lv_args 0 av = lv0) (hmc : mc ≤ rm.cells ∧ ms ≤ rm.slots)
    (body : ∀ (E : gE) (sz : Nat), gC X E cc nL own → gRm E = rm → gRx X E cc ret B mc ms → gQx X E w B BX mc ms sz → gW X E 0 0 w lv0 0 []) : gMX l X y cc nL ret rm mc ms av w B BX := by
  intro sz
  refine vx_ofW (cc := cc) (maxL := nL) (ret := ret) hy rfl ?_
  intro p e s m args below meth c s₁ Bd hml hnh hv
  obtain ⟨rfl, hsz, hP, hK, hD0, hN, hTh⟩ := hv
  have hx := Bd.exec
  have hb := Bd.bytes
  have hr := Bd.returns
  have hlocks := Bd.notSynchronized
  have hts := atoms_spec (ws := Cond.code y cc nL ret :: gTs) Bd.pre
  have hown : s.vm.findClass own = some m.cls := by rw [← ho]; exact findClass_of_methodNamed Bd.named
  subst hsz
  have hD := hD0.self (sz := s.heap.size)
  have hS : va_S (va_A w s.heap.size) s.heap s.heap [] := va_S.rf
  have hl0 := lv_entry av (n := nL) hav
  rw [lg_entry_eq]
  generalize (lg_sl av ++ List.replicate (nL - (lg_sl av).length) Slot.unset).toArray = ls at hl0 ⊢
  rw [hlv] at hl0
  refine body (((p, l, e, (headSpec (Cond.code y cc nL ret :: gTs) rm).room), (s, m, av.toArray, below, meth, c)), (vx_MQ below (gQc X w B s.heap.size) (gXC X w BX s.heap.size) av.toArray s mc ms (va_A w s.heap.size), va_A w s.heap.size, s.heap, nL)) s.heap.size ⟨⟨hx, hb, hml, hown, fun w h => hts w (List.mem_cons_of_mem _ h)⟩, hK, hN, fun q h => Or.inr h, rfl⟩ rfl ?_ ⟨rfl, rfl, rfl, rfl, hnh, hlocks, hl, hTh, hmc.1, hmc.2⟩ s.heap [] ls hP hD hS hl0
  intro cells slots v u lv pc h1 h2 hB hi H locs ls2 hP2 hD2 hS2 hl2
  refine vx_ret (W.widen h1 h2 ?_)
  rcases hi with ⟨rfl, rfl, hdg⟩ | ⟨x, ty, rfl, rfl, hn, hdg⟩
  · exact W.vret hx hb hr (fun t ht hW => ⟨⟨none, u, rfl, hB, by rw [ht]; exact hP2, hD2⟩, hS2.F ht⟩) hS2.2.2 hdg hlocks
  · exact W.zret hx hb hr hn (fun t ht hW => ⟨⟨some (.int x), u, rfl, hB, by rw [ht]; exact hP2, hD2⟩, hS2.F ht⟩) hS2.2.2 hdg hlocks
theorem gPx_blind {X : gX} {av : List Value} {w : va_W} {sz : Nat} : FrameBlind (gPx X av w sz) := by
  intro a U g mk q
  obtain ⟨q0, q1, qP, qK, qD, qN, qT⟩ := q
  exact ⟨q0, q1, qP, va_K.moved (u := U) (U := U.calling g mk a) (Vm.Alike.refl U.vm) qK, qD, fun x hx => gNw_same (s := U) (U := U.calling g mk a) (gNl_ok x hx) rfl (qN x hx), gTh_same (u := U) (U := U.calling g mk a) rfl qT⟩
section GTHROW
variable {X : gX} {E : gE} {cc : ByteArray} {nL0 : Nat} {own : String} {cells slots pc : Nat} {ws w : va_W} {lv : List (Nat × Value)} {st : List Value} {B : Option Value → va_W → Prop} {BX : String → va_W → Prop} {mc ms sz : Nat}
/-- throw new E("text") -/
theorem g_throw (C : gC X E cc nL0 R_SQ) (hX : gQx X E w B BX mc ms sz) {cls text : String} {ik is ic : Nat} (names : List String) (hcls : Bundle.fit cls = true) (hnames : ∀ n ∈ names, Bundle.fit n = true) (hk : Cond.classLink R_SQ ik cls ∈ gTs) (hini : Cond.initialized cls ∈ gTs) (hq : (is, text) ∈ gStr) (hat : ∀ w ∈ vx_atS R_SQ ic cls names, w ∈ gNl) (hgood : ∀ w ∈ Cond.classLink R_SQ ik cls :: Cond.initialized cls :: vx_atS R_SQ ic cls names, vx_ot w = true)
    (d0 : decode cc pc = .ok (.new ik, 3)) (d3 : decode cc (pc + 3) = .ok (.dup, 1)) (d4 : decode cc (pc + 4) = .ok (.ldc is, 2)) (d6 : decode cc (pc + 6) = .ok (.invokespecial ic, 3)) (d9 : decode cc (pc + 9) = .ok (.athrow, 1))
    (hR : names.length + 3 < (gRm E).frames ∧ (st.map fun v => v.category).sum + (13 * (names.length + 1) + 43) ≤ (gRm E).locals) (hc : cells + 1 ≤ mc ∧ slots + 6 ≤ ms) (h : BX cls ws) : gW X E cells slots ws lv pc st := by
  obtain ⟨⟨⟨p, l, e, R⟩, s, m, args, below, meth, c⟩, Q, A, H0, nL⟩ := E
  obtain ⟨⟨hx, hb, hml, hown, hts⟩, hK, hN, hA, hn0⟩ := C
  obtain ⟨rfl, rfl, rfl, hsz, hnh, hlocks, hl, hTh, hRc, hRs⟩ := hX
  intro H locs ls hP hD hS hlv
  obtain ⟨sa, hstr⟩ := hTh.2.2 _ hq
  refine vx_throwS (A := va_A w sz) (sa := sa) (text := text) hx hb hl hown hcls hnames (hts _ hk) (hts _ hini) hstr (fun z hz => va_Nw.use (gNw_tab (gNl_ok z (hat z hz))) (hN z (hat z hz))) hgood hTh.1 hTh.2.1 hS (hlv.1.trans hml.symm) d0 d3 d4 d6 d9 (fun z hz => (hnh z hz).elim) hR.1 hR.2 (Nat.le_trans hc.1 hRc) (Nat.le_trans hc.2 hRs) hlocks ?_ hS.2.2 hc.1 hc.2
  intro t hal hz hk2
  refine ⟨⟨ws, h, hP.kept (fun k q hq => hk2 q.1 (hP k q hq).lt), hD⟩, Nat.le_trans hS.1 hz, fun q h1 h2 => ?_⟩
  rw [hk2 q (Nat.lt_of_lt_of_le h1 hS.1)]
  exact hS.2.1 q h1 h2
variable {y : MethodName} {bytes : ByteArray} {maxL n index : Nat} {ret : Option FieldType} {rm : Room} {As rest : List Value} {B2 : Option Value → va_W → Prop} {BX2 : String → va_W → Prop} {mc2 ms2 : Nat}
/-- invokevirtual of a method that may throw; what is thrown goes on to the caller -/
theorem g_callVx (C : gC X E cc nL0 own) (hX : gQx X E w B BX mc ms sz) (q0 : Nat) {C0 : String} {T : u_T} {N ci b : Nat} {fs : List Value} (hM : ∀ l, l.stackTraces = false → gMX l X y bytes maxL ret rm mc2 ms2 (.ref b :: As) ws B2 BX2) (he : ws[q0]? = some (b, .inr (ci, fs))) (hc : vwCl[ci]? = some (C0, T, N))
    (h1 : Cond.methodLink own index y ∈ gTs) (cb : gCb y C0 bytes maxL ret n) (h6 : rm.cells = mc2 ∧ rm.slots = ms2) (hR : rm.frames + 1 ≤ (gRm E).frames ∧ 8 + (maxL + 11) + rm.locals ≤ (gRm E).locals) (hcs : cells + mc2 ≤ mc ∧ slots + ms2 ≤ ms) (hn : As.length = n) (hst : st = As.reverse ++ .ref b :: rest) (hrest : (rest.map fun v => v.category).sum ≤ 8) (hdg : decode cc pc = .ok (.invokevirtual index, 3))
    (kx : ∀ (ec : String) (u : va_W), BX2 ec u → BX ec u)
    (kk : ∀ (v : Option Value) (u : va_W), B2 v u → gW X E (cells + mc2) (slots + ms2) u lv (pc + 3) (v.toList ++ rest)) : gW X E cells slots ws lv pc st := by
  obtain ⟨⟨⟨p, l, e, R⟩, s, m, args, below, meth, c⟩, Q, A, H0, nL⟩ := E
  obtain ⟨⟨hx, hb, hml, hown, hts⟩, hK, hN, hA, hn0⟩ := C
  obtain ⟨rfl, rfl, rfl, hsz, hnh, hlocks, hl, hTh, hRc, hRs⟩ := hX
  intro H locs ls hP hD hS hlv
  obtain ⟨⟨h2, h3, h4, h5⟩, hd⟩ := cb
  have hG := gGood h5 gTs_good
  have hF : ∀ q, va_A ws H.size q → va_A w sz q := by
    intro q h
    rcases h with ⟨k, e, h⟩ | h
    · exact hD.2 k (q, e) h
    · exact hA q (Nat.le_trans hS.1 h)
  have hTh2 : gTh (va_A ws H.size) s H := gTh_narrow (gTh_kept hTh hS.2.1) hF
  have hpre : ∀ U : State, U.heap = H → s.WarmedH U.vm → gPx X (Value.ref b :: As) ws H.size (Value.ref b :: As).toArray U := fun U hU hW => ⟨rfl, by rw [hU], by rw [hU]; exact hP, va_K.moved hW.alike hK, hD.weaken (fun _ _ _ _ => trivial), fun x hx => gNw_warm (gNl_ok x hx) hW (hN x hx), by rw [hU]; exact gTh_warm hW hTh2⟩
  have hr := vx_runV (e := e) (below := below) (meth := meth) (locs := locs) (cells := cells) (slots := slots) (As := As) (rest := rest) (g := F0 m pc ls st) ⟨hx, hb, hml, hown, hts⟩ (hM l hl H.size) (R := R) (C := C0) ⟨callB_of n hts hG rfl h6.1 h6.2 (hts _ h4) (hts _ h1) hd hR, hts _ h2, hts _ h3⟩ ⟨gPx_blind, va_recv hK hP hc he, hpre⟩ rfl hn hlv.1 hst (by show 2 * 0 + _ ≤ 8; omega) hdg ⟨Nat.le_trans hcs.1 hRc, Nat.le_trans hcs.2 hRs⟩
  intro T hT Y
  rcases hr T hT Y with ⟨v, st₀, t, T', L, h0, Y', hL, e1, e2, ⟨⟨v2, u, hv, hB, hP1, hD1⟩, hFr⟩, stp⟩ | ⟨q, st₀, t, T', L, ec, ce, h0, Y', hL, e1, e2, ⟨⟨u, hB, hP1, hD1⟩, hFr⟩, hce, hcv, hcl, stp⟩
  · cases hv
    obtain ⟨k1, k2, k3⟩ := vx_keep (A0 := va_A w sz) (A1 := va_A ws H.size) h0 e1 hS (fun q _ h => hF q h) hF hL hFr
    obtain ⟨t2, a1, b1⟩ := kk v u hB T'.heap (locs ++ L) ls (by rw [e1]; exact hP1) (hD1.weaken (fun k q _ h => hF q.1 h)) k3 hlv T' rfl Y'
    exact ⟨t2, stp t2 a1, b1⟩
  · obtain ⟨k1, k2, k3⟩ := vx_keep (A0 := va_A w sz) (A1 := va_A ws H.size) h0 e1 hS (fun q _ h => hF q h) hF hL hFr
    have ho : vx_W p l e R s m args below meth c T'.heap (locs ++ L) (cells + mc2) (slots + ms2) (vx_MQ below (gQc X w B sz) (gXC X w BX sz) args s mc ms (va_A w sz)) (F0 m pc ls rest) q := by
      refine vx_out (fun z hz => (hnh z hz).elim) hlocks (by rw [e1]; exact hce) hcv hcl (fun t9 ht9 _ => ⟨⟨u, kx ec u hB, by rw [ht9, e1]; exact hP1, hD1.weaken (fun k q _ h => hF q.1 h)⟩, ?_⟩) k3.2.2 hcs.1 hcs.2
      exact k3.F ht9
    obtain ⟨t2, a1, b1⟩ := ho T' rfl Y'
    exact ⟨t2, stp.trans a1, b1⟩
end GTHROW
/-- the thrown, by number -/
def gEx : Nat → String
  | 0 => "java/lang/IllegalStateException"
  | 1 => "java/lang/IllegalArgumentException"
  | _ => "java/lang/IndexOutOfBoundsException"
def gBx (W : gS → va_W) (XQ : Nat → gS → Prop) : String → va_W → Prop := fun ec u => ∃ (k : Nat) (s : gS), ec = gEx k ∧ u = W s ∧ XQ k s
theorem gBx_mk {W : gS → va_W} {XQ : Nat → gS → Prop} (k : Nat) {s : gS} (h : XQ k s) : gBx W XQ (gEx k) (W s) := ⟨k, s, rfl, rfl, h⟩
end
