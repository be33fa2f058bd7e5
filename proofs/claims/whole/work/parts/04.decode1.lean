theorem d_RU_takeFrom_16 : decode b_RU_takeFrom 16 = .ok (.istore_n 2, 1) := by decide +kernel
theorem d_RU_takeFrom_17 : decode b_RU_takeFrom 17 = .ok (.aload_n 0, 1) := by decide +kernel
theorem d_RU_takeFrom_18 : decode b_RU_takeFrom 18 = .ok (.getfield 15, 3) := by decide +kernel
theorem d_RU_takeFrom_21 : decode b_RU_takeFrom 21 = .ok (.iload_n 1, 1) := by decide +kernel
theorem d_RU_takeFrom_22 : decode b_RU_takeFrom 22 = .ok (.dup2, 1) := by decide +kernel
theorem d_RU_takeFrom_23 : decode b_RU_takeFrom 23 = .ok (.iaload, 1) := by decide +kernel
theorem d_RU_takeFrom_24 : decode b_RU_takeFrom 24 = .ok (.iconst 1, 1) := by decide +kernel
theorem d_RU_takeFrom_25 : decode b_RU_takeFrom 25 = .ok (.iadd, 1) := by decide +kernel
theorem d_RU_takeFrom_26 : decode b_RU_takeFrom 26 = .ok (.iastore, 1) := by decide +kernel
theorem d_RU_takeFrom_27 : decode b_RU_takeFrom 27 = .ok (.aload_n 0, 1) := by decide +kernel
theorem d_RU_takeFrom_28 : decode b_RU_takeFrom 28 = .ok (.getfield 18, 3) := by decide +kernel
theorem d_RU_takeFrom_31 : decode b_RU_takeFrom 31 = .ok (.iload_n 1, 1) := by decide +kernel
theorem d_RU_takeFrom_32 : decode b_RU_takeFrom 32 = .ok (.dup2, 1) := by decide +kernel
theorem d_RU_takeFrom_33 : decode b_RU_takeFrom 33 = .ok (.iaload, 1) := by decide +kernel
theorem d_RU_takeFrom_34 : decode b_RU_takeFrom 34 = .ok (.iconst 1, 1) := by decide +kernel
theorem d_RU_takeFrom_35 : decode b_RU_takeFrom 35 = .ok (.isub, 1) := by decide +kernel
theorem d_RU_takeFrom_36 : decode b_RU_takeFrom 36 = .ok (.iastore, 1) := by decide +kernel
theorem d_RU_takeFrom_37 : decode b_RU_takeFrom 37 = .ok (.aload_n 0, 1) := by decide +kernel
theorem d_RU_takeFrom_38 : decode b_RU_takeFrom 38 = .ok (.getfield 18, 3) := by decide +kernel
theorem d_RU_takeFrom_41 : decode b_RU_takeFrom 41 = .ok (.iload_n 1, 1) := by decide +kernel
theorem d_RU_takeFrom_42 : decode b_RU_takeFrom 42 = .ok (.iaload, 1) := by decide +kernel
theorem d_RU_takeFrom_43 : decode b_RU_takeFrom 43 = .ok (.ifCond .le 46, 3) := by decide +kernel
theorem d_RU_takeFrom_46 : decode b_RU_takeFrom 46 = .ok (.aload_n 0, 1) := by decide +kernel
theorem d_RU_takeFrom_47 : decode b_RU_takeFrom 47 = .ok (.getfield 15, 3) := by decide +kernel
theorem d_RU_takeFrom_50 : decode b_RU_takeFrom 50 = .ok (.iload_n 1, 1) := by decide +kernel
theorem d_RU_takeFrom_51 : decode b_RU_takeFrom 51 = .ok (.iaload, 1) := by decide +kernel
theorem d_RU_takeFrom_52 : decode b_RU_takeFrom 52 = .ok (.aload_n 0, 1) := by decide +kernel
theorem d_RU_takeFrom_53 : decode b_RU_takeFrom 53 = .ok (.getfield 31, 3) := by decide +kernel
theorem d_RU_takeFrom_56 : decode b_RU_takeFrom 56 = .ok (.invokevirtual 49, 3) := by decide +kernel
theorem d_RU_takeFrom_59 : decode b_RU_takeFrom 59 = .ok (.if_icmp .lt 30, 3) := by decide +kernel
theorem d_RU_takeFrom_62 : decode b_RU_takeFrom 62 = .ok (.aload_n 0, 1) := by decide +kernel
theorem d_RU_takeFrom_63 : decode b_RU_takeFrom 63 = .ok (.getfield 9, 3) := by decide +kernel
theorem d_RU_takeFrom_66 : decode b_RU_takeFrom 66 = .ok (.iload_n 1, 1) := by decide +kernel
theorem d_RU_takeFrom_67 : decode b_RU_takeFrom 67 = .ok (.aload_n 0, 1) := by decide +kernel
theorem d_RU_takeFrom_68 : decode b_RU_takeFrom 68 = .ok (.getfield 31, 3) := by decide +kernel
theorem d_RU_takeFrom_71 : decode b_RU_takeFrom 71 = .ok (.aload_n 0, 1) := by decide +kernel
theorem d_RU_takeFrom_72 : decode b_RU_takeFrom 72 = .ok (.getfield 9, 3) := by decide +kernel
theorem d_RU_takeFrom_75 : decode b_RU_takeFrom 75 = .ok (.iload_n 1, 1) := by decide +kernel
theorem d_RU_takeFrom_76 : decode b_RU_takeFrom 76 = .ok (.iaload, 1) := by decide +kernel
theorem d_RU_takeFrom_77 : decode b_RU_takeFrom 77 = .ok (.iconst 1, 1) := by decide +kernel
theorem d_RU_takeFrom_78 : decode b_RU_takeFrom 78 = .ok (.invokevirtual 39, 3) := by decide +kernel
theorem d_RU_takeFrom_81 : decode b_RU_takeFrom 81 = .ok (.iastore, 1) := by decide +kernel
theorem d_RU_takeFrom_82 : decode b_RU_takeFrom 82 = .ok (.aload_n 0, 1) := by decide +kernel
theorem d_RU_takeFrom_83 : decode b_RU_takeFrom 83 = .ok (.getfield 15, 3) := by decide +kernel
theorem d_RU_takeFrom_86 : decode b_RU_takeFrom 86 = .ok (.iload_n 1, 1) := by decide +kernel
theorem d_RU_takeFrom_87 : decode b_RU_takeFrom 87 = .ok (.iconst 0, 1) := by decide +kernel
theorem d_RU_takeFrom_88 : decode b_RU_takeFrom 88 = .ok (.iastore, 1) := by decide +kernel
theorem d_RU_takeFrom_89 : decode b_RU_takeFrom 89 = .ok (.aload_n 0, 1) := by decide +kernel
theorem d_RU_takeFrom_90 : decode b_RU_takeFrom 90 = .ok (.getfield 24, 3) := by decide +kernel
theorem d_RU_takeFrom_93 : decode b_RU_takeFrom 93 = .ok (.iload_n 1, 1) := by decide +kernel
theorem d_RU_takeFrom_94 : decode b_RU_takeFrom 94 = .ok (.aload_n 0, 1) := by decide +kernel
theorem d_RU_takeFrom_95 : decode b_RU_takeFrom 95 = .ok (.getfield 31, 3) := by decide +kernel
theorem d_RU_takeFrom_98 : decode b_RU_takeFrom 98 = .ok (.aload_n 0, 1) := by decide +kernel
theorem d_RU_takeFrom_99 : decode b_RU_takeFrom 99 = .ok (.getfield 9, 3) := by decide +kernel
theorem d_RU_takeFrom_102 : decode b_RU_takeFrom 102 = .ok (.iload_n 1, 1) := by decide +kernel
theorem d_RU_takeFrom_103 : decode b_RU_takeFrom 103 = .ok (.iaload, 1) := by decide +kernel
theorem d_RU_takeFrom_104 : decode b_RU_takeFrom 104 = .ok (.iconst 2, 1) := by decide +kernel
theorem d_RU_takeFrom_105 : decode b_RU_takeFrom 105 = .ok (.aload_n 0, 1) := by decide +kernel
theorem d_RU_takeFrom_106 : decode b_RU_takeFrom 106 = .ok (.getfield 15, 3) := by decide +kernel
theorem d_RU_takeFrom_109 : decode b_RU_takeFrom 109 = .ok (.iload_n 1, 1) := by decide +kernel
theorem d_RU_takeFrom_110 : decode b_RU_takeFrom 110 = .ok (.iaload, 1) := by decide +kernel
theorem d_RU_takeFrom_111 : decode b_RU_takeFrom 111 = .ok (.iadd, 1) := by decide +kernel
theorem d_RU_takeFrom_112 : decode b_RU_takeFrom 112 = .ok (.invokevirtual 39, 3) := by decide +kernel
theorem d_RU_takeFrom_115 : decode b_RU_takeFrom 115 = .ok (.iastore, 1) := by decide +kernel
theorem d_RU_takeFrom_116 : decode b_RU_takeFrom 116 = .ok (.iload_n 2, 1) := by decide +kernel
theorem d_RU_takeFrom_117 : decode b_RU_takeFrom 117 = .ok (.ireturn, 1) := by decide +kernel
theorem d_RU_keysInAll_0 : decode b_RU_keysInAll 0 = .ok (.iconst 0, 1) := by decide +kernel
theorem d_RU_keysInAll_1 : decode b_RU_keysInAll 1 = .ok (.istore_n 1, 1) := by decide +kernel
theorem d_RU_keysInAll_2 : decode b_RU_keysInAll 2 = .ok (.iconst 0, 1) := by decide +kernel
theorem d_RU_keysInAll_3 : decode b_RU_keysInAll 3 = .ok (.istore_n 2, 1) := by decide +kernel
theorem d_RU_keysInAll_4 : decode b_RU_keysInAll 4 = .ok (.iload_n 2, 1) := by decide +kernel
theorem d_RU_keysInAll_5 : decode b_RU_keysInAll 5 = .ok (.aload_n 0, 1) := by decide +kernel
theorem d_RU_keysInAll_6 : decode b_RU_keysInAll 6 = .ok (.getfield 35, 3) := by decide +kernel
theorem d_RU_keysInAll_9 : decode b_RU_keysInAll 9 = .ok (.if_icmp .ge 18, 3) := by decide +kernel
theorem d_RU_keysInAll_12 : decode b_RU_keysInAll 12 = .ok (.iload_n 1, 1) := by decide +kernel
theorem d_RU_keysInAll_13 : decode b_RU_keysInAll 13 = .ok (.aload_n 0, 1) := by decide +kernel
theorem d_RU_keysInAll_14 : decode b_RU_keysInAll 14 = .ok (.getfield 18, 3) := by decide +kernel
theorem d_RU_keysInAll_17 : decode b_RU_keysInAll 17 = .ok (.iload_n 2, 1) := by decide +kernel
theorem d_RU_keysInAll_18 : decode b_RU_keysInAll 18 = .ok (.iaload, 1) := by decide +kernel
theorem d_RU_keysInAll_19 : decode b_RU_keysInAll 19 = .ok (.iadd, 1) := by decide +kernel
theorem d_RU_keysInAll_20 : decode b_RU_keysInAll 20 = .ok (.istore_n 1, 1) := by decide +kernel
theorem d_RU_keysInAll_21 : decode b_RU_keysInAll 21 = .ok (.iinc 2 1, 3) := by decide +kernel
theorem d_RU_keysInAll_24 : decode b_RU_keysInAll 24 = .ok (.goto (-20), 3) := by decide +kernel
theorem d_RU_keysInAll_27 : decode b_RU_keysInAll 27 = .ok (.iload_n 1, 1) := by decide +kernel
theorem d_RU_keysInAll_28 : decode b_RU_keysInAll 28 = .ok (.ireturn, 1) := by decide +kernel
theorem d_RU_markBlocks_0 : decode b_RU_markBlocks 0 = .ok (.iconst 0, 1) := by decide +kernel
theorem d_RU_markBlocks_1 : decode b_RU_markBlocks 1 = .ok (.istore_n 2, 1) := by decide +kernel
theorem d_RU_markBlocks_2 : decode b_RU_markBlocks 2 = .ok (.iload_n 2, 1) := by decide +kernel
theorem d_RU_markBlocks_3 : decode b_RU_markBlocks 3 = .ok (.aload_n 0, 1) := by decide +kernel
theorem d_RU_markBlocks_4 : decode b_RU_markBlocks 4 = .ok (.getfield 35, 3) := by decide +kernel
theorem d_RU_markBlocks_7 : decode b_RU_markBlocks 7 = .ok (.if_icmp .ge 53, 3) := by decide +kernel
theorem d_RU_markBlocks_10 : decode b_RU_markBlocks 10 = .ok (.aload_n 0, 1) := by decide +kernel
theorem d_RU_markBlocks_11 : decode b_RU_markBlocks 11 = .ok (.getfield 9, 3) := by decide +kernel
theorem d_RU_markBlocks_14 : decode b_RU_markBlocks 14 = .ok (.iload_n 2, 1) := by decide +kernel
theorem d_RU_markBlocks_15 : decode b_RU_markBlocks 15 = .ok (.iaload, 1) := by decide +kernel
theorem d_RU_markBlocks_16 : decode b_RU_markBlocks 16 = .ok (.istore_n 3, 1) := by decide +kernel
theorem d_RU_markBlocks_17 : decode b_RU_markBlocks 17 = .ok (.iconst 0, 1) := by decide +kernel
theorem d_RU_markBlocks_18 : decode b_RU_markBlocks 18 = .ok (.istore 4, 2) := by decide +kernel
theorem d_RU_markBlocks_20 : decode b_RU_markBlocks 20 = .ok (.iload 4, 2) := by decide +kernel
theorem d_RU_markBlocks_22 : decode b_RU_markBlocks 22 = .ok (.sipush 200, 3) := by decide +kernel
theorem d_RU_markBlocks_25 : decode b_RU_markBlocks 25 = .ok (.if_icmp .ge 29, 3) := by decide +kernel
theorem d_RU_markBlocks_28 : decode b_RU_markBlocks 28 = .ok (.iload_n 3, 1) := by decide +kernel
theorem d_RU_markBlocks_29 : decode b_RU_markBlocks 29 = .ok (.iconst 2, 1) := by decide +kernel
theorem d_RU_markBlocks_30 : decode b_RU_markBlocks 30 = .ok (.if_icmp .lt 24, 3) := by decide +kernel
theorem d_RU_markBlocks_33 : decode b_RU_markBlocks 33 = .ok (.aload_n 1, 1) := by decide +kernel
theorem d_RU_markBlocks_34 : decode b_RU_markBlocks 34 = .ok (.iload_n 3, 1) := by decide +kernel
theorem d_RU_markBlocks_35 : decode b_RU_markBlocks 35 = .ok (.invokevirtual 53, 3) := by decide +kernel
theorem d_RU_markBlocks_38 : decode b_RU_markBlocks 38 = .ok (.aload_n 0, 1) := by decide +kernel
theorem d_RU_markBlocks_39 : decode b_RU_markBlocks 39 = .ok (.getfield 31, 3) := by decide +kernel
theorem d_RU_markBlocks_42 : decode b_RU_markBlocks 42 = .ok (.iload_n 3, 1) := by decide +kernel
theorem d_RU_markBlocks_43 : decode b_RU_markBlocks 43 = .ok (.iconst 1, 1) := by decide +kernel
theorem d_RU_markBlocks_44 : decode b_RU_markBlocks 44 = .ok (.invokevirtual 39, 3) := by decide +kernel
theorem d_RU_markBlocks_47 : decode b_RU_markBlocks 47 = .ok (.istore_n 3, 1) := by decide +kernel
theorem d_RU_markBlocks_48 : decode b_RU_markBlocks 48 = .ok (.iinc 4 1, 3) := by decide +kernel
theorem d_RU_markBlocks_51 : decode b_RU_markBlocks 51 = .ok (.goto (-31), 3) := by decide +kernel
theorem d_RU_markBlocks_54 : decode b_RU_markBlocks 54 = .ok (.iinc 2 1, 3) := by decide +kernel
theorem d_RU_markBlocks_57 : decode b_RU_markBlocks 57 = .ok (.goto (-55), 3) := by decide +kernel
theorem d_RU_markBlocks_60 : decode b_RU_markBlocks 60 = .ok (.return_, 1) := by decide +kernel
theorem d_RU_greatestLevel_0 : decode b_RU_greatestLevel 0 = .ok (.aload_n 0, 1) := by decide +kernel
theorem d_RU_greatestLevel_1 : decode b_RU_greatestLevel 1 = .ok (.getfield 21, 3) := by decide +kernel
theorem d_RU_greatestLevel_4 : decode b_RU_greatestLevel 4 = .ok (.iconst 0, 1) := by decide +kernel
theorem d_RU_greatestLevel_5 : decode b_RU_greatestLevel 5 = .ok (.iaload, 1) := by decide +kernel
theorem d_RU_greatestLevel_6 : decode b_RU_greatestLevel 6 = .ok (.istore_n 1, 1) := by decide +kernel
theorem d_RU_greatestLevel_7 : decode b_RU_greatestLevel 7 = .ok (.iconst 1, 1) := by decide +kernel
theorem d_RU_greatestLevel_8 : decode b_RU_greatestLevel 8 = .ok (.istore_n 2, 1) := by decide +kernel
theorem d_RU_greatestLevel_9 : decode b_RU_greatestLevel 9 = .ok (.iload_n 2, 1) := by decide +kernel
theorem d_RU_greatestLevel_10 : decode b_RU_greatestLevel 10 = .ok (.aload_n 0, 1) := by decide +kernel
theorem d_RU_greatestLevel_11 : decode b_RU_greatestLevel 11 = .ok (.getfield 35, 3) := by decide +kernel
theorem d_RU_greatestLevel_14 : decode b_RU_greatestLevel 14 = .ok (.if_icmp .ge 20, 3) := by decide +kernel
theorem d_RU_greatestLevel_17 : decode b_RU_greatestLevel 17 = .ok (.iload_n 1, 1) := by decide +kernel
theorem d_RU_greatestLevel_18 : decode b_RU_greatestLevel 18 = .ok (.aload_n 0, 1) := by decide +kernel
theorem d_RU_greatestLevel_19 : decode b_RU_greatestLevel 19 = .ok (.getfield 21, 3) := by decide +kernel
theorem d_RU_greatestLevel_22 : decode b_RU_greatestLevel 22 = .ok (.iload_n 2, 1) := by decide +kernel
theorem d_RU_greatestLevel_23 : decode b_RU_greatestLevel 23 = .ok (.iaload, 1) := by decide +kernel
theorem d_RU_greatestLevel_24 : decode b_RU_greatestLevel 24 = .ok (.invokestatic 59, 3) := by decide +kernel
theorem d_RU_greatestLevel_27 : decode b_RU_greatestLevel 27 = .ok (.istore_n 1, 1) := by decide +kernel
theorem d_RU_greatestLevel_28 : decode b_RU_greatestLevel 28 = .ok (.iinc 2 1, 3) := by decide +kernel
theorem d_RU_greatestLevel_31 : decode b_RU_greatestLevel 31 = .ok (.goto (-22), 3) := by decide +kernel
theorem d_RU_greatestLevel_34 : decode b_RU_greatestLevel 34 = .ok (.iload_n 1, 1) := by decide +kernel
theorem d_RU_greatestLevel_35 : decode b_RU_greatestLevel 35 = .ok (.ireturn, 1) := by decide +kernel
theorem d_RU_crowdedAt_0 : decode b_RU_crowdedAt 0 = .ok (.iconst (-1), 1) := by decide +kernel
theorem d_RU_crowdedAt_1 : decode b_RU_crowdedAt 1 = .ok (.istore_n 2, 1) := by decide +kernel
theorem d_RU_crowdedAt_2 : decode b_RU_crowdedAt 2 = .ok (.iconst 0, 1) := by decide +kernel
theorem d_RU_crowdedAt_3 : decode b_RU_crowdedAt 3 = .ok (.istore_n 3, 1) := by decide +kernel
theorem d_RU_crowdedAt_4 : decode b_RU_crowdedAt 4 = .ok (.iload_n 3, 1) := by decide +kernel
theorem d_RU_crowdedAt_5 : decode b_RU_crowdedAt 5 = .ok (.aload_n 0, 1) := by decide +kernel
theorem d_RU_crowdedAt_6 : decode b_RU_crowdedAt 6 = .ok (.getfield 35, 3) := by decide +kernel
theorem d_RU_crowdedAt_9 : decode b_RU_crowdedAt 9 = .ok (.if_icmp .ge 39, 3) := by decide +kernel
theorem d_RU_crowdedAt_12 : decode b_RU_crowdedAt 12 = .ok (.aload_n 0, 1) := by decide +kernel
theorem d_RU_crowdedAt_13 : decode b_RU_crowdedAt 13 = .ok (.iload_n 3, 1) := by decide +kernel
theorem d_RU_crowdedAt_14 : decode b_RU_crowdedAt 14 = .ok (.invokevirtual 64, 3) := by decide +kernel
theorem d_RU_crowdedAt_17 : decode b_RU_crowdedAt 17 = .ok (.iload_n 1, 1) := by decide +kernel
theorem d_RU_crowdedAt_18 : decode b_RU_crowdedAt 18 = .ok (.if_icmp .lt 24, 3) := by decide +kernel
theorem d_RU_crowdedAt_21 : decode b_RU_crowdedAt 21 = .ok (.iload_n 2, 1) := by decide +kernel
theorem d_RU_crowdedAt_22 : decode b_RU_crowdedAt 22 = .ok (.ifCond .lt 18, 3) := by decide +kernel
theorem d_RU_crowdedAt_25 : decode b_RU_crowdedAt 25 = .ok (.aload_n 0, 1) := by decide +kernel
theorem d_RU_crowdedAt_26 : decode b_RU_crowdedAt 26 = .ok (.getfield 21, 3) := by decide +kernel
theorem d_RU_crowdedAt_29 : decode b_RU_crowdedAt 29 = .ok (.iload_n 3, 1) := by decide +kernel
theorem d_RU_crowdedAt_30 : decode b_RU_crowdedAt 30 = .ok (.iaload, 1) := by decide +kernel
theorem d_RU_crowdedAt_31 : decode b_RU_crowdedAt 31 = .ok (.aload_n 0, 1) := by decide +kernel
theorem d_RU_crowdedAt_32 : decode b_RU_crowdedAt 32 = .ok (.getfield 21, 3) := by decide +kernel
theorem d_RU_crowdedAt_35 : decode b_RU_crowdedAt 35 = .ok (.iload_n 2, 1) := by decide +kernel
theorem d_RU_crowdedAt_36 : decode b_RU_crowdedAt 36 = .ok (.iaload, 1) := by decide +kernel
theorem d_RU_crowdedAt_37 : decode b_RU_crowdedAt 37 = .ok (.if_icmp .ge 5, 3) := by decide +kernel
theorem d_RU_crowdedAt_40 : decode b_RU_crowdedAt 40 = .ok (.iload_n 3, 1) := by decide +kernel
theorem d_RU_crowdedAt_41 : decode b_RU_crowdedAt 41 = .ok (.istore_n 2, 1) := by decide +kernel
theorem d_RU_crowdedAt_42 : decode b_RU_crowdedAt 42 = .ok (.iinc 3 1, 3) := by decide +kernel
theorem d_RU_crowdedAt_45 : decode b_RU_crowdedAt 45 = .ok (.goto (-41), 3) := by decide +kernel
theorem d_RU_crowdedAt_48 : decode b_RU_crowdedAt 48 = .ok (.iload_n 2, 1) := by decide +kernel
theorem d_RU_crowdedAt_49 : decode b_RU_crowdedAt 49 = .ok (.ireturn, 1) := by decide +kernel
theorem d_RU_runsAtLevelOf_0 : decode b_RU_runsAtLevelOf 0 = .ok (.iconst 0, 1) := by decide +kernel
theorem d_RU_runsAtLevelOf_1 : decode b_RU_runsAtLevelOf 1 = .ok (.istore_n 2, 1) := by decide +kernel
theorem d_RU_runsAtLevelOf_2 : decode b_RU_runsAtLevelOf 2 = .ok (.iconst 0, 1) := by decide +kernel
theorem d_RU_runsAtLevelOf_3 : decode b_RU_runsAtLevelOf 3 = .ok (.istore_n 3, 1) := by decide +kernel
theorem d_RU_runsAtLevelOf_4 : decode b_RU_runsAtLevelOf 4 = .ok (.iload_n 3, 1) := by decide +kernel
theorem d_RU_runsAtLevelOf_5 : decode b_RU_runsAtLevelOf 5 = .ok (.aload_n 0, 1) := by decide +kernel
theorem d_RU_runsAtLevelOf_6 : decode b_RU_runsAtLevelOf 6 = .ok (.getfield 35, 3) := by decide +kernel
theorem d_RU_runsAtLevelOf_9 : decode b_RU_runsAtLevelOf 9 = .ok (.if_icmp .ge 27, 3) := by decide +kernel
theorem d_RU_runsAtLevelOf_12 : decode b_RU_runsAtLevelOf 12 = .ok (.aload_n 0, 1) := by decide +kernel
theorem d_RU_runsAtLevelOf_13 : decode b_RU_runsAtLevelOf 13 = .ok (.getfield 21, 3) := by decide +kernel
theorem d_RU_runsAtLevelOf_16 : decode b_RU_runsAtLevelOf 16 = .ok (.iload_n 3, 1) := by decide +kernel
theorem d_RU_runsAtLevelOf_17 : decode b_RU_runsAtLevelOf 17 = .ok (.iaload, 1) := by decide +kernel
theorem d_RU_runsAtLevelOf_18 : decode b_RU_runsAtLevelOf 18 = .ok (.aload_n 0, 1) := by decide +kernel
theorem d_RU_runsAtLevelOf_19 : decode b_RU_runsAtLevelOf 19 = .ok (.getfield 21, 3) := by decide +kernel
theorem d_RU_runsAtLevelOf_22 : decode b_RU_runsAtLevelOf 22 = .ok (.iload_n 1, 1) := by decide +kernel
theorem d_RU_runsAtLevelOf_23 : decode b_RU_runsAtLevelOf 23 = .ok (.iaload, 1) := by decide +kernel
theorem d_RU_runsAtLevelOf_24 : decode b_RU_runsAtLevelOf 24 = .ok (.if_icmp .ne 6, 3) := by decide +kernel
theorem d_RU_runsAtLevelOf_27 : decode b_RU_runsAtLevelOf 27 = .ok (.iinc 2 1, 3) := by decide +kernel
theorem d_RU_runsAtLevelOf_30 : decode b_RU_runsAtLevelOf 30 = .ok (.iinc 3 1, 3) := by decide +kernel
theorem d_RU_runsAtLevelOf_33 : decode b_RU_runsAtLevelOf 33 = .ok (.goto (-29), 3) := by decide +kernel
theorem d_RU_runsAtLevelOf_36 : decode b_RU_runsAtLevelOf 36 = .ok (.iload_n 2, 1) := by decide +kernel
theorem d_RU_runsAtLevelOf_37 : decode b_RU_runsAtLevelOf 37 = .ok (.ireturn, 1) := by decide +kernel
theorem d_RU_chooseAll_0 : decode b_RU_chooseAll 0 = .ok (.iconst 0, 1) := by decide +kernel
theorem d_RU_chooseAll_1 : decode b_RU_chooseAll 1 = .ok (.istore_n 1, 1) := by decide +kernel
theorem d_RU_chooseAll_2 : decode b_RU_chooseAll 2 = .ok (.iload_n 1, 1) := by decide +kernel
theorem d_RU_chooseAll_3 : decode b_RU_chooseAll 3 = .ok (.aload_n 0, 1) := by decide +kernel
theorem d_RU_chooseAll_4 : decode b_RU_chooseAll 4 = .ok (.getfield 35, 3) := by decide +kernel
theorem d_RU_chooseAll_7 : decode b_RU_chooseAll 7 = .ok (.if_icmp .ge 16, 3) := by decide +kernel
theorem d_RU_chooseAll_10 : decode b_RU_chooseAll 10 = .ok (.aload_n 0, 1) := by decide +kernel
theorem d_RU_chooseAll_11 : decode b_RU_chooseAll 11 = .ok (.getfield 27, 3) := by decide +kernel
theorem d_RU_chooseAll_14 : decode b_RU_chooseAll 14 = .ok (.iload_n 1, 1) := by decide +kernel
theorem d_RU_chooseAll_15 : decode b_RU_chooseAll 15 = .ok (.iconst 1, 1) := by decide +kernel
theorem d_RU_chooseAll_16 : decode b_RU_chooseAll 16 = .ok (.bastore, 1) := by decide +kernel
theorem d_RU_chooseAll_17 : decode b_RU_chooseAll 17 = .ok (.iinc 1 1, 3) := by decide +kernel
theorem d_RU_chooseAll_20 : decode b_RU_chooseAll 20 = .ok (.goto (-18), 3) := by decide +kernel
theorem d_RU_chooseAll_23 : decode b_RU_chooseAll 23 = .ok (.return_, 1) := by decide +kernel
theorem d_RU_chooseLevel_0 : decode b_RU_chooseLevel 0 = .ok (.iconst 0, 1) := by decide +kernel
theorem d_RU_chooseLevel_1 : decode b_RU_chooseLevel 1 = .ok (.istore_n 2, 1) := by decide +kernel
theorem d_RU_chooseLevel_2 : decode b_RU_chooseLevel 2 = .ok (.iload_n 2, 1) := by decide +kernel
theorem d_RU_chooseLevel_3 : decode b_RU_chooseLevel 3 = .ok (.aload_n 0, 1) := by decide +kernel
theorem d_RU_chooseLevel_4 : decode b_RU_chooseLevel 4 = .ok (.getfield 35, 3) := by decide +kernel
theorem d_RU_chooseLevel_7 : decode b_RU_chooseLevel 7 = .ok (.if_icmp .ge 30, 3) := by decide +kernel
theorem d_RU_chooseLevel_10 : decode b_RU_chooseLevel 10 = .ok (.aload_n 0, 1) := by decide +kernel
theorem d_RU_chooseLevel_11 : decode b_RU_chooseLevel 11 = .ok (.getfield 27, 3) := by decide +kernel
theorem d_RU_chooseLevel_14 : decode b_RU_chooseLevel 14 = .ok (.iload_n 2, 1) := by decide +kernel
theorem d_RU_chooseLevel_15 : decode b_RU_chooseLevel 15 = .ok (.aload_n 0, 1) := by decide +kernel
theorem d_RU_chooseLevel_16 : decode b_RU_chooseLevel 16 = .ok (.getfield 21, 3) := by decide +kernel
theorem d_RU_chooseLevel_19 : decode b_RU_chooseLevel 19 = .ok (.iload_n 2, 1) := by decide +kernel
theorem d_RU_chooseLevel_20 : decode b_RU_chooseLevel 20 = .ok (.iaload, 1) := by decide +kernel
theorem d_RU_chooseLevel_21 : decode b_RU_chooseLevel 21 = .ok (.iload_n 1, 1) := by decide +kernel
theorem d_RU_chooseLevel_22 : decode b_RU_chooseLevel 22 = .ok (.if_icmp .ne 7, 3) := by decide +kernel
theorem d_RU_chooseLevel_25 : decode b_RU_chooseLevel 25 = .ok (.iconst 1, 1) := by decide +kernel
theorem d_RU_chooseLevel_26 : decode b_RU_chooseLevel 26 = .ok (.goto 4, 3) := by decide +kernel
theorem d_RU_chooseLevel_29 : decode b_RU_chooseLevel 29 = .ok (.iconst 0, 1) := by decide +kernel
theorem d_RU_chooseLevel_30 : decode b_RU_chooseLevel 30 = .ok (.bastore, 1) := by decide +kernel
theorem d_RU_chooseLevel_31 : decode b_RU_chooseLevel 31 = .ok (.iinc 2 1, 3) := by decide +kernel
theorem d_RU_chooseLevel_34 : decode b_RU_chooseLevel 34 = .ok (.goto (-32), 3) := by decide +kernel
theorem d_RU_chooseLevel_37 : decode b_RU_chooseLevel 37 = .ok (.return_, 1) := by decide +kernel
theorem d_RU_howMany_0 : decode b_RU_howMany 0 = .ok (.iconst 0, 1) := by decide +kernel
theorem d_RU_howMany_1 : decode b_RU_howMany 1 = .ok (.istore_n 1, 1) := by decide +kernel
theorem d_RU_howMany_2 : decode b_RU_howMany 2 = .ok (.iconst 0, 1) := by decide +kernel
theorem d_RU_howMany_3 : decode b_RU_howMany 3 = .ok (.istore_n 2, 1) := by decide +kernel
theorem d_RU_howMany_4 : decode b_RU_howMany 4 = .ok (.iload_n 2, 1) := by decide +kernel
theorem d_RU_howMany_5 : decode b_RU_howMany 5 = .ok (.aload_n 0, 1) := by decide +kernel
theorem d_RU_howMany_6 : decode b_RU_howMany 6 = .ok (.getfield 35, 3) := by decide +kernel
theorem d_RU_howMany_9 : decode b_RU_howMany 9 = .ok (.if_icmp .ge 31, 3) := by decide +kernel
theorem d_RU_howMany_12 : decode b_RU_howMany 12 = .ok (.iload_n 1, 1) := by decide +kernel
theorem d_RU_howMany_13 : decode b_RU_howMany 13 = .ok (.aload_n 0, 1) := by decide +kernel
theorem d_RU_howMany_14 : decode b_RU_howMany 14 = .ok (.getfield 27, 3) := by decide +kernel
theorem d_RU_howMany_17 : decode b_RU_howMany 17 = .ok (.iload_n 2, 1) := by decide +kernel
theorem d_RU_howMany_18 : decode b_RU_howMany 18 = .ok (.baload, 1) := by decide +kernel
theorem d_RU_howMany_19 : decode b_RU_howMany 19 = .ok (.ifCond .eq 12, 3) := by decide +kernel
theorem d_RU_howMany_22 : decode b_RU_howMany 22 = .ok (.aload_n 0, 1) := by decide +kernel
theorem d_RU_howMany_23 : decode b_RU_howMany 23 = .ok (.getfield 18, 3) := by decide +kernel
theorem d_RU_howMany_26 : decode b_RU_howMany 26 = .ok (.iload_n 2, 1) := by decide +kernel
theorem d_RU_howMany_27 : decode b_RU_howMany 27 = .ok (.iaload, 1) := by decide +kernel
theorem d_RU_howMany_28 : decode b_RU_howMany 28 = .ok (.goto 4, 3) := by decide +kernel
theorem d_RU_howMany_31 : decode b_RU_howMany 31 = .ok (.iconst 0, 1) := by decide +kernel
theorem d_RU_howMany_32 : decode b_RU_howMany 32 = .ok (.iadd, 1) := by decide +kernel
theorem d_RU_howMany_33 : decode b_RU_howMany 33 = .ok (.istore_n 1, 1) := by decide +kernel
theorem d_RU_howMany_34 : decode b_RU_howMany 34 = .ok (.iinc 2 1, 3) := by decide +kernel
theorem d_RU_howMany_37 : decode b_RU_howMany 37 = .ok (.goto (-33), 3) := by decide +kernel
theorem d_RU_howMany_40 : decode b_RU_howMany 40 = .ok (.iload_n 1, 1) := by decide +kernel
theorem d_RU_howMany_41 : decode b_RU_howMany 41 = .ok (.ireturn, 1) := by decide +kernel
theorem d_RU_takeLeast_0 : decode b_RU_takeLeast 0 = .ok (.aload_n 0, 1) := by decide +kernel
theorem d_RU_takeLeast_1 : decode b_RU_takeLeast 1 = .ok (.aload_n 0, 1) := by decide +kernel
theorem d_RU_takeLeast_2 : decode b_RU_takeLeast 2 = .ok (.iconst 1, 1) := by decide +kernel
theorem d_RU_takeLeast_3 : decode b_RU_takeLeast 3 = .ok (.invokevirtual 68, 3) := by decide +kernel
theorem d_RU_takeLeast_6 : decode b_RU_takeLeast 6 = .ok (.invokevirtual 72, 3) := by decide +kernel
theorem d_RU_takeLeast_9 : decode b_RU_takeLeast 9 = .ok (.ireturn, 1) := by decide +kernel
theorem d_SB_init_0 : decode b_SB_init 0 = .ok (.aload_n 0, 1) := by decide +kernel
theorem d_SB_init_1 : decode b_SB_init 1 = .ok (.invokespecial 3, 3) := by decide +kernel
theorem d_SB_init_4 : decode b_SB_init 4 = .ok (.aload_n 0, 1) := by decide +kernel
theorem d_SB_init_5 : decode b_SB_init 5 = .ok (.new 9, 3) := by decide +kernel
theorem d_SB_init_8 : decode b_SB_init 8 = .ok (.dup, 1) := by decide +kernel
theorem d_SB_init_9 : decode b_SB_init 9 = .ok (.invokespecial 11, 3) := by decide +kernel
theorem d_SB_init_12 : decode b_SB_init 12 = .ok (.putfield 12, 3) := by decide +kernel
theorem d_SB_init_15 : decode b_SB_init 15 = .ok (.aload_n 0, 1) := by decide +kernel
theorem d_SB_init_16 : decode b_SB_init 16 = .ok (.aload_n 1, 1) := by decide +kernel
theorem d_SB_init_17 : decode b_SB_init 17 = .ok (.putfield 18, 3) := by decide +kernel
theorem d_SB_init_20 : decode b_SB_init 20 = .ok (.return_, 1) := by decide +kernel
theorem d_SB_store_0 : decode b_SB_store 0 = .ok (.aload_n 0, 1) := by decide +kernel
theorem d_SB_store_1 : decode b_SB_store 1 = .ok (.getfield 18, 3) := by decide +kernel
theorem d_SB_store_4 : decode b_SB_store 4 = .ok (.invokevirtual 22, 3) := by decide +kernel
theorem d_SB_store_7 : decode b_SB_store 7 = .ok (.aload_n 0, 1) := by decide +kernel
theorem d_SB_store_8 : decode b_SB_store 8 = .ok (.getfield 18, 3) := by decide +kernel
theorem d_SB_store_11 : decode b_SB_store 11 = .ok (.iconst 1, 1) := by decide +kernel
theorem d_SB_store_12 : decode b_SB_store 12 = .ok (.iload_n 1, 1) := by decide +kernel
theorem d_SB_store_13 : decode b_SB_store 13 = .ok (.invokevirtual 27, 3) := by decide +kernel
theorem d_SB_store_16 : decode b_SB_store 16 = .ok (.aload_n 0, 1) := by decide +kernel
theorem d_SB_store_17 : decode b_SB_store 17 = .ok (.getfield 18, 3) := by decide +kernel
theorem d_SB_store_20 : decode b_SB_store 20 = .ok (.iconst 2, 1) := by decide +kernel
theorem d_SB_store_21 : decode b_SB_store 21 = .ok (.aload_n 2, 1) := by decide +kernel
theorem d_SB_store_22 : decode b_SB_store 22 = .ok (.getfield 31, 3) := by decide +kernel
theorem d_SB_store_25 : decode b_SB_store 25 = .ok (.invokevirtual 27, 3) := by decide +kernel
theorem d_SB_store_28 : decode b_SB_store 28 = .ok (.iconst 0, 1) := by decide +kernel
theorem d_SB_store_29 : decode b_SB_store 29 = .ok (.istore_n 3, 1) := by decide +kernel
theorem d_SB_store_30 : decode b_SB_store 30 = .ok (.iload_n 3, 1) := by decide +kernel
theorem d_SB_store_31 : decode b_SB_store 31 = .ok (.aload_n 2, 1) := by decide +kernel
theorem d_SB_store_32 : decode b_SB_store 32 = .ok (.getfield 31, 3) := by decide +kernel
theorem d_SB_store_35 : decode b_SB_store 35 = .ok (.if_icmp .ge 84, 3) := by decide +kernel
theorem d_SB_store_38 : decode b_SB_store 38 = .ok (.iconst 3, 1) := by decide +kernel
theorem d_SB_store_39 : decode b_SB_store 39 = .ok (.iload_n 3, 1) := by decide +kernel
theorem d_SB_store_40 : decode b_SB_store 40 = .ok (.iconst 4, 1) := by decide +kernel
theorem d_SB_store_41 : decode b_SB_store 41 = .ok (.imul, 1) := by decide +kernel
theorem d_SB_store_42 : decode b_SB_store 42 = .ok (.iadd, 1) := by decide +kernel
theorem d_SB_store_43 : decode b_SB_store 43 = .ok (.istore 4, 2) := by decide +kernel
theorem d_SB_store_45 : decode b_SB_store 45 = .ok (.aload_n 0, 1) := by decide +kernel
theorem d_SB_store_46 : decode b_SB_store 46 = .ok (.getfield 18, 3) := by decide +kernel
theorem d_SB_store_49 : decode b_SB_store 49 = .ok (.iload 4, 2) := by decide +kernel
theorem d_SB_store_51 : decode b_SB_store 51 = .ok (.iconst 0, 1) := by decide +kernel
theorem d_SB_store_52 : decode b_SB_store 52 = .ok (.iadd, 1) := by decide +kernel
theorem d_SB_store_53 : decode b_SB_store 53 = .ok (.aload_n 2, 1) := by decide +kernel
theorem d_SB_store_54 : decode b_SB_store 54 = .ok (.getfield 37, 3) := by decide +kernel
theorem d_SB_store_57 : decode b_SB_store 57 = .ok (.iload_n 3, 1) := by decide +kernel
theorem d_SB_store_58 : decode b_SB_store 58 = .ok (.iaload, 1) := by decide +kernel
theorem d_SB_store_59 : decode b_SB_store 59 = .ok (.invokevirtual 27, 3) := by decide +kernel
theorem d_SB_store_62 : decode b_SB_store 62 = .ok (.aload_n 0, 1) := by decide +kernel
theorem d_SB_store_63 : decode b_SB_store 63 = .ok (.getfield 18, 3) := by decide +kernel
theorem d_SB_store_66 : decode b_SB_store 66 = .ok (.iload 4, 2) := by decide +kernel
theorem d_SB_store_68 : decode b_SB_store 68 = .ok (.iconst 1, 1) := by decide +kernel
theorem d_SB_store_69 : decode b_SB_store 69 = .ok (.iadd, 1) := by decide +kernel
theorem d_SB_store_70 : decode b_SB_store 70 = .ok (.aload_n 2, 1) := by decide +kernel
theorem d_SB_store_71 : decode b_SB_store 71 = .ok (.getfield 41, 3) := by decide +kernel
theorem d_SB_store_74 : decode b_SB_store 74 = .ok (.iload_n 3, 1) := by decide +kernel
theorem d_SB_store_75 : decode b_SB_store 75 = .ok (.iaload, 1) := by decide +kernel
theorem d_SB_store_76 : decode b_SB_store 76 = .ok (.invokevirtual 27, 3) := by decide +kernel
theorem d_SB_store_79 : decode b_SB_store 79 = .ok (.aload_n 0, 1) := by decide +kernel
theorem d_SB_store_80 : decode b_SB_store 80 = .ok (.getfield 18, 3) := by decide +kernel
theorem d_SB_store_83 : decode b_SB_store 83 = .ok (.iload 4, 2) := by decide +kernel
theorem d_SB_store_85 : decode b_SB_store 85 = .ok (.iconst 2, 1) := by decide +kernel
theorem d_SB_store_86 : decode b_SB_store 86 = .ok (.iadd, 1) := by decide +kernel
theorem d_SB_store_87 : decode b_SB_store 87 = .ok (.aload_n 2, 1) := by decide +kernel
theorem d_SB_store_88 : decode b_SB_store 88 = .ok (.getfield 44, 3) := by decide +kernel
theorem d_SB_store_91 : decode b_SB_store 91 = .ok (.iload_n 3, 1) := by decide +kernel
theorem d_SB_store_92 : decode b_SB_store 92 = .ok (.iaload, 1) := by decide +kernel
theorem d_SB_store_93 : decode b_SB_store 93 = .ok (.invokevirtual 27, 3) := by decide +kernel
theorem d_SB_store_96 : decode b_SB_store 96 = .ok (.aload_n 0, 1) := by decide +kernel
theorem d_SB_store_97 : decode b_SB_store 97 = .ok (.getfield 18, 3) := by decide +kernel
theorem d_SB_store_100 : decode b_SB_store 100 = .ok (.iload 4, 2) := by decide +kernel
theorem d_SB_store_102 : decode b_SB_store 102 = .ok (.iconst 3, 1) := by decide +kernel
theorem d_SB_store_103 : decode b_SB_store 103 = .ok (.iadd, 1) := by decide +kernel
theorem d_SB_store_104 : decode b_SB_store 104 = .ok (.aload_n 2, 1) := by decide +kernel
theorem d_SB_store_105 : decode b_SB_store 105 = .ok (.getfield 47, 3) := by decide +kernel
theorem d_SB_store_108 : decode b_SB_store 108 = .ok (.iload_n 3, 1) := by decide +kernel
theorem d_SB_store_109 : decode b_SB_store 109 = .ok (.iaload, 1) := by decide +kernel
theorem d_SB_store_110 : decode b_SB_store 110 = .ok (.invokevirtual 27, 3) := by decide +kernel
theorem d_SB_store_113 : decode b_SB_store 113 = .ok (.iinc 3 1, 3) := by decide +kernel
theorem d_SB_store_116 : decode b_SB_store 116 = .ok (.goto (-86), 3) := by decide +kernel
theorem d_SB_store_119 : decode b_SB_store 119 = .ok (.aload_n 0, 1) := by decide +kernel
theorem d_SB_store_120 : decode b_SB_store 120 = .ok (.getfield 18, 3) := by decide +kernel
theorem d_SB_store_123 : decode b_SB_store 123 = .ok (.iload_n 1, 1) := by decide +kernel
theorem d_SB_store_124 : decode b_SB_store 124 = .ok (.iconst 1, 1) := by decide +kernel
theorem d_SB_store_125 : decode b_SB_store 125 = .ok (.iand, 1) := by decide +kernel
theorem d_SB_store_126 : decode b_SB_store 126 = .ok (.invokevirtual 50, 3) := by decide +kernel
theorem d_SB_store_129 : decode b_SB_store 129 = .ok (.ireturn, 1) := by decide +kernel
theorem d_SB_load_0 : decode b_SB_load 0 = .ok (.aload_n 0, 1) := by decide +kernel
theorem d_SB_load_1 : decode b_SB_load 1 = .ok (.getfield 18, 3) := by decide +kernel
theorem d_SB_load_4 : decode b_SB_load 4 = .ok (.iload_n 1, 1) := by decide +kernel
theorem d_SB_load_5 : decode b_SB_load 5 = .ok (.iconst 2, 1) := by decide +kernel
theorem d_SB_load_6 : decode b_SB_load 6 = .ok (.invokevirtual 54, 3) := by decide +kernel
theorem d_SB_load_9 : decode b_SB_load 9 = .ok (.bipush 9, 2) := by decide +kernel
theorem d_SB_load_11 : decode b_SB_load 11 = .ok (.invokestatic 58, 3) := by decide +kernel
theorem d_SB_load_14 : decode b_SB_load 14 = .ok (.istore_n 3, 1) := by decide +kernel
theorem d_SB_load_15 : decode b_SB_load 15 = .ok (.iconst 0, 1) := by decide +kernel
theorem d_SB_load_16 : decode b_SB_load 16 = .ok (.istore 4, 2) := by decide +kernel
theorem d_SB_load_18 : decode b_SB_load 18 = .ok (.iload 4, 2) := by decide +kernel
theorem d_SB_load_20 : decode b_SB_load 20 = .ok (.iload_n 3, 1) := by decide +kernel
theorem d_SB_load_21 : decode b_SB_load 21 = .ok (.if_icmp .ge 69, 3) := by decide +kernel
theorem d_SB_load_24 : decode b_SB_load 24 = .ok (.iconst 3, 1) := by decide +kernel
theorem d_SB_load_25 : decode b_SB_load 25 = .ok (.iload 4, 2) := by decide +kernel
theorem d_SB_load_27 : decode b_SB_load 27 = .ok (.iconst 4, 1) := by decide +kernel
theorem d_SB_load_28 : decode b_SB_load 28 = .ok (.imul, 1) := by decide +kernel
theorem d_SB_load_29 : decode b_SB_load 29 = .ok (.iadd, 1) := by decide +kernel
theorem d_SB_load_30 : decode b_SB_load 30 = .ok (.istore 5, 2) := by decide +kernel
theorem d_SB_load_32 : decode b_SB_load 32 = .ok (.aload_n 2, 1) := by decide +kernel
theorem d_SB_load_33 : decode b_SB_load 33 = .ok (.aload_n 0, 1) := by decide +kernel
theorem d_SB_load_34 : decode b_SB_load 34 = .ok (.getfield 18, 3) := by decide +kernel
theorem d_SB_load_37 : decode b_SB_load 37 = .ok (.iload_n 1, 1) := by decide +kernel
theorem d_SB_load_38 : decode b_SB_load 38 = .ok (.iload 5, 2) := by decide +kernel
theorem d_SB_load_40 : decode b_SB_load 40 = .ok (.iconst 0, 1) := by decide +kernel
theorem d_SB_load_41 : decode b_SB_load 41 = .ok (.iadd, 1) := by decide +kernel
theorem d_SB_load_42 : decode b_SB_load 42 = .ok (.invokevirtual 54, 3) := by decide +kernel
theorem d_SB_load_45 : decode b_SB_load 45 = .ok (.aload_n 0, 1) := by decide +kernel
theorem d_SB_load_46 : decode b_SB_load 46 = .ok (.getfield 18, 3) := by decide +kernel
theorem d_SB_load_49 : decode b_SB_load 49 = .ok (.iload_n 1, 1) := by decide +kernel
theorem d_SB_load_50 : decode b_SB_load 50 = .ok (.iload 5, 2) := by decide +kernel
theorem d_SB_load_52 : decode b_SB_load 52 = .ok (.iconst 1, 1) := by decide +kernel
theorem d_SB_load_53 : decode b_SB_load 53 = .ok (.iadd, 1) := by decide +kernel
theorem d_SB_load_54 : decode b_SB_load 54 = .ok (.invokevirtual 54, 3) := by decide +kernel
theorem d_SB_load_57 : decode b_SB_load 57 = .ok (.aload_n 0, 1) := by decide +kernel
theorem d_SB_load_58 : decode b_SB_load 58 = .ok (.getfield 18, 3) := by decide +kernel
theorem d_SB_load_61 : decode b_SB_load 61 = .ok (.iload_n 1, 1) := by decide +kernel
theorem d_SB_load_62 : decode b_SB_load 62 = .ok (.iload 5, 2) := by decide +kernel
theorem d_SB_load_64 : decode b_SB_load 64 = .ok (.iconst 2, 1) := by decide +kernel
theorem d_SB_load_65 : decode b_SB_load 65 = .ok (.iadd, 1) := by decide +kernel
theorem d_SB_load_66 : decode b_SB_load 66 = .ok (.invokevirtual 54, 3) := by decide +kernel
theorem d_SB_load_69 : decode b_SB_load 69 = .ok (.aload_n 0, 1) := by decide +kernel
theorem d_SB_load_70 : decode b_SB_load 70 = .ok (.getfield 18, 3) := by decide +kernel
theorem d_SB_load_73 : decode b_SB_load 73 = .ok (.iload_n 1, 1) := by decide +kernel
theorem d_SB_load_74 : decode b_SB_load 74 = .ok (.iload 5, 2) := by decide +kernel
theorem d_SB_load_76 : decode b_SB_load 76 = .ok (.iconst 3, 1) := by decide +kernel
theorem d_SB_load_77 : decode b_SB_load 77 = .ok (.iadd, 1) := by decide +kernel
theorem d_SB_load_78 : decode b_SB_load 78 = .ok (.invokevirtual 54, 3) := by decide +kernel
theorem d_SB_load_81 : decode b_SB_load 81 = .ok (.invokevirtual 63, 3) := by decide +kernel
theorem d_SB_load_84 : decode b_SB_load 84 = .ok (.iinc 4 1, 3) := by decide +kernel
theorem d_SB_load_87 : decode b_SB_load 87 = .ok (.goto (-69), 3) := by decide +kernel
theorem d_SB_load_90 : decode b_SB_load 90 = .ok (.return_, 1) := by decide +kernel
theorem d_SB_epochOf_0 : decode b_SB_epochOf 0 = .ok (.aload_n 0, 1) := by decide +kernel
theorem d_SB_epochOf_1 : decode b_SB_epochOf 1 = .ok (.getfield 18, 3) := by decide +kernel
theorem d_SB_epochOf_4 : decode b_SB_epochOf 4 = .ok (.iload_n 1, 1) := by decide +kernel
theorem d_SB_epochOf_5 : decode b_SB_epochOf 5 = .ok (.iconst 1, 1) := by decide +kernel
theorem d_SB_epochOf_6 : decode b_SB_epochOf 6 = .ok (.invokevirtual 54, 3) := by decide +kernel
theorem d_SB_epochOf_9 : decode b_SB_epochOf 9 = .ok (.ireturn, 1) := by decide +kernel
theorem d_SB_newestGood_0 : decode b_SB_newestGood 0 = .ok (.aload_n 0, 1) := by decide +kernel
theorem d_SB_newestGood_1 : decode b_SB_newestGood 1 = .ok (.iconst 0, 1) := by decide +kernel
theorem d_SB_newestGood_2 : decode b_SB_newestGood 2 = .ok (.invokevirtual 67, 3) := by decide +kernel
theorem d_SB_newestGood_5 : decode b_SB_newestGood 5 = .ok (.istore_n 1, 1) := by decide +kernel
theorem d_SB_newestGood_6 : decode b_SB_newestGood 6 = .ok (.aload_n 0, 1) := by decide +kernel
theorem d_SB_newestGood_7 : decode b_SB_newestGood 7 = .ok (.iconst 1, 1) := by decide +kernel
theorem d_SB_newestGood_8 : decode b_SB_newestGood 8 = .ok (.invokevirtual 67, 3) := by decide +kernel
theorem d_SB_newestGood_11 : decode b_SB_newestGood 11 = .ok (.istore_n 2, 1) := by decide +kernel
theorem d_SB_newestGood_12 : decode b_SB_newestGood 12 = .ok (.iload_n 1, 1) := by decide +kernel
theorem d_SB_newestGood_13 : decode b_SB_newestGood 13 = .ok (.ifCond .eq 26, 3) := by decide +kernel
theorem d_SB_newestGood_16 : decode b_SB_newestGood 16 = .ok (.iload_n 2, 1) := by decide +kernel
theorem d_SB_newestGood_17 : decode b_SB_newestGood 17 = .ok (.ifCond .eq 22, 3) := by decide +kernel
theorem d_SB_newestGood_20 : decode b_SB_newestGood 20 = .ok (.aload_n 0, 1) := by decide +kernel
theorem d_SB_newestGood_21 : decode b_SB_newestGood 21 = .ok (.iconst 0, 1) := by decide +kernel
theorem d_SB_newestGood_22 : decode b_SB_newestGood 22 = .ok (.invokevirtual 70, 3) := by decide +kernel
theorem d_SB_newestGood_25 : decode b_SB_newestGood 25 = .ok (.aload_n 0, 1) := by decide +kernel
theorem d_SB_newestGood_26 : decode b_SB_newestGood 26 = .ok (.iconst 1, 1) := by decide +kernel
theorem d_SB_newestGood_27 : decode b_SB_newestGood 27 = .ok (.invokevirtual 70, 3) := by decide +kernel
theorem d_SB_newestGood_30 : decode b_SB_newestGood 30 = .ok (.if_icmp .le 7, 3) := by decide +kernel
theorem d_SB_newestGood_33 : decode b_SB_newestGood 33 = .ok (.iconst 0, 1) := by decide +kernel
theorem d_SB_newestGood_34 : decode b_SB_newestGood 34 = .ok (.goto 4, 3) := by decide +kernel
theorem d_SB_newestGood_37 : decode b_SB_newestGood 37 = .ok (.iconst 1, 1) := by decide +kernel
theorem d_SB_newestGood_38 : decode b_SB_newestGood 38 = .ok (.ireturn, 1) := by decide +kernel
theorem d_SB_newestGood_39 : decode b_SB_newestGood 39 = .ok (.iload_n 1, 1) := by decide +kernel
theorem d_SB_newestGood_40 : decode b_SB_newestGood 40 = .ok (.ifCond .eq 5, 3) := by decide +kernel
theorem d_SB_newestGood_43 : decode b_SB_newestGood 43 = .ok (.iconst 0, 1) := by decide +kernel
theorem d_SB_newestGood_44 : decode b_SB_newestGood 44 = .ok (.ireturn, 1) := by decide +kernel
theorem d_SB_newestGood_45 : decode b_SB_newestGood 45 = .ok (.iload_n 2, 1) := by decide +kernel
theorem d_SB_newestGood_46 : decode b_SB_newestGood 46 = .ok (.ifCond .eq 7, 3) := by decide +kernel
theorem d_SB_newestGood_49 : decode b_SB_newestGood 49 = .ok (.iconst 1, 1) := by decide +kernel
theorem d_SB_newestGood_50 : decode b_SB_newestGood 50 = .ok (.goto 4, 3) := by decide +kernel
theorem d_SB_newestGood_53 : decode b_SB_newestGood 53 = .ok (.iconst (-1), 1) := by decide +kernel
theorem d_SB_newestGood_54 : decode b_SB_newestGood 54 = .ok (.ireturn, 1) := by decide +kernel
theorem d_SB_isGood_0 : decode b_SB_isGood 0 = .ok (.aload_n 0, 1) := by decide +kernel
theorem d_SB_isGood_1 : decode b_SB_isGood 1 = .ok (.iload_n 1, 1) := by decide +kernel
theorem d_SB_isGood_2 : decode b_SB_isGood 2 = .ok (.invokevirtual 70, 3) := by decide +kernel
theorem d_SB_isGood_5 : decode b_SB_isGood 5 = .ok (.istore_n 2, 1) := by decide +kernel
theorem d_SB_isGood_6 : decode b_SB_isGood 6 = .ok (.iload_n 2, 1) := by decide +kernel
theorem d_SB_isGood_7 : decode b_SB_isGood 7 = .ok (.iconst 1, 1) := by decide +kernel
theorem d_SB_isGood_8 : decode b_SB_isGood 8 = .ok (.if_icmp .lt 30, 3) := by decide +kernel
theorem d_SB_isGood_11 : decode b_SB_isGood 11 = .ok (.iload_n 2, 1) := by decide +kernel
theorem d_SB_isGood_12 : decode b_SB_isGood 12 = .ok (.iconst 1, 1) := by decide +kernel
theorem d_SB_isGood_13 : decode b_SB_isGood 13 = .ok (.iand, 1) := by decide +kernel
theorem d_SB_isGood_14 : decode b_SB_isGood 14 = .ok (.iload_n 1, 1) := by decide +kernel
theorem d_SB_isGood_15 : decode b_SB_isGood 15 = .ok (.if_icmp .ne 23, 3) := by decide +kernel
theorem d_SB_isGood_18 : decode b_SB_isGood 18 = .ok (.aload_n 0, 1) := by decide +kernel
theorem d_SB_isGood_19 : decode b_SB_isGood 19 = .ok (.getfield 18, 3) := by decide +kernel
theorem d_SB_isGood_22 : decode b_SB_isGood 22 = .ok (.iload_n 1, 1) := by decide +kernel
theorem d_SB_isGood_23 : decode b_SB_isGood 23 = .ok (.iconst 0, 1) := by decide +kernel
theorem d_SB_isGood_24 : decode b_SB_isGood 24 = .ok (.invokevirtual 54, 3) := by decide +kernel
theorem d_SB_isGood_27 : decode b_SB_isGood 27 = .ok (.aload_n 0, 1) := by decide +kernel
theorem d_SB_isGood_28 : decode b_SB_isGood 28 = .ok (.getfield 18, 3) := by decide +kernel
theorem d_SB_isGood_31 : decode b_SB_isGood 31 = .ok (.iload_n 1, 1) := by decide +kernel
theorem d_SB_isGood_32 : decode b_SB_isGood 32 = .ok (.invokevirtual 74, 3) := by decide +kernel
theorem d_SB_isGood_35 : decode b_SB_isGood 35 = .ok (.if_icmp .eq 5, 3) := by decide +kernel
theorem d_SB_isGood_38 : decode b_SB_isGood 38 = .ok (.iconst 0, 1) := by decide +kernel
theorem d_SB_isGood_39 : decode b_SB_isGood 39 = .ok (.ireturn, 1) := by decide +kernel
theorem d_SB_isGood_40 : decode b_SB_isGood 40 = .ok (.aload_n 0, 1) := by decide +kernel
theorem d_SB_isGood_41 : decode b_SB_isGood 41 = .ok (.getfield 18, 3) := by decide +kernel
theorem d_SB_isGood_44 : decode b_SB_isGood 44 = .ok (.iload_n 1, 1) := by decide +kernel
theorem d_SB_isGood_45 : decode b_SB_isGood 45 = .ok (.iconst 2, 1) := by decide +kernel
theorem d_SB_isGood_46 : decode b_SB_isGood 46 = .ok (.invokevirtual 54, 3) := by decide +kernel
theorem d_SB_isGood_49 : decode b_SB_isGood 49 = .ok (.istore_n 3, 1) := by decide +kernel
theorem d_SB_isGood_50 : decode b_SB_isGood 50 = .ok (.iload_n 3, 1) := by decide +kernel
theorem d_SB_isGood_51 : decode b_SB_isGood 51 = .ok (.ifCond .lt 14, 3) := by decide +kernel
theorem d_SB_isGood_54 : decode b_SB_isGood 54 = .ok (.iload_n 3, 1) := by decide +kernel
theorem d_SB_isGood_55 : decode b_SB_isGood 55 = .ok (.aload_n 0, 1) := by decide +kernel
theorem d_SB_isGood_56 : decode b_SB_isGood 56 = .ok (.getfield 18, 3) := by decide +kernel
theorem d_SB_isGood_59 : decode b_SB_isGood 59 = .ok (.invokevirtual 77, 3) := by decide +kernel
theorem d_SB_isGood_62 : decode b_SB_isGood 62 = .ok (.if_icmp .le 5, 3) := by decide +kernel
theorem d_SB_isGood_65 : decode b_SB_isGood 65 = .ok (.iconst 0, 1) := by decide +kernel
theorem d_SB_isGood_66 : decode b_SB_isGood 66 = .ok (.ireturn, 1) := by decide +kernel
theorem d_SB_isGood_67 : decode b_SB_isGood 67 = .ok (.aload_n 0, 1) := by decide +kernel
theorem d_SB_isGood_68 : decode b_SB_isGood 68 = .ok (.getfield 12, 3) := by decide +kernel
theorem d_SB_isGood_71 : decode b_SB_isGood 71 = .ok (.invokevirtual 81, 3) := by decide +kernel
theorem d_SB_isGood_74 : decode b_SB_isGood 74 = .ok (.iconst 0, 1) := by decide +kernel
theorem d_SB_isGood_75 : decode b_SB_isGood 75 = .ok (.istore 4, 2) := by decide +kernel
theorem d_SB_isGood_77 : decode b_SB_isGood 77 = .ok (.iload 4, 2) := by decide +kernel
theorem d_SB_isGood_79 : decode b_SB_isGood 79 = .ok (.iload_n 3, 1) := by decide +kernel
theorem d_SB_isGood_80 : decode b_SB_isGood 80 = .ok (.if_icmp .ge 25, 3) := by decide +kernel
theorem d_SB_isGood_83 : decode b_SB_isGood 83 = .ok (.aload_n 0, 1) := by decide +kernel
theorem d_SB_isGood_84 : decode b_SB_isGood 84 = .ok (.iload_n 1, 1) := by decide +kernel
theorem d_SB_isGood_85 : decode b_SB_isGood 85 = .ok (.iconst 3, 1) := by decide +kernel
theorem d_SB_isGood_86 : decode b_SB_isGood 86 = .ok (.iload 4, 2) := by decide +kernel
theorem d_SB_isGood_88 : decode b_SB_isGood 88 = .ok (.iconst 4, 1) := by decide +kernel
theorem d_SB_isGood_89 : decode b_SB_isGood 89 = .ok (.imul, 1) := by decide +kernel
theorem d_SB_isGood_90 : decode b_SB_isGood 90 = .ok (.iadd, 1) := by decide +kernel
theorem d_SB_isGood_91 : decode b_SB_isGood 91 = .ok (.invokevirtual 84, 3) := by decide +kernel
theorem d_SB_isGood_94 : decode b_SB_isGood 94 = .ok (.ifCond .ne 5, 3) := by decide +kernel
theorem d_SB_isGood_97 : decode b_SB_isGood 97 = .ok (.iconst 0, 1) := by decide +kernel
theorem d_SB_isGood_98 : decode b_SB_isGood 98 = .ok (.ireturn, 1) := by decide +kernel
theorem d_SB_isGood_99 : decode b_SB_isGood 99 = .ok (.iinc 4 1, 3) := by decide +kernel
theorem d_SB_isGood_102 : decode b_SB_isGood 102 = .ok (.goto (-25), 3) := by decide +kernel
theorem d_SB_isGood_105 : decode b_SB_isGood 105 = .ok (.iconst 1, 1) := by decide +kernel
theorem d_SB_isGood_106 : decode b_SB_isGood 106 = .ok (.ireturn, 1) := by decide +kernel
theorem d_SB_isRunRight_0 : decode b_SB_isRunRight 0 = .ok (.aload_n 0, 1) := by decide +kernel
theorem d_SB_isRunRight_1 : decode b_SB_isRunRight 1 = .ok (.getfield 18, 3) := by decide +kernel
theorem d_SB_isRunRight_4 : decode b_SB_isRunRight 4 = .ok (.iload_n 1, 1) := by decide +kernel
theorem d_SB_isRunRight_5 : decode b_SB_isRunRight 5 = .ok (.iload_n 2, 1) := by decide +kernel
theorem d_SB_isRunRight_6 : decode b_SB_isRunRight 6 = .ok (.iconst 1, 1) := by decide +kernel
theorem d_SB_isRunRight_7 : decode b_SB_isRunRight 7 = .ok (.iadd, 1) := by decide +kernel
theorem d_SB_isRunRight_8 : decode b_SB_isRunRight 8 = .ok (.invokevirtual 54, 3) := by decide +kernel
theorem d_SB_isRunRight_11 : decode b_SB_isRunRight 11 = .ok (.istore_n 3, 1) := by decide +kernel
theorem d_SB_isRunRight_12 : decode b_SB_isRunRight 12 = .ok (.aload_n 0, 1) := by decide +kernel
theorem d_SB_isRunRight_13 : decode b_SB_isRunRight 13 = .ok (.getfield 18, 3) := by decide +kernel
theorem d_SB_isRunRight_16 : decode b_SB_isRunRight 16 = .ok (.iload_n 1, 1) := by decide +kernel
theorem d_SB_isRunRight_17 : decode b_SB_isRunRight 17 = .ok (.iload_n 2, 1) := by decide +kernel
theorem d_SB_isRunRight_18 : decode b_SB_isRunRight 18 = .ok (.iconst 2, 1) := by decide +kernel
theorem d_SB_isRunRight_19 : decode b_SB_isRunRight 19 = .ok (.iadd, 1) := by decide +kernel
theorem d_SB_isRunRight_20 : decode b_SB_isRunRight 20 = .ok (.invokevirtual 54, 3) := by decide +kernel
theorem d_SB_isRunRight_23 : decode b_SB_isRunRight 23 = .ok (.istore 4, 2) := by decide +kernel
theorem d_SB_isRunRight_25 : decode b_SB_isRunRight 25 = .ok (.aload_n 0, 1) := by decide +kernel
theorem d_SB_isRunRight_26 : decode b_SB_isRunRight 26 = .ok (.getfield 18, 3) := by decide +kernel
theorem d_SB_isRunRight_29 : decode b_SB_isRunRight 29 = .ok (.invokevirtual 88, 3) := by decide +kernel
theorem d_SB_isRunRight_32 : decode b_SB_isRunRight 32 = .ok (.istore 5, 2) := by decide +kernel
theorem d_SB_isRunRight_34 : decode b_SB_isRunRight 34 = .ok (.aload_n 0, 1) := by decide +kernel
theorem d_SB_isRunRight_35 : decode b_SB_isRunRight 35 = .ok (.getfield 18, 3) := by decide +kernel
theorem d_SB_isRunRight_38 : decode b_SB_isRunRight 38 = .ok (.iload_n 1, 1) := by decide +kernel
theorem d_SB_isRunRight_39 : decode b_SB_isRunRight 39 = .ok (.iload_n 2, 1) := by decide +kernel
theorem d_SB_isRunRight_40 : decode b_SB_isRunRight 40 = .ok (.iconst 3, 1) := by decide +kernel
theorem d_SB_isRunRight_41 : decode b_SB_isRunRight 41 = .ok (.iadd, 1) := by decide +kernel
theorem d_SB_isRunRight_42 : decode b_SB_isRunRight 42 = .ok (.invokevirtual 54, 3) := by decide +kernel
theorem d_SB_isRunRight_45 : decode b_SB_isRunRight 45 = .ok (.ifCond .lt 13, 3) := by decide +kernel
theorem d_SB_isRunRight_48 : decode b_SB_isRunRight 48 = .ok (.iload_n 3, 1) := by decide +kernel
theorem d_SB_isRunRight_49 : decode b_SB_isRunRight 49 = .ok (.ifCond .lt 9, 3) := by decide +kernel
theorem d_SB_isRunRight_52 : decode b_SB_isRunRight 52 = .ok (.iload_n 3, 1) := by decide +kernel
theorem d_SB_isRunRight_53 : decode b_SB_isRunRight 53 = .ok (.iload 5, 2) := by decide +kernel
theorem d_SB_isRunRight_55 : decode b_SB_isRunRight 55 = .ok (.if_icmp .lt 5, 3) := by decide +kernel
theorem d_SB_isRunRight_58 : decode b_SB_isRunRight 58 = .ok (.iconst 0, 1) := by decide +kernel
theorem d_SB_isRunRight_59 : decode b_SB_isRunRight 59 = .ok (.ireturn, 1) := by decide +kernel
theorem d_SB_isRunRight_60 : decode b_SB_isRunRight 60 = .ok (.iload 4, 2) := by decide +kernel
theorem d_SB_isRunRight_62 : decode b_SB_isRunRight 62 = .ok (.iconst 1, 1) := by decide +kernel
theorem d_SB_isRunRight_63 : decode b_SB_isRunRight 63 = .ok (.if_icmp .lt 18, 3) := by decide +kernel
theorem d_SB_isRunRight_66 : decode b_SB_isRunRight 66 = .ok (.iload 4, 2) := by decide +kernel
theorem d_SB_isRunRight_68 : decode b_SB_isRunRight 68 = .ok (.aload_n 0, 1) := by decide +kernel
theorem d_SB_isRunRight_69 : decode b_SB_isRunRight 69 = .ok (.getfield 18, 3) := by decide +kernel
theorem d_SB_isRunRight_72 : decode b_SB_isRunRight 72 = .ok (.getfield 91, 3) := by decide +kernel
theorem d_SB_isRunRight_75 : decode b_SB_isRunRight 75 = .ok (.iload 5, 2) := by decide +kernel
theorem d_SB_isRunRight_77 : decode b_SB_isRunRight 77 = .ok (.imul, 1) := by decide +kernel
theorem d_SB_isRunRight_78 : decode b_SB_isRunRight 78 = .ok (.if_icmp .le 5, 3) := by decide +kernel
theorem d_SB_isRunRight_81 : decode b_SB_isRunRight 81 = .ok (.iconst 0, 1) := by decide +kernel
theorem d_SB_isRunRight_82 : decode b_SB_isRunRight 82 = .ok (.ireturn, 1) := by decide +kernel
theorem d_SB_isRunRight_83 : decode b_SB_isRunRight 83 = .ok (.aload_n 0, 1) := by decide +kernel
theorem d_SB_isRunRight_84 : decode b_SB_isRunRight 84 = .ok (.aload_n 0, 1) := by decide +kernel
theorem d_SB_isRunRight_85 : decode b_SB_isRunRight 85 = .ok (.getfield 18, 3) := by decide +kernel
theorem d_SB_isRunRight_88 : decode b_SB_isRunRight 88 = .ok (.iload_n 1, 1) := by decide +kernel
theorem d_SB_isRunRight_89 : decode b_SB_isRunRight 89 = .ok (.iload_n 2, 1) := by decide +kernel
theorem d_SB_isRunRight_90 : decode b_SB_isRunRight 90 = .ok (.iconst 0, 1) := by decide +kernel
theorem d_SB_isRunRight_91 : decode b_SB_isRunRight 91 = .ok (.iadd, 1) := by decide +kernel
theorem d_SB_isRunRight_92 : decode b_SB_isRunRight 92 = .ok (.invokevirtual 54, 3) := by decide +kernel
theorem d_SB_isRunRight_95 : decode b_SB_isRunRight 95 = .ok (.iload_n 3, 1) := by decide +kernel
theorem d_SB_isRunRight_96 : decode b_SB_isRunRight 96 = .ok (.iload_n 3, 1) := by decide +kernel
theorem d_SB_isRunRight_97 : decode b_SB_isRunRight 97 = .ok (.iload 4, 2) := by decide +kernel
theorem d_SB_isRunRight_99 : decode b_SB_isRunRight 99 = .ok (.iadd, 1) := by decide +kernel
theorem d_SB_isRunRight_100 : decode b_SB_isRunRight 100 = .ok (.invokevirtual 94, 3) := by decide +kernel
theorem d_SB_isRunRight_103 : decode b_SB_isRunRight 103 = .ok (.ireturn, 1) := by decide +kernel
theorem d_SB_isChainRight_0 : decode b_SB_isChainRight 0 = .ok (.aload_n 0, 1) := by decide +kernel
theorem d_SB_isChainRight_1 : decode b_SB_isChainRight 1 = .ok (.getfield 18, 3) := by decide +kernel
theorem d_SB_isChainRight_4 : decode b_SB_isChainRight 4 = .ok (.invokevirtual 88, 3) := by decide +kernel
theorem d_SB_isChainRight_7 : decode b_SB_isChainRight 7 = .ok (.istore 4, 2) := by decide +kernel
theorem d_SB_isChainRight_9 : decode b_SB_isChainRight 9 = .ok (.aload_n 0, 1) := by decide +kernel
theorem d_SB_isChainRight_10 : decode b_SB_isChainRight 10 = .ok (.getfield 18, 3) := by decide +kernel
theorem d_SB_isChainRight_13 : decode b_SB_isChainRight 13 = .ok (.iload_n 3, 1) := by decide +kernel
theorem d_SB_isChainRight_14 : decode b_SB_isChainRight 14 = .ok (.invokevirtual 98, 3) := by decide +kernel
theorem d_SB_isChainRight_17 : decode b_SB_isChainRight 17 = .ok (.istore 5, 2) := by decide +kernel
theorem d_SB_isChainRight_19 : decode b_SB_isChainRight 19 = .ok (.iload_n 1, 1) := by decide +kernel
theorem d_SB_isChainRight_20 : decode b_SB_isChainRight 20 = .ok (.istore 6, 2) := by decide +kernel
theorem d_SB_isChainRight_22 : decode b_SB_isChainRight 22 = .ok (.iconst 0, 1) := by decide +kernel
theorem d_SB_isChainRight_23 : decode b_SB_isChainRight 23 = .ok (.istore 7, 2) := by decide +kernel
theorem d_SB_isChainRight_25 : decode b_SB_isChainRight 25 = .ok (.iconst 0, 1) := by decide +kernel
theorem d_SB_isChainRight_26 : decode b_SB_isChainRight 26 = .ok (.istore 8, 2) := by decide +kernel
theorem d_SB_isChainRight_28 : decode b_SB_isChainRight 28 = .ok (.iload 8, 2) := by decide +kernel
theorem d_SB_isChainRight_30 : decode b_SB_isChainRight 30 = .ok (.iload 5, 2) := by decide +kernel
theorem d_SB_isChainRight_32 : decode b_SB_isChainRight 32 = .ok (.if_icmp .ge 75, 3) := by decide +kernel
theorem d_SB_isChainRight_35 : decode b_SB_isChainRight 35 = .ok (.aload_n 0, 1) := by decide +kernel
theorem d_SB_isChainRight_36 : decode b_SB_isChainRight 36 = .ok (.iload 6, 2) := by decide +kernel
theorem d_SB_isChainRight_38 : decode b_SB_isChainRight 38 = .ok (.invokevirtual 101, 3) := by decide +kernel
theorem d_SB_isChainRight_41 : decode b_SB_isChainRight 41 = .ok (.ifCond .ne 5, 3) := by decide +kernel
theorem d_SB_isChainRight_44 : decode b_SB_isChainRight 44 = .ok (.iconst 0, 1) := by decide +kernel
theorem d_SB_isChainRight_45 : decode b_SB_isChainRight 45 = .ok (.ireturn, 1) := by decide +kernel
theorem d_SB_isChainRight_46 : decode b_SB_isChainRight 46 = .ok (.iload 4, 2) := by decide +kernel
theorem d_SB_isChainRight_48 : decode b_SB_isChainRight 48 = .ok (.iload_n 3, 1) := by decide +kernel
theorem d_SB_isChainRight_49 : decode b_SB_isChainRight 49 = .ok (.iload 8, 2) := by decide +kernel
theorem d_SB_isChainRight_51 : decode b_SB_isChainRight 51 = .ok (.iload 4, 2) := by decide +kernel
theorem d_SB_isChainRight_53 : decode b_SB_isChainRight 53 = .ok (.imul, 1) := by decide +kernel
theorem d_SB_isChainRight_54 : decode b_SB_isChainRight 54 = .ok (.isub, 1) := by decide +kernel
theorem d_SB_isChainRight_55 : decode b_SB_isChainRight 55 = .ok (.invokestatic 58, 3) := by decide +kernel
theorem d_SB_isChainRight_58 : decode b_SB_isChainRight 58 = .ok (.istore 9, 2) := by decide +kernel
theorem d_SB_isChainRight_60 : decode b_SB_isChainRight 60 = .ok (.aload_n 0, 1) := by decide +kernel
theorem d_SB_isChainRight_61 : decode b_SB_isChainRight 61 = .ok (.iload 6, 2) := by decide +kernel
theorem d_SB_isChainRight_63 : decode b_SB_isChainRight 63 = .ok (.iload 8, 2) := by decide +kernel
theorem d_SB_isChainRight_65 : decode b_SB_isChainRight 65 = .ok (.ifCond .ne 7, 3) := by decide +kernel
theorem d_SB_isChainRight_68 : decode b_SB_isChainRight 68 = .ok (.iload_n 2, 1) := by decide +kernel
theorem d_SB_isChainRight_69 : decode b_SB_isChainRight 69 = .ok (.goto 4, 3) := by decide +kernel
theorem d_SB_isChainRight_72 : decode b_SB_isChainRight 72 = .ok (.iconst 0, 1) := by decide +kernel
theorem d_SB_isChainRight_73 : decode b_SB_isChainRight 73 = .ok (.iload 9, 2) := by decide +kernel
