theorem d_MO_leastInMemory_1 : decode b_MO_leastInMemory 1 = .ok (.istore_n 1, 1) := by decide +kernel
theorem d_MO_leastInMemory_2 : decode b_MO_leastInMemory 2 = .ok (.iconst 0, 1) := by decide +kernel
theorem d_MO_leastInMemory_3 : decode b_MO_leastInMemory 3 = .ok (.istore_n 2, 1) := by decide +kernel
theorem d_MO_leastInMemory_4 : decode b_MO_leastInMemory 4 = .ok (.iload_n 2, 1) := by decide +kernel
theorem d_MO_leastInMemory_5 : decode b_MO_leastInMemory 5 = .ok (.aload_n 0, 1) := by decide +kernel
theorem d_MO_leastInMemory_6 : decode b_MO_leastInMemory 6 = .ok (.getfield 101, 3) := by decide +kernel
theorem d_MO_leastInMemory_9 : decode b_MO_leastInMemory 9 = .ok (.if_icmp .ge 34, 3) := by decide +kernel
theorem d_MO_leastInMemory_12 : decode b_MO_leastInMemory 12 = .ok (.iload_n 1, 1) := by decide +kernel
theorem d_MO_leastInMemory_13 : decode b_MO_leastInMemory 13 = .ok (.ifCond .lt 13, 3) := by decide +kernel
theorem d_MO_leastInMemory_16 : decode b_MO_leastInMemory 16 = .ok (.aload_n 0, 1) := by decide +kernel
theorem d_MO_leastInMemory_17 : decode b_MO_leastInMemory 17 = .ok (.getfield 13, 3) := by decide +kernel
theorem d_MO_leastInMemory_20 : decode b_MO_leastInMemory 20 = .ok (.iload_n 2, 1) := by decide +kernel
theorem d_MO_leastInMemory_21 : decode b_MO_leastInMemory 21 = .ok (.iaload, 1) := by decide +kernel
theorem d_MO_leastInMemory_22 : decode b_MO_leastInMemory 22 = .ok (.iload_n 1, 1) := by decide +kernel
theorem d_MO_leastInMemory_23 : decode b_MO_leastInMemory 23 = .ok (.if_icmp .ge 12, 3) := by decide +kernel
theorem d_MO_leastInMemory_26 : decode b_MO_leastInMemory 26 = .ok (.aload_n 0, 1) := by decide +kernel
theorem d_MO_leastInMemory_27 : decode b_MO_leastInMemory 27 = .ok (.getfield 13, 3) := by decide +kernel
theorem d_MO_leastInMemory_30 : decode b_MO_leastInMemory 30 = .ok (.iload_n 2, 1) := by decide +kernel
theorem d_MO_leastInMemory_31 : decode b_MO_leastInMemory 31 = .ok (.iaload, 1) := by decide +kernel
theorem d_MO_leastInMemory_32 : decode b_MO_leastInMemory 32 = .ok (.goto 4, 3) := by decide +kernel
theorem d_MO_leastInMemory_35 : decode b_MO_leastInMemory 35 = .ok (.iload_n 1, 1) := by decide +kernel
theorem d_MO_leastInMemory_36 : decode b_MO_leastInMemory 36 = .ok (.istore_n 1, 1) := by decide +kernel
theorem d_MO_leastInMemory_37 : decode b_MO_leastInMemory 37 = .ok (.iinc 2 1, 3) := by decide +kernel
theorem d_MO_leastInMemory_40 : decode b_MO_leastInMemory 40 = .ok (.goto (-36), 3) := by decide +kernel
theorem d_MO_leastInMemory_43 : decode b_MO_leastInMemory 43 = .ok (.iload_n 1, 1) := by decide +kernel
theorem d_MO_leastInMemory_44 : decode b_MO_leastInMemory 44 = .ok (.ireturn, 1) := by decide +kernel
theorem d_MO_leastKey_0 : decode b_MO_leastKey 0 = .ok (.aload_n 0, 1) := by decide +kernel
theorem d_MO_leastKey_1 : decode b_MO_leastKey 1 = .ok (.invokevirtual 185, 3) := by decide +kernel
theorem d_MO_leastKey_4 : decode b_MO_leastKey 4 = .ok (.istore_n 1, 1) := by decide +kernel
theorem d_MO_leastKey_5 : decode b_MO_leastKey 5 = .ok (.aload_n 0, 1) := by decide +kernel
theorem d_MO_leastKey_6 : decode b_MO_leastKey 6 = .ok (.invokevirtual 188, 3) := by decide +kernel
theorem d_MO_leastKey_9 : decode b_MO_leastKey 9 = .ok (.istore_n 2, 1) := by decide +kernel
theorem d_MO_leastKey_10 : decode b_MO_leastKey 10 = .ok (.iload_n 1, 1) := by decide +kernel
theorem d_MO_leastKey_11 : decode b_MO_leastKey 11 = .ok (.ifCond .ge 7, 3) := by decide +kernel
theorem d_MO_leastKey_14 : decode b_MO_leastKey 14 = .ok (.iload_n 2, 1) := by decide +kernel
theorem d_MO_leastKey_15 : decode b_MO_leastKey 15 = .ok (.goto 25, 3) := by decide +kernel
theorem d_MO_leastKey_18 : decode b_MO_leastKey 18 = .ok (.iload_n 2, 1) := by decide +kernel
theorem d_MO_leastKey_19 : decode b_MO_leastKey 19 = .ok (.ifCond .lt 16, 3) := by decide +kernel
theorem d_MO_leastKey_22 : decode b_MO_leastKey 22 = .ok (.iload_n 2, 1) := by decide +kernel
theorem d_MO_leastKey_23 : decode b_MO_leastKey 23 = .ok (.aload_n 0, 1) := by decide +kernel
theorem d_MO_leastKey_24 : decode b_MO_leastKey 24 = .ok (.iload_n 1, 1) := by decide +kernel
theorem d_MO_leastKey_25 : decode b_MO_leastKey 25 = .ok (.invokevirtual 182, 3) := by decide +kernel
theorem d_MO_leastKey_28 : decode b_MO_leastKey 28 = .ok (.if_icmp .gt 7, 3) := by decide +kernel
theorem d_MO_leastKey_31 : decode b_MO_leastKey 31 = .ok (.iload_n 2, 1) := by decide +kernel
theorem d_MO_leastKey_32 : decode b_MO_leastKey 32 = .ok (.goto 8, 3) := by decide +kernel
theorem d_MO_leastKey_35 : decode b_MO_leastKey 35 = .ok (.aload_n 0, 1) := by decide +kernel
theorem d_MO_leastKey_36 : decode b_MO_leastKey 36 = .ok (.iload_n 1, 1) := by decide +kernel
theorem d_MO_leastKey_37 : decode b_MO_leastKey 37 = .ok (.invokevirtual 182, 3) := by decide +kernel
theorem d_MO_leastKey_40 : decode b_MO_leastKey 40 = .ok (.ireturn, 1) := by decide +kernel
theorem d_MO_min_0 : decode b_MO_min 0 = .ok (.aload_n 0, 1) := by decide +kernel
theorem d_MO_min_1 : decode b_MO_min 1 = .ok (.aload_n 0, 1) := by decide +kernel
theorem d_MO_min_2 : decode b_MO_min 2 = .ok (.getfield 157, 3) := by decide +kernel
theorem d_MO_min_5 : decode b_MO_min 5 = .ok (.ifCond .eq 7, 3) := by decide +kernel
theorem d_MO_min_8 : decode b_MO_min 8 = .ok (.iconst 0, 1) := by decide +kernel
theorem d_MO_min_9 : decode b_MO_min 9 = .ok (.goto 4, 3) := by decide +kernel
theorem d_MO_min_12 : decode b_MO_min 12 = .ok (.iconst 1, 1) := by decide +kernel
theorem d_MO_min_13 : decode b_MO_min 13 = .ok (.putfield 53, 3) := by decide +kernel
theorem d_MO_min_16 : decode b_MO_min 16 = .ok (.aload_n 0, 1) := by decide +kernel
theorem d_MO_min_17 : decode b_MO_min 17 = .ok (.getfield 53, 3) := by decide +kernel
theorem d_MO_min_20 : decode b_MO_min 20 = .ok (.ifCond .le 7, 3) := by decide +kernel
theorem d_MO_min_23 : decode b_MO_min 23 = .ok (.iconst 0, 1) := by decide +kernel
theorem d_MO_min_24 : decode b_MO_min 24 = .ok (.goto 7, 3) := by decide +kernel
theorem d_MO_min_27 : decode b_MO_min 27 = .ok (.aload_n 0, 1) := by decide +kernel
theorem d_MO_min_28 : decode b_MO_min 28 = .ok (.invokevirtual 191, 3) := by decide +kernel
theorem d_MO_min_31 : decode b_MO_min 31 = .ok (.ireturn, 1) := by decide +kernel
theorem d_MO_take_0 : decode b_MO_take 0 = .ok (.aload_n 0, 1) := by decide +kernel
theorem d_MO_take_1 : decode b_MO_take 1 = .ok (.aload_n 0, 1) := by decide +kernel
theorem d_MO_take_2 : decode b_MO_take 2 = .ok (.getfield 157, 3) := by decide +kernel
theorem d_MO_take_5 : decode b_MO_take 5 = .ok (.ifCond .eq 7, 3) := by decide +kernel
theorem d_MO_take_8 : decode b_MO_take 8 = .ok (.iconst 0, 1) := by decide +kernel
theorem d_MO_take_9 : decode b_MO_take 9 = .ok (.goto 4, 3) := by decide +kernel
theorem d_MO_take_12 : decode b_MO_take 12 = .ok (.iconst 1, 1) := by decide +kernel
theorem d_MO_take_13 : decode b_MO_take 13 = .ok (.putfield 53, 3) := by decide +kernel
theorem d_MO_take_16 : decode b_MO_take 16 = .ok (.aload_n 0, 1) := by decide +kernel
theorem d_MO_take_17 : decode b_MO_take 17 = .ok (.getfield 53, 3) := by decide +kernel
theorem d_MO_take_20 : decode b_MO_take 20 = .ok (.ifCond .le 5, 3) := by decide +kernel
theorem d_MO_take_23 : decode b_MO_take 23 = .ok (.iconst 0, 1) := by decide +kernel
theorem d_MO_take_24 : decode b_MO_take 24 = .ok (.ireturn, 1) := by decide +kernel
theorem d_MO_take_25 : decode b_MO_take 25 = .ok (.aload_n 0, 1) := by decide +kernel
theorem d_MO_take_26 : decode b_MO_take 26 = .ok (.invokevirtual 191, 3) := by decide +kernel
theorem d_MO_take_29 : decode b_MO_take 29 = .ok (.istore_n 1, 1) := by decide +kernel
theorem d_MO_take_30 : decode b_MO_take 30 = .ok (.aload_n 0, 1) := by decide +kernel
theorem d_MO_take_31 : decode b_MO_take 31 = .ok (.getfield 101, 3) := by decide +kernel
theorem d_MO_take_34 : decode b_MO_take 34 = .ok (.ifCond .le 16, 3) := by decide +kernel
theorem d_MO_take_37 : decode b_MO_take 37 = .ok (.aload_n 0, 1) := by decide +kernel
theorem d_MO_take_38 : decode b_MO_take 38 = .ok (.invokevirtual 188, 3) := by decide +kernel
theorem d_MO_take_41 : decode b_MO_take 41 = .ok (.iload_n 1, 1) := by decide +kernel
theorem d_MO_take_42 : decode b_MO_take 42 = .ok (.if_icmp .ne 8, 3) := by decide +kernel
theorem d_MO_take_45 : decode b_MO_take 45 = .ok (.aload_n 0, 1) := by decide +kernel
theorem d_MO_take_46 : decode b_MO_take 46 = .ok (.invokevirtual 110, 3) := by decide +kernel
theorem d_MO_take_49 : decode b_MO_take 49 = .ok (.ireturn, 1) := by decide +kernel
theorem d_MO_take_50 : decode b_MO_take 50 = .ok (.aload_n 0, 1) := by decide +kernel
theorem d_MO_take_51 : decode b_MO_take 51 = .ok (.invokevirtual 185, 3) := by decide +kernel
theorem d_MO_take_54 : decode b_MO_take 54 = .ok (.istore_n 2, 1) := by decide +kernel
theorem d_MO_take_55 : decode b_MO_take 55 = .ok (.iload_n 2, 1) := by decide +kernel
theorem d_MO_take_56 : decode b_MO_take 56 = .ok (.ifCond .ge 5, 3) := by decide +kernel
theorem d_MO_take_59 : decode b_MO_take 59 = .ok (.iload_n 1, 1) := by decide +kernel
theorem d_MO_take_60 : decode b_MO_take 60 = .ok (.ireturn, 1) := by decide +kernel
theorem d_MO_take_61 : decode b_MO_take 61 = .ok (.aload_n 0, 1) := by decide +kernel
theorem d_MO_take_62 : decode b_MO_take 62 = .ok (.getfield 22, 3) := by decide +kernel
theorem d_MO_take_65 : decode b_MO_take 65 = .ok (.iload_n 2, 1) := by decide +kernel
theorem d_MO_take_66 : decode b_MO_take 66 = .ok (.dup2, 1) := by decide +kernel
theorem d_MO_take_67 : decode b_MO_take 67 = .ok (.iaload, 1) := by decide +kernel
theorem d_MO_take_68 : decode b_MO_take 68 = .ok (.iconst 1, 1) := by decide +kernel
theorem d_MO_take_69 : decode b_MO_take 69 = .ok (.isub, 1) := by decide +kernel
theorem d_MO_take_70 : decode b_MO_take 70 = .ok (.iastore, 1) := by decide +kernel
theorem d_MO_take_71 : decode b_MO_take 71 = .ok (.aload_n 0, 1) := by decide +kernel
theorem d_MO_take_72 : decode b_MO_take 72 = .ok (.getfield 19, 3) := by decide +kernel
theorem d_MO_take_75 : decode b_MO_take 75 = .ok (.iload_n 2, 1) := by decide +kernel
theorem d_MO_take_76 : decode b_MO_take 76 = .ok (.dup2, 1) := by decide +kernel
theorem d_MO_take_77 : decode b_MO_take 77 = .ok (.iaload, 1) := by decide +kernel
theorem d_MO_take_78 : decode b_MO_take 78 = .ok (.iconst 1, 1) := by decide +kernel
theorem d_MO_take_79 : decode b_MO_take 79 = .ok (.iadd, 1) := by decide +kernel
theorem d_MO_take_80 : decode b_MO_take 80 = .ok (.iastore, 1) := by decide +kernel
theorem d_MO_take_81 : decode b_MO_take 81 = .ok (.aload_n 0, 1) := by decide +kernel
theorem d_MO_take_82 : decode b_MO_take 82 = .ok (.getfield 22, 3) := by decide +kernel
theorem d_MO_take_85 : decode b_MO_take 85 = .ok (.iload_n 2, 1) := by decide +kernel
theorem d_MO_take_86 : decode b_MO_take 86 = .ok (.iaload, 1) := by decide +kernel
theorem d_MO_take_87 : decode b_MO_take 87 = .ok (.ifCond .ne 11, 3) := by decide +kernel
theorem d_MO_take_90 : decode b_MO_take 90 = .ok (.aload_n 0, 1) := by decide +kernel
theorem d_MO_take_91 : decode b_MO_take 91 = .ok (.iload_n 2, 1) := by decide +kernel
theorem d_MO_take_92 : decode b_MO_take 92 = .ok (.invokevirtual 127, 3) := by decide +kernel
theorem d_MO_take_95 : decode b_MO_take 95 = .ok (.goto 40, 3) := by decide +kernel
theorem d_MO_take_98 : decode b_MO_take 98 = .ok (.aload_n 0, 1) := by decide +kernel
theorem d_MO_take_99 : decode b_MO_take 99 = .ok (.getfield 19, 3) := by decide +kernel
theorem d_MO_take_102 : decode b_MO_take 102 = .ok (.iload_n 2, 1) := by decide +kernel
theorem d_MO_take_103 : decode b_MO_take 103 = .ok (.iaload, 1) := by decide +kernel
theorem d_MO_take_104 : decode b_MO_take 104 = .ok (.aload_n 0, 1) := by decide +kernel
theorem d_MO_take_105 : decode b_MO_take 105 = .ok (.invokevirtual 78, 3) := by decide +kernel
theorem d_MO_take_108 : decode b_MO_take 108 = .ok (.if_icmp .ne 27, 3) := by decide +kernel
theorem d_MO_take_111 : decode b_MO_take 111 = .ok (.aload_n 0, 1) := by decide +kernel
theorem d_MO_take_112 : decode b_MO_take 112 = .ok (.getfield 16, 3) := by decide +kernel
theorem d_MO_take_115 : decode b_MO_take 115 = .ok (.iload_n 2, 1) := by decide +kernel
theorem d_MO_take_116 : decode b_MO_take 116 = .ok (.aload_n 0, 1) := by decide +kernel
theorem d_MO_take_117 : decode b_MO_take 117 = .ok (.aload_n 0, 1) := by decide +kernel
theorem d_MO_take_118 : decode b_MO_take 118 = .ok (.getfield 16, 3) := by decide +kernel
theorem d_MO_take_121 : decode b_MO_take 121 = .ok (.iload_n 2, 1) := by decide +kernel
theorem d_MO_take_122 : decode b_MO_take 122 = .ok (.iaload, 1) := by decide +kernel
theorem d_MO_take_123 : decode b_MO_take 123 = .ok (.iconst 1, 1) := by decide +kernel
theorem d_MO_take_124 : decode b_MO_take 124 = .ok (.invokevirtual 60, 3) := by decide +kernel
theorem d_MO_take_127 : decode b_MO_take 127 = .ok (.iastore, 1) := by decide +kernel
theorem d_MO_take_128 : decode b_MO_take 128 = .ok (.aload_n 0, 1) := by decide +kernel
theorem d_MO_take_129 : decode b_MO_take 129 = .ok (.getfield 19, 3) := by decide +kernel
theorem d_MO_take_132 : decode b_MO_take 132 = .ok (.iload_n 2, 1) := by decide +kernel
theorem d_MO_take_133 : decode b_MO_take 133 = .ok (.iconst 0, 1) := by decide +kernel
theorem d_MO_take_134 : decode b_MO_take 134 = .ok (.iastore, 1) := by decide +kernel
theorem d_MO_take_135 : decode b_MO_take 135 = .ok (.iload_n 1, 1) := by decide +kernel
theorem d_MO_take_136 : decode b_MO_take 136 = .ok (.ireturn, 1) := by decide +kernel
theorem d_MO_sync_0 : decode b_MO_sync 0 = .ok (.aload_n 0, 1) := by decide +kernel
theorem d_MO_sync_1 : decode b_MO_sync 1 = .ok (.aload_n 0, 1) := by decide +kernel
theorem d_MO_sync_2 : decode b_MO_sync 2 = .ok (.getfield 157, 3) := by decide +kernel
theorem d_MO_sync_5 : decode b_MO_sync 5 = .ok (.ifCond .eq 7, 3) := by decide +kernel
theorem d_MO_sync_8 : decode b_MO_sync 8 = .ok (.iconst 0, 1) := by decide +kernel
theorem d_MO_sync_9 : decode b_MO_sync 9 = .ok (.goto 4, 3) := by decide +kernel
theorem d_MO_sync_12 : decode b_MO_sync 12 = .ok (.iconst 1, 1) := by decide +kernel
theorem d_MO_sync_13 : decode b_MO_sync 13 = .ok (.putfield 53, 3) := by decide +kernel
theorem d_MO_sync_16 : decode b_MO_sync 16 = .ok (.aload_n 0, 1) := by decide +kernel
theorem d_MO_sync_17 : decode b_MO_sync 17 = .ok (.getfield 53, 3) := by decide +kernel
theorem d_MO_sync_20 : decode b_MO_sync 20 = .ok (.ifCond .le 5, 3) := by decide +kernel
theorem d_MO_sync_23 : decode b_MO_sync 23 = .ok (.iconst 0, 1) := by decide +kernel
theorem d_MO_sync_24 : decode b_MO_sync 24 = .ok (.ireturn, 1) := by decide +kernel
theorem d_MO_sync_25 : decode b_MO_sync 25 = .ok (.aload_n 0, 1) := by decide +kernel
theorem d_MO_sync_26 : decode b_MO_sync 26 = .ok (.getfield 101, 3) := by decide +kernel
theorem d_MO_sync_29 : decode b_MO_sync 29 = .ok (.ifCond .le 17, 3) := by decide +kernel
theorem d_MO_sync_32 : decode b_MO_sync 32 = .ok (.aload_n 0, 1) := by decide +kernel
theorem d_MO_sync_33 : decode b_MO_sync 33 = .ok (.invokevirtual 176, 3) := by decide +kernel
theorem d_MO_sync_36 : decode b_MO_sync 36 = .ok (.ifCond .ne 10, 3) := by decide +kernel
theorem d_MO_sync_39 : decode b_MO_sync 39 = .ok (.aload_n 0, 1) := by decide +kernel
theorem d_MO_sync_40 : decode b_MO_sync 40 = .ok (.bipush (-2), 2) := by decide +kernel
theorem d_MO_sync_42 : decode b_MO_sync 42 = .ok (.invokevirtual 179, 3) := by decide +kernel
theorem d_MO_sync_45 : decode b_MO_sync 45 = .ok (.ireturn, 1) := by decide +kernel
theorem d_MO_sync_46 : decode b_MO_sync 46 = .ok (.aload_n 0, 1) := by decide +kernel
theorem d_MO_sync_47 : decode b_MO_sync 47 = .ok (.getfield 64, 3) := by decide +kernel
theorem d_MO_sync_50 : decode b_MO_sync 50 = .ok (.ifCond .ne 7, 3) := by decide +kernel
theorem d_MO_sync_53 : decode b_MO_sync 53 = .ok (.aload_n 0, 1) := by decide +kernel
theorem d_MO_sync_54 : decode b_MO_sync 54 = .ok (.invokevirtual 173, 3) := by decide +kernel
theorem d_MO_sync_57 : decode b_MO_sync 57 = .ok (.aload_n 0, 1) := by decide +kernel
theorem d_MO_sync_58 : decode b_MO_sync 58 = .ok (.iconst 0, 1) := by decide +kernel
theorem d_MO_sync_59 : decode b_MO_sync 59 = .ok (.invokevirtual 179, 3) := by decide +kernel
theorem d_MO_sync_62 : decode b_MO_sync 62 = .ok (.ireturn, 1) := by decide +kernel
theorem d_MO_cutAt_0 : decode b_MO_cutAt 0 = .ok (.aload_n 0, 1) := by decide +kernel
theorem d_MO_cutAt_1 : decode b_MO_cutAt 1 = .ok (.aload_n 0, 1) := by decide +kernel
theorem d_MO_cutAt_2 : decode b_MO_cutAt 2 = .ok (.getfield 157, 3) := by decide +kernel
theorem d_MO_cutAt_5 : decode b_MO_cutAt 5 = .ok (.ifCond .ne 7, 3) := by decide +kernel
theorem d_MO_cutAt_8 : decode b_MO_cutAt 8 = .ok (.iconst 1, 1) := by decide +kernel
theorem d_MO_cutAt_9 : decode b_MO_cutAt 9 = .ok (.goto 19, 3) := by decide +kernel
theorem d_MO_cutAt_12 : decode b_MO_cutAt 12 = .ok (.iload_n 1, 1) := by decide +kernel
theorem d_MO_cutAt_13 : decode b_MO_cutAt 13 = .ok (.iconst 0, 1) := by decide +kernel
theorem d_MO_cutAt_14 : decode b_MO_cutAt 14 = .ok (.sipush 10000, 3) := by decide +kernel
theorem d_MO_cutAt_17 : decode b_MO_cutAt 17 = .ok (.invokestatic 163, 3) := by decide +kernel
theorem d_MO_cutAt_20 : decode b_MO_cutAt 20 = .ok (.ifCond .ne 7, 3) := by decide +kernel
theorem d_MO_cutAt_23 : decode b_MO_cutAt 23 = .ok (.iconst 2, 1) := by decide +kernel
theorem d_MO_cutAt_24 : decode b_MO_cutAt 24 = .ok (.goto 4, 3) := by decide +kernel
theorem d_MO_cutAt_27 : decode b_MO_cutAt 27 = .ok (.iconst 0, 1) := by decide +kernel
theorem d_MO_cutAt_28 : decode b_MO_cutAt 28 = .ok (.putfield 53, 3) := by decide +kernel
theorem d_MO_cutAt_31 : decode b_MO_cutAt 31 = .ok (.aload_n 0, 1) := by decide +kernel
theorem d_MO_cutAt_32 : decode b_MO_cutAt 32 = .ok (.aload_n 0, 1) := by decide +kernel
theorem d_MO_cutAt_33 : decode b_MO_cutAt 33 = .ok (.getfield 53, 3) := by decide +kernel
theorem d_MO_cutAt_36 : decode b_MO_cutAt 36 = .ok (.ifCond .le 10, 3) := by decide +kernel
theorem d_MO_cutAt_39 : decode b_MO_cutAt 39 = .ok (.aload_n 0, 1) := by decide +kernel
theorem d_MO_cutAt_40 : decode b_MO_cutAt 40 = .ok (.getfield 68, 3) := by decide +kernel
theorem d_MO_cutAt_43 : decode b_MO_cutAt 43 = .ok (.goto 4, 3) := by decide +kernel
theorem d_MO_cutAt_46 : decode b_MO_cutAt 46 = .ok (.iload_n 1, 1) := by decide +kernel
theorem d_MO_cutAt_47 : decode b_MO_cutAt 47 = .ok (.putfield 68, 3) := by decide +kernel
theorem d_MO_cutAt_50 : decode b_MO_cutAt 50 = .ok (.return_, 1) := by decide +kernel
theorem d_MO_cut_0 : decode b_MO_cut 0 = .ok (.aload_n 0, 1) := by decide +kernel
theorem d_MO_cut_1 : decode b_MO_cut 1 = .ok (.aload_n 0, 1) := by decide +kernel
theorem d_MO_cut_2 : decode b_MO_cut 2 = .ok (.getfield 167, 3) := by decide +kernel
theorem d_MO_cut_5 : decode b_MO_cut 5 = .ok (.ifCond .eq 7, 3) := by decide +kernel
theorem d_MO_cut_8 : decode b_MO_cut 8 = .ok (.iconst 0, 1) := by decide +kernel
theorem d_MO_cut_9 : decode b_MO_cut 9 = .ok (.goto 4, 3) := by decide +kernel
theorem d_MO_cut_12 : decode b_MO_cut 12 = .ok (.iconst 1, 1) := by decide +kernel
theorem d_MO_cut_13 : decode b_MO_cut 13 = .ok (.putfield 53, 3) := by decide +kernel
theorem d_MO_cut_16 : decode b_MO_cut 16 = .ok (.aload_n 0, 1) := by decide +kernel
theorem d_MO_cut_17 : decode b_MO_cut 17 = .ok (.getfield 53, 3) := by decide +kernel
theorem d_MO_cut_20 : decode b_MO_cut 20 = .ok (.ifCond .ne 7, 3) := by decide +kernel
theorem d_MO_cut_23 : decode b_MO_cut 23 = .ok (.aload_n 0, 1) := by decide +kernel
theorem d_MO_cut_24 : decode b_MO_cut 24 = .ok (.invokevirtual 160, 3) := by decide +kernel
theorem d_MO_cut_27 : decode b_MO_cut 27 = .ok (.return_, 1) := by decide +kernel
theorem d_MO_readRun_0 : decode b_MO_readRun 0 = .ok (.iconst 3, 1) := by decide +kernel
theorem d_MO_readRun_1 : decode b_MO_readRun 1 = .ok (.iconst 4, 1) := by decide +kernel
theorem d_MO_readRun_2 : decode b_MO_readRun 2 = .ok (.iload_n 2, 1) := by decide +kernel
theorem d_MO_readRun_3 : decode b_MO_readRun 3 = .ok (.imul, 1) := by decide +kernel
theorem d_MO_readRun_4 : decode b_MO_readRun 4 = .ok (.iadd, 1) := by decide +kernel
theorem d_MO_readRun_5 : decode b_MO_readRun 5 = .ok (.istore_n 3, 1) := by decide +kernel
theorem d_MO_readRun_6 : decode b_MO_readRun 6 = .ok (.aload_n 0, 1) := by decide +kernel
theorem d_MO_readRun_7 : decode b_MO_readRun 7 = .ok (.iload_n 1, 1) := by decide +kernel
theorem d_MO_readRun_8 : decode b_MO_readRun 8 = .ok (.iload_n 3, 1) := by decide +kernel
theorem d_MO_readRun_9 : decode b_MO_readRun 9 = .ok (.invokevirtual 60, 3) := by decide +kernel
theorem d_MO_readRun_12 : decode b_MO_readRun 12 = .ok (.istore 4, 2) := by decide +kernel
theorem d_MO_readRun_14 : decode b_MO_readRun 14 = .ok (.aload_n 0, 1) := by decide +kernel
theorem d_MO_readRun_15 : decode b_MO_readRun 15 = .ok (.iload_n 1, 1) := by decide +kernel
theorem d_MO_readRun_16 : decode b_MO_readRun 16 = .ok (.iload_n 3, 1) := by decide +kernel
theorem d_MO_readRun_17 : decode b_MO_readRun 17 = .ok (.iconst 1, 1) := by decide +kernel
theorem d_MO_readRun_18 : decode b_MO_readRun 18 = .ok (.iadd, 1) := by decide +kernel
theorem d_MO_readRun_19 : decode b_MO_readRun 19 = .ok (.invokevirtual 60, 3) := by decide +kernel
theorem d_MO_readRun_22 : decode b_MO_readRun 22 = .ok (.istore 5, 2) := by decide +kernel
theorem d_MO_readRun_24 : decode b_MO_readRun 24 = .ok (.aload_n 0, 1) := by decide +kernel
theorem d_MO_readRun_25 : decode b_MO_readRun 25 = .ok (.iload_n 1, 1) := by decide +kernel
theorem d_MO_readRun_26 : decode b_MO_readRun 26 = .ok (.iload_n 3, 1) := by decide +kernel
theorem d_MO_readRun_27 : decode b_MO_readRun 27 = .ok (.iconst 2, 1) := by decide +kernel
theorem d_MO_readRun_28 : decode b_MO_readRun 28 = .ok (.iadd, 1) := by decide +kernel
theorem d_MO_readRun_29 : decode b_MO_readRun 29 = .ok (.invokevirtual 60, 3) := by decide +kernel
theorem d_MO_readRun_32 : decode b_MO_readRun 32 = .ok (.istore 6, 2) := by decide +kernel
theorem d_MO_readRun_34 : decode b_MO_readRun 34 = .ok (.aload_n 0, 1) := by decide +kernel
theorem d_MO_readRun_35 : decode b_MO_readRun 35 = .ok (.iload_n 1, 1) := by decide +kernel
theorem d_MO_readRun_36 : decode b_MO_readRun 36 = .ok (.iload_n 3, 1) := by decide +kernel
theorem d_MO_readRun_37 : decode b_MO_readRun 37 = .ok (.iconst 3, 1) := by decide +kernel
theorem d_MO_readRun_38 : decode b_MO_readRun 38 = .ok (.iadd, 1) := by decide +kernel
theorem d_MO_readRun_39 : decode b_MO_readRun 39 = .ok (.invokevirtual 60, 3) := by decide +kernel
theorem d_MO_readRun_42 : decode b_MO_readRun 42 = .ok (.ifCond .lt 23, 3) := by decide +kernel
theorem d_MO_readRun_45 : decode b_MO_readRun 45 = .ok (.iload 6, 2) := by decide +kernel
theorem d_MO_readRun_47 : decode b_MO_readRun 47 = .ok (.iconst 1, 1) := by decide +kernel
theorem d_MO_readRun_48 : decode b_MO_readRun 48 = .ok (.if_icmp .lt 17, 3) := by decide +kernel
theorem d_MO_readRun_51 : decode b_MO_readRun 51 = .ok (.iload 5, 2) := by decide +kernel
theorem d_MO_readRun_53 : decode b_MO_readRun 53 = .ok (.ifCond .lt 12, 3) := by decide +kernel
theorem d_MO_readRun_56 : decode b_MO_readRun 56 = .ok (.iload 5, 2) := by decide +kernel
theorem d_MO_readRun_58 : decode b_MO_readRun 58 = .ok (.aload_n 0, 1) := by decide +kernel
theorem d_MO_readRun_59 : decode b_MO_readRun 59 = .ok (.invokevirtual 78, 3) := by decide +kernel
theorem d_MO_readRun_62 : decode b_MO_readRun 62 = .ok (.if_icmp .lt 5, 3) := by decide +kernel
theorem d_MO_readRun_65 : decode b_MO_readRun 65 = .ok (.iconst 0, 1) := by decide +kernel
theorem d_MO_readRun_66 : decode b_MO_readRun 66 = .ok (.ireturn, 1) := by decide +kernel
theorem d_MO_readRun_67 : decode b_MO_readRun 67 = .ok (.aload_n 0, 1) := by decide +kernel
theorem d_MO_readRun_68 : decode b_MO_readRun 68 = .ok (.getfield 16, 3) := by decide +kernel
theorem d_MO_readRun_71 : decode b_MO_readRun 71 = .ok (.aload_n 0, 1) := by decide +kernel
theorem d_MO_readRun_72 : decode b_MO_readRun 72 = .ok (.getfield 82, 3) := by decide +kernel
theorem d_MO_readRun_75 : decode b_MO_readRun 75 = .ok (.iload 4, 2) := by decide +kernel
theorem d_MO_readRun_77 : decode b_MO_readRun 77 = .ok (.iastore, 1) := by decide +kernel
theorem d_MO_readRun_78 : decode b_MO_readRun 78 = .ok (.aload_n 0, 1) := by decide +kernel
theorem d_MO_readRun_79 : decode b_MO_readRun 79 = .ok (.getfield 19, 3) := by decide +kernel
theorem d_MO_readRun_82 : decode b_MO_readRun 82 = .ok (.aload_n 0, 1) := by decide +kernel
theorem d_MO_readRun_83 : decode b_MO_readRun 83 = .ok (.getfield 82, 3) := by decide +kernel
theorem d_MO_readRun_86 : decode b_MO_readRun 86 = .ok (.iload 5, 2) := by decide +kernel
theorem d_MO_readRun_88 : decode b_MO_readRun 88 = .ok (.iastore, 1) := by decide +kernel
theorem d_MO_readRun_89 : decode b_MO_readRun 89 = .ok (.aload_n 0, 1) := by decide +kernel
theorem d_MO_readRun_90 : decode b_MO_readRun 90 = .ok (.getfield 22, 3) := by decide +kernel
theorem d_MO_readRun_93 : decode b_MO_readRun 93 = .ok (.aload_n 0, 1) := by decide +kernel
theorem d_MO_readRun_94 : decode b_MO_readRun 94 = .ok (.getfield 82, 3) := by decide +kernel
theorem d_MO_readRun_97 : decode b_MO_readRun 97 = .ok (.iload 6, 2) := by decide +kernel
theorem d_MO_readRun_99 : decode b_MO_readRun 99 = .ok (.iastore, 1) := by decide +kernel
theorem d_MO_readRun_100 : decode b_MO_readRun 100 = .ok (.aload_n 0, 1) := by decide +kernel
theorem d_MO_readRun_101 : decode b_MO_readRun 101 = .ok (.getfield 25, 3) := by decide +kernel
theorem d_MO_readRun_104 : decode b_MO_readRun 104 = .ok (.aload_n 0, 1) := by decide +kernel
theorem d_MO_readRun_105 : decode b_MO_readRun 105 = .ok (.getfield 82, 3) := by decide +kernel
theorem d_MO_readRun_108 : decode b_MO_readRun 108 = .ok (.aload_n 0, 1) := by decide +kernel
theorem d_MO_readRun_109 : decode b_MO_readRun 109 = .ok (.iload_n 1, 1) := by decide +kernel
theorem d_MO_readRun_110 : decode b_MO_readRun 110 = .ok (.iload_n 3, 1) := by decide +kernel
theorem d_MO_readRun_111 : decode b_MO_readRun 111 = .ok (.iconst 3, 1) := by decide +kernel
theorem d_MO_readRun_112 : decode b_MO_readRun 112 = .ok (.iadd, 1) := by decide +kernel
theorem d_MO_readRun_113 : decode b_MO_readRun 113 = .ok (.invokevirtual 60, 3) := by decide +kernel
theorem d_MO_readRun_116 : decode b_MO_readRun 116 = .ok (.iastore, 1) := by decide +kernel
theorem d_MO_readRun_117 : decode b_MO_readRun 117 = .ok (.iload 5, 2) := by decide +kernel
theorem d_MO_readRun_119 : decode b_MO_readRun 119 = .ok (.istore 7, 2) := by decide +kernel
theorem d_MO_readRun_121 : decode b_MO_readRun 121 = .ok (.iconst 0, 1) := by decide +kernel
theorem d_MO_readRun_122 : decode b_MO_readRun 122 = .ok (.istore 8, 2) := by decide +kernel
theorem d_MO_readRun_124 : decode b_MO_readRun 124 = .ok (.iload 6, 2) := by decide +kernel
theorem d_MO_readRun_126 : decode b_MO_readRun 126 = .ok (.istore 9, 2) := by decide +kernel
theorem d_MO_readRun_128 : decode b_MO_readRun 128 = .ok (.iload 9, 2) := by decide +kernel
theorem d_MO_readRun_130 : decode b_MO_readRun 130 = .ok (.ifCond .le 121, 3) := by decide +kernel
theorem d_MO_readRun_133 : decode b_MO_readRun 133 = .ok (.iload 4, 2) := by decide +kernel
theorem d_MO_readRun_135 : decode b_MO_readRun 135 = .ok (.iconst 2, 1) := by decide +kernel
theorem d_MO_readRun_136 : decode b_MO_readRun 136 = .ok (.if_icmp .lt 38, 3) := by decide +kernel
theorem d_MO_readRun_139 : decode b_MO_readRun 139 = .ok (.iload 4, 2) := by decide +kernel
theorem d_MO_readRun_141 : decode b_MO_readRun 141 = .ok (.aload_n 0, 1) := by decide +kernel
theorem d_MO_readRun_142 : decode b_MO_readRun 142 = .ok (.getfield 91, 3) := by decide +kernel
theorem d_MO_readRun_145 : decode b_MO_readRun 145 = .ok (.if_icmp .ge 29, 3) := by decide +kernel
theorem d_MO_readRun_148 : decode b_MO_readRun 148 = .ok (.aload_n 0, 1) := by decide +kernel
theorem d_MO_readRun_149 : decode b_MO_readRun 149 = .ok (.getfield 32, 3) := by decide +kernel
theorem d_MO_readRun_152 : decode b_MO_readRun 152 = .ok (.iload 4, 2) := by decide +kernel
theorem d_MO_readRun_154 : decode b_MO_readRun 154 = .ok (.baload, 1) := by decide +kernel
theorem d_MO_readRun_155 : decode b_MO_readRun 155 = .ok (.ifCond .ne 19, 3) := by decide +kernel
theorem d_MO_readRun_158 : decode b_MO_readRun 158 = .ok (.aload_n 0, 1) := by decide +kernel
theorem d_MO_readRun_159 : decode b_MO_readRun 159 = .ok (.iload 4, 2) := by decide +kernel
theorem d_MO_readRun_161 : decode b_MO_readRun 161 = .ok (.iconst 0, 1) := by decide +kernel
theorem d_MO_readRun_162 : decode b_MO_readRun 162 = .ok (.invokevirtual 60, 3) := by decide +kernel
theorem d_MO_readRun_165 : decode b_MO_readRun 165 = .ok (.aload_n 0, 1) := by decide +kernel
theorem d_MO_readRun_166 : decode b_MO_readRun 166 = .ok (.iload 4, 2) := by decide +kernel
theorem d_MO_readRun_168 : decode b_MO_readRun 168 = .ok (.invokevirtual 74, 3) := by decide +kernel
theorem d_MO_readRun_171 : decode b_MO_readRun 171 = .ok (.if_icmp .eq 5, 3) := by decide +kernel
theorem d_MO_readRun_174 : decode b_MO_readRun 174 = .ok (.iconst 0, 1) := by decide +kernel
theorem d_MO_readRun_175 : decode b_MO_readRun 175 = .ok (.ireturn, 1) := by decide +kernel
theorem d_MO_readRun_176 : decode b_MO_readRun 176 = .ok (.aload_n 0, 1) := by decide +kernel
theorem d_MO_readRun_177 : decode b_MO_readRun 177 = .ok (.getfield 32, 3) := by decide +kernel
theorem d_MO_readRun_180 : decode b_MO_readRun 180 = .ok (.iload 4, 2) := by decide +kernel
theorem d_MO_readRun_182 : decode b_MO_readRun 182 = .ok (.iconst 1, 1) := by decide +kernel
theorem d_MO_readRun_183 : decode b_MO_readRun 183 = .ok (.bastore, 1) := by decide +kernel
theorem d_MO_readRun_184 : decode b_MO_readRun 184 = .ok (.iload 7, 2) := by decide +kernel
theorem d_MO_readRun_186 : decode b_MO_readRun 186 = .ok (.aload_n 0, 1) := by decide +kernel
theorem d_MO_readRun_187 : decode b_MO_readRun 187 = .ok (.invokevirtual 78, 3) := by decide +kernel
theorem d_MO_readRun_190 : decode b_MO_readRun 190 = .ok (.if_icmp .ge 46, 3) := by decide +kernel
theorem d_MO_readRun_193 : decode b_MO_readRun 193 = .ok (.iload 9, 2) := by decide +kernel
theorem d_MO_readRun_195 : decode b_MO_readRun 195 = .ok (.ifCond .le 41, 3) := by decide +kernel
theorem d_MO_readRun_198 : decode b_MO_readRun 198 = .ok (.aload_n 0, 1) := by decide +kernel
theorem d_MO_readRun_199 : decode b_MO_readRun 199 = .ok (.iload 4, 2) := by decide +kernel
theorem d_MO_readRun_201 : decode b_MO_readRun 201 = .ok (.iconst 2, 1) := by decide +kernel
theorem d_MO_readRun_202 : decode b_MO_readRun 202 = .ok (.iload 7, 2) := by decide +kernel
theorem d_MO_readRun_204 : decode b_MO_readRun 204 = .ok (.iadd, 1) := by decide +kernel
theorem d_MO_readRun_205 : decode b_MO_readRun 205 = .ok (.invokevirtual 60, 3) := by decide +kernel
theorem d_MO_readRun_208 : decode b_MO_readRun 208 = .ok (.iload 8, 2) := by decide +kernel
theorem d_MO_readRun_210 : decode b_MO_readRun 210 = .ok (.if_icmp .ge 5, 3) := by decide +kernel
theorem d_MO_readRun_213 : decode b_MO_readRun 213 = .ok (.iconst 0, 1) := by decide +kernel
theorem d_MO_readRun_214 : decode b_MO_readRun 214 = .ok (.ireturn, 1) := by decide +kernel
theorem d_MO_readRun_215 : decode b_MO_readRun 215 = .ok (.aload_n 0, 1) := by decide +kernel
theorem d_MO_readRun_216 : decode b_MO_readRun 216 = .ok (.iload 4, 2) := by decide +kernel
theorem d_MO_readRun_218 : decode b_MO_readRun 218 = .ok (.iconst 2, 1) := by decide +kernel
theorem d_MO_readRun_219 : decode b_MO_readRun 219 = .ok (.iload 7, 2) := by decide +kernel
theorem d_MO_readRun_221 : decode b_MO_readRun 221 = .ok (.iadd, 1) := by decide +kernel
theorem d_MO_readRun_222 : decode b_MO_readRun 222 = .ok (.invokevirtual 60, 3) := by decide +kernel
theorem d_MO_readRun_225 : decode b_MO_readRun 225 = .ok (.istore 8, 2) := by decide +kernel
theorem d_MO_readRun_227 : decode b_MO_readRun 227 = .ok (.iinc 7 1, 3) := by decide +kernel
theorem d_MO_readRun_230 : decode b_MO_readRun 230 = .ok (.iinc 9 (-1), 3) := by decide +kernel
theorem d_MO_readRun_233 : decode b_MO_readRun 233 = .ok (.goto (-49), 3) := by decide +kernel
theorem d_MO_readRun_236 : decode b_MO_readRun 236 = .ok (.iconst 0, 1) := by decide +kernel
theorem d_MO_readRun_237 : decode b_MO_readRun 237 = .ok (.istore 7, 2) := by decide +kernel
theorem d_MO_readRun_239 : decode b_MO_readRun 239 = .ok (.aload_n 0, 1) := by decide +kernel
theorem d_MO_readRun_240 : decode b_MO_readRun 240 = .ok (.iload 4, 2) := by decide +kernel
theorem d_MO_readRun_242 : decode b_MO_readRun 242 = .ok (.iconst 1, 1) := by decide +kernel
theorem d_MO_readRun_243 : decode b_MO_readRun 243 = .ok (.invokevirtual 60, 3) := by decide +kernel
theorem d_MO_readRun_246 : decode b_MO_readRun 246 = .ok (.istore 4, 2) := by decide +kernel
theorem d_MO_readRun_248 : decode b_MO_readRun 248 = .ok (.goto (-120), 3) := by decide +kernel
theorem d_MO_readRun_251 : decode b_MO_readRun 251 = .ok (.aload_n 0, 1) := by decide +kernel
theorem d_MO_readRun_252 : decode b_MO_readRun 252 = .ok (.dup, 1) := by decide +kernel
theorem d_MO_readRun_253 : decode b_MO_readRun 253 = .ok (.getfield 82, 3) := by decide +kernel
theorem d_MO_readRun_256 : decode b_MO_readRun 256 = .ok (.iconst 1, 1) := by decide +kernel
theorem d_MO_readRun_257 : decode b_MO_readRun 257 = .ok (.iadd, 1) := by decide +kernel
theorem d_MO_readRun_258 : decode b_MO_readRun 258 = .ok (.putfield 82, 3) := by decide +kernel
theorem d_MO_readRun_261 : decode b_MO_readRun 261 = .ok (.iload 4, 2) := by decide +kernel
theorem d_MO_readRun_263 : decode b_MO_readRun 263 = .ok (.ifCond .ne 7, 3) := by decide +kernel
theorem d_MO_readRun_266 : decode b_MO_readRun 266 = .ok (.iconst 1, 1) := by decide +kernel
theorem d_MO_readRun_267 : decode b_MO_readRun 267 = .ok (.goto 4, 3) := by decide +kernel
theorem d_MO_readRun_270 : decode b_MO_readRun 270 = .ok (.iconst 0, 1) := by decide +kernel
theorem d_MO_readRun_271 : decode b_MO_readRun 271 = .ok (.ireturn, 1) := by decide +kernel
theorem d_MO_readSuper_0 : decode b_MO_readSuper 0 = .ok (.aload_n 0, 1) := by decide +kernel
theorem d_MO_readSuper_1 : decode b_MO_readSuper 1 = .ok (.iconst 0, 1) := by decide +kernel
theorem d_MO_readSuper_2 : decode b_MO_readSuper 2 = .ok (.putfield 82, 3) := by decide +kernel
theorem d_MO_readSuper_5 : decode b_MO_readSuper 5 = .ok (.iconst 0, 1) := by decide +kernel
theorem d_MO_readSuper_6 : decode b_MO_readSuper 6 = .ok (.istore_n 2, 1) := by decide +kernel
theorem d_MO_readSuper_7 : decode b_MO_readSuper 7 = .ok (.iload_n 2, 1) := by decide +kernel
theorem d_MO_readSuper_8 : decode b_MO_readSuper 8 = .ok (.sipush 200, 3) := by decide +kernel
theorem d_MO_readSuper_11 : decode b_MO_readSuper 11 = .ok (.if_icmp .ge 16, 3) := by decide +kernel
theorem d_MO_readSuper_14 : decode b_MO_readSuper 14 = .ok (.aload_n 0, 1) := by decide +kernel
theorem d_MO_readSuper_15 : decode b_MO_readSuper 15 = .ok (.getfield 32, 3) := by decide +kernel
theorem d_MO_readSuper_18 : decode b_MO_readSuper 18 = .ok (.iload_n 2, 1) := by decide +kernel
theorem d_MO_readSuper_19 : decode b_MO_readSuper 19 = .ok (.iconst 0, 1) := by decide +kernel
theorem d_MO_readSuper_20 : decode b_MO_readSuper 20 = .ok (.bastore, 1) := by decide +kernel
theorem d_MO_readSuper_21 : decode b_MO_readSuper 21 = .ok (.iinc 2 1, 3) := by decide +kernel
theorem d_MO_readSuper_24 : decode b_MO_readSuper 24 = .ok (.goto (-17), 3) := by decide +kernel
theorem d_MO_readSuper_27 : decode b_MO_readSuper 27 = .ok (.aload_n 0, 1) := by decide +kernel
theorem d_MO_readSuper_28 : decode b_MO_readSuper 28 = .ok (.iload_n 1, 1) := by decide +kernel
theorem d_MO_readSuper_29 : decode b_MO_readSuper 29 = .ok (.iconst 1, 1) := by decide +kernel
theorem d_MO_readSuper_30 : decode b_MO_readSuper 30 = .ok (.invokevirtual 60, 3) := by decide +kernel
theorem d_MO_readSuper_33 : decode b_MO_readSuper 33 = .ok (.istore_n 2, 1) := by decide +kernel
theorem d_MO_readSuper_34 : decode b_MO_readSuper 34 = .ok (.aload_n 0, 1) := by decide +kernel
theorem d_MO_readSuper_35 : decode b_MO_readSuper 35 = .ok (.iload_n 1, 1) := by decide +kernel
theorem d_MO_readSuper_36 : decode b_MO_readSuper 36 = .ok (.iconst 2, 1) := by decide +kernel
theorem d_MO_readSuper_37 : decode b_MO_readSuper 37 = .ok (.invokevirtual 60, 3) := by decide +kernel
theorem d_MO_readSuper_40 : decode b_MO_readSuper 40 = .ok (.istore_n 3, 1) := by decide +kernel
theorem d_MO_readSuper_41 : decode b_MO_readSuper 41 = .ok (.aload_n 0, 1) := by decide +kernel
theorem d_MO_readSuper_42 : decode b_MO_readSuper 42 = .ok (.iload_n 1, 1) := by decide +kernel
theorem d_MO_readSuper_43 : decode b_MO_readSuper 43 = .ok (.iconst 0, 1) := by decide +kernel
theorem d_MO_readSuper_44 : decode b_MO_readSuper 44 = .ok (.invokevirtual 60, 3) := by decide +kernel
theorem d_MO_readSuper_47 : decode b_MO_readSuper 47 = .ok (.aload_n 0, 1) := by decide +kernel
theorem d_MO_readSuper_48 : decode b_MO_readSuper 48 = .ok (.iload_n 1, 1) := by decide +kernel
theorem d_MO_readSuper_49 : decode b_MO_readSuper 49 = .ok (.invokevirtual 74, 3) := by decide +kernel
theorem d_MO_readSuper_52 : decode b_MO_readSuper 52 = .ok (.if_icmp .ne 27, 3) := by decide +kernel
theorem d_MO_readSuper_55 : decode b_MO_readSuper 55 = .ok (.iload_n 2, 1) := by decide +kernel
theorem d_MO_readSuper_56 : decode b_MO_readSuper 56 = .ok (.iconst 1, 1) := by decide +kernel
theorem d_MO_readSuper_57 : decode b_MO_readSuper 57 = .ok (.if_icmp .lt 22, 3) := by decide +kernel
theorem d_MO_readSuper_60 : decode b_MO_readSuper 60 = .ok (.iload_n 2, 1) := by decide +kernel
theorem d_MO_readSuper_61 : decode b_MO_readSuper 61 = .ok (.iconst 2, 1) := by decide +kernel
theorem d_MO_readSuper_62 : decode b_MO_readSuper 62 = .ok (.irem, 1) := by decide +kernel
theorem d_MO_readSuper_63 : decode b_MO_readSuper 63 = .ok (.iload_n 1, 1) := by decide +kernel
theorem d_MO_readSuper_64 : decode b_MO_readSuper 64 = .ok (.if_icmp .ne 15, 3) := by decide +kernel
theorem d_MO_readSuper_67 : decode b_MO_readSuper 67 = .ok (.iload_n 3, 1) := by decide +kernel
theorem d_MO_readSuper_68 : decode b_MO_readSuper 68 = .ok (.iconst 0, 1) := by decide +kernel
theorem d_MO_readSuper_69 : decode b_MO_readSuper 69 = .ok (.aload_n 0, 1) := by decide +kernel
theorem d_MO_readSuper_70 : decode b_MO_readSuper 70 = .ok (.invokevirtual 144, 3) := by decide +kernel
theorem d_MO_readSuper_73 : decode b_MO_readSuper 73 = .ok (.invokestatic 163, 3) := by decide +kernel
theorem d_MO_readSuper_76 : decode b_MO_readSuper 76 = .ok (.ifCond .ne 5, 3) := by decide +kernel
theorem d_MO_readSuper_79 : decode b_MO_readSuper 79 = .ok (.iconst 0, 1) := by decide +kernel
theorem d_MO_readSuper_80 : decode b_MO_readSuper 80 = .ok (.ireturn, 1) := by decide +kernel
theorem d_MO_readSuper_81 : decode b_MO_readSuper 81 = .ok (.iconst 1, 1) := by decide +kernel
theorem d_MO_readSuper_82 : decode b_MO_readSuper 82 = .ok (.istore 4, 2) := by decide +kernel
theorem d_MO_readSuper_84 : decode b_MO_readSuper 84 = .ok (.iconst 0, 1) := by decide +kernel
theorem d_MO_readSuper_85 : decode b_MO_readSuper 85 = .ok (.istore 5, 2) := by decide +kernel
theorem d_MO_readSuper_87 : decode b_MO_readSuper 87 = .ok (.iload 5, 2) := by decide +kernel
theorem d_MO_readSuper_89 : decode b_MO_readSuper 89 = .ok (.iload_n 3, 1) := by decide +kernel
theorem d_MO_readSuper_90 : decode b_MO_readSuper 90 = .ok (.if_icmp .ge 23, 3) := by decide +kernel
theorem d_MO_readSuper_93 : decode b_MO_readSuper 93 = .ok (.iload 4, 2) := by decide +kernel
theorem d_MO_readSuper_95 : decode b_MO_readSuper 95 = .ok (.ifCond .eq 18, 3) := by decide +kernel
theorem d_MO_readSuper_98 : decode b_MO_readSuper 98 = .ok (.aload_n 0, 1) := by decide +kernel
theorem d_MO_readSuper_99 : decode b_MO_readSuper 99 = .ok (.iload_n 1, 1) := by decide +kernel
theorem d_MO_readSuper_100 : decode b_MO_readSuper 100 = .ok (.iload 5, 2) := by decide +kernel
theorem d_MO_readSuper_102 : decode b_MO_readSuper 102 = .ok (.invokevirtual 194, 3) := by decide +kernel
theorem d_MO_readSuper_105 : decode b_MO_readSuper 105 = .ok (.istore 4, 2) := by decide +kernel
theorem d_MO_readSuper_107 : decode b_MO_readSuper 107 = .ok (.iinc 5 1, 3) := by decide +kernel
theorem d_MO_readSuper_110 : decode b_MO_readSuper 110 = .ok (.goto (-23), 3) := by decide +kernel
theorem d_MO_readSuper_113 : decode b_MO_readSuper 113 = .ok (.iload 4, 2) := by decide +kernel
theorem d_MO_readSuper_115 : decode b_MO_readSuper 115 = .ok (.ireturn, 1) := by decide +kernel
theorem d_MO_size0_0 : decode b_MO_size0 0 = .ok (.aload_n 0, 1) := by decide +kernel
theorem d_MO_size0_1 : decode b_MO_size0 1 = .ok (.getfield 101, 3) := by decide +kernel
theorem d_MO_size0_4 : decode b_MO_size0 4 = .ok (.istore_n 1, 1) := by decide +kernel
theorem d_MO_size0_5 : decode b_MO_size0 5 = .ok (.iconst 0, 1) := by decide +kernel
theorem d_MO_size0_6 : decode b_MO_size0 6 = .ok (.istore_n 2, 1) := by decide +kernel
theorem d_MO_size0_7 : decode b_MO_size0 7 = .ok (.iload_n 2, 1) := by decide +kernel
theorem d_MO_size0_8 : decode b_MO_size0 8 = .ok (.aload_n 0, 1) := by decide +kernel
theorem d_MO_size0_9 : decode b_MO_size0 9 = .ok (.getfield 82, 3) := by decide +kernel
theorem d_MO_size0_12 : decode b_MO_size0 12 = .ok (.if_icmp .ge 18, 3) := by decide +kernel
theorem d_MO_size0_15 : decode b_MO_size0 15 = .ok (.iload_n 1, 1) := by decide +kernel
theorem d_MO_size0_16 : decode b_MO_size0 16 = .ok (.aload_n 0, 1) := by decide +kernel
theorem d_MO_size0_17 : decode b_MO_size0 17 = .ok (.getfield 22, 3) := by decide +kernel
theorem d_MO_size0_20 : decode b_MO_size0 20 = .ok (.iload_n 2, 1) := by decide +kernel
theorem d_MO_size0_21 : decode b_MO_size0 21 = .ok (.iaload, 1) := by decide +kernel
theorem d_MO_size0_22 : decode b_MO_size0 22 = .ok (.iadd, 1) := by decide +kernel
theorem d_MO_size0_23 : decode b_MO_size0 23 = .ok (.istore_n 1, 1) := by decide +kernel
theorem d_MO_size0_24 : decode b_MO_size0 24 = .ok (.iinc 2 1, 3) := by decide +kernel
theorem d_MO_size0_27 : decode b_MO_size0 27 = .ok (.goto (-20), 3) := by decide +kernel
theorem d_MO_size0_30 : decode b_MO_size0 30 = .ok (.iload_n 1, 1) := by decide +kernel
theorem d_MO_size0_31 : decode b_MO_size0 31 = .ok (.ireturn, 1) := by decide +kernel
theorem d_MO_recover_0 : decode b_MO_recover 0 = .ok (.aload_n 0, 1) := by decide +kernel
theorem d_MO_recover_1 : decode b_MO_recover 1 = .ok (.aload_n 0, 1) := by decide +kernel
theorem d_MO_recover_2 : decode b_MO_recover 2 = .ok (.getfield 167, 3) := by decide +kernel
theorem d_MO_recover_5 : decode b_MO_recover 5 = .ok (.ifCond .eq 7, 3) := by decide +kernel
theorem d_MO_recover_8 : decode b_MO_recover 8 = .ok (.iconst 0, 1) := by decide +kernel
theorem d_MO_recover_9 : decode b_MO_recover 9 = .ok (.goto 4, 3) := by decide +kernel
theorem d_MO_recover_12 : decode b_MO_recover 12 = .ok (.iconst 1, 1) := by decide +kernel
theorem d_MO_recover_13 : decode b_MO_recover 13 = .ok (.putfield 53, 3) := by decide +kernel
theorem d_MO_recover_16 : decode b_MO_recover 16 = .ok (.aload_n 0, 1) := by decide +kernel
theorem d_MO_recover_17 : decode b_MO_recover 17 = .ok (.getfield 53, 3) := by decide +kernel
theorem d_MO_recover_20 : decode b_MO_recover 20 = .ok (.ifCond .le 5, 3) := by decide +kernel
theorem d_MO_recover_23 : decode b_MO_recover 23 = .ok (.iconst 0, 1) := by decide +kernel
theorem d_MO_recover_24 : decode b_MO_recover 24 = .ok (.ireturn, 1) := by decide +kernel
theorem d_MO_recover_25 : decode b_MO_recover 25 = .ok (.aload_n 0, 1) := by decide +kernel
theorem d_MO_recover_26 : decode b_MO_recover 26 = .ok (.iconst 0, 1) := by decide +kernel
theorem d_MO_recover_27 : decode b_MO_recover 27 = .ok (.putfield 68, 3) := by decide +kernel
theorem d_MO_recover_30 : decode b_MO_recover 30 = .ok (.aload_n 0, 1) := by decide +kernel
theorem d_MO_recover_31 : decode b_MO_recover 31 = .ok (.iconst 0, 1) := by decide +kernel
theorem d_MO_recover_32 : decode b_MO_recover 32 = .ok (.putfield 64, 3) := by decide +kernel
theorem d_MO_recover_35 : decode b_MO_recover 35 = .ok (.aload_n 0, 1) := by decide +kernel
theorem d_MO_recover_36 : decode b_MO_recover 36 = .ok (.invokevirtual 160, 3) := by decide +kernel
theorem d_MO_recover_39 : decode b_MO_recover 39 = .ok (.aload_n 0, 1) := by decide +kernel
theorem d_MO_recover_40 : decode b_MO_recover 40 = .ok (.iconst 0, 1) := by decide +kernel
theorem d_MO_recover_41 : decode b_MO_recover 41 = .ok (.invokevirtual 198, 3) := by decide +kernel
theorem d_MO_recover_44 : decode b_MO_recover 44 = .ok (.istore_n 1, 1) := by decide +kernel
theorem d_MO_recover_45 : decode b_MO_recover 45 = .ok (.aload_n 0, 1) := by decide +kernel
theorem d_MO_recover_46 : decode b_MO_recover 46 = .ok (.iconst 1, 1) := by decide +kernel
theorem d_MO_recover_47 : decode b_MO_recover 47 = .ok (.invokevirtual 198, 3) := by decide +kernel
theorem d_MO_recover_50 : decode b_MO_recover 50 = .ok (.istore_n 2, 1) := by decide +kernel
theorem d_MO_recover_51 : decode b_MO_recover 51 = .ok (.iload_n 1, 1) := by decide +kernel
theorem d_MO_recover_52 : decode b_MO_recover 52 = .ok (.ifCond .ne 15, 3) := by decide +kernel
theorem d_MO_recover_55 : decode b_MO_recover 55 = .ok (.iload_n 2, 1) := by decide +kernel
theorem d_MO_recover_56 : decode b_MO_recover 56 = .ok (.ifCond .ne 11, 3) := by decide +kernel
theorem d_MO_recover_59 : decode b_MO_recover 59 = .ok (.aload_n 0, 1) := by decide +kernel
theorem d_MO_recover_60 : decode b_MO_recover 60 = .ok (.iconst 0, 1) := by decide +kernel
theorem d_MO_recover_61 : decode b_MO_recover 61 = .ok (.putfield 82, 3) := by decide +kernel
theorem d_MO_recover_64 : decode b_MO_recover 64 = .ok (.bipush (-3), 2) := by decide +kernel
theorem d_MO_recover_66 : decode b_MO_recover 66 = .ok (.ireturn, 1) := by decide +kernel
theorem d_MO_recover_67 : decode b_MO_recover 67 = .ok (.iload_n 1, 1) := by decide +kernel
theorem d_MO_recover_68 : decode b_MO_recover 68 = .ok (.ifCond .eq 30, 3) := by decide +kernel
theorem d_MO_recover_71 : decode b_MO_recover 71 = .ok (.iload_n 2, 1) := by decide +kernel
theorem d_MO_recover_72 : decode b_MO_recover 72 = .ok (.ifCond .eq 26, 3) := by decide +kernel
theorem d_MO_recover_75 : decode b_MO_recover 75 = .ok (.aload_n 0, 1) := by decide +kernel
theorem d_MO_recover_76 : decode b_MO_recover 76 = .ok (.iconst 0, 1) := by decide +kernel
theorem d_MO_recover_77 : decode b_MO_recover 77 = .ok (.iconst 1, 1) := by decide +kernel
theorem d_MO_recover_78 : decode b_MO_recover 78 = .ok (.invokevirtual 60, 3) := by decide +kernel
theorem d_MO_recover_81 : decode b_MO_recover 81 = .ok (.aload_n 0, 1) := by decide +kernel
theorem d_MO_recover_82 : decode b_MO_recover 82 = .ok (.iconst 1, 1) := by decide +kernel
theorem d_MO_recover_83 : decode b_MO_recover 83 = .ok (.iconst 1, 1) := by decide +kernel
theorem d_MO_recover_84 : decode b_MO_recover 84 = .ok (.invokevirtual 60, 3) := by decide +kernel
theorem d_MO_recover_87 : decode b_MO_recover 87 = .ok (.if_icmp .le 7, 3) := by decide +kernel
theorem d_MO_recover_90 : decode b_MO_recover 90 = .ok (.iconst 0, 1) := by decide +kernel
theorem d_MO_recover_91 : decode b_MO_recover 91 = .ok (.goto 16, 3) := by decide +kernel
theorem d_MO_recover_94 : decode b_MO_recover 94 = .ok (.iconst 1, 1) := by decide +kernel
theorem d_MO_recover_95 : decode b_MO_recover 95 = .ok (.goto 12, 3) := by decide +kernel
theorem d_MO_recover_98 : decode b_MO_recover 98 = .ok (.iload_n 1, 1) := by decide +kernel
theorem d_MO_recover_99 : decode b_MO_recover 99 = .ok (.ifCond .eq 7, 3) := by decide +kernel
theorem d_MO_recover_102 : decode b_MO_recover 102 = .ok (.iconst 0, 1) := by decide +kernel
theorem d_MO_recover_103 : decode b_MO_recover 103 = .ok (.goto 4, 3) := by decide +kernel
theorem d_MO_recover_106 : decode b_MO_recover 106 = .ok (.iconst 1, 1) := by decide +kernel
theorem d_MO_recover_107 : decode b_MO_recover 107 = .ok (.istore_n 3, 1) := by decide +kernel
theorem d_MO_recover_108 : decode b_MO_recover 108 = .ok (.aload_n 0, 1) := by decide +kernel
theorem d_MO_recover_109 : decode b_MO_recover 109 = .ok (.aload_n 0, 1) := by decide +kernel
theorem d_MO_recover_110 : decode b_MO_recover 110 = .ok (.iload_n 3, 1) := by decide +kernel
theorem d_MO_recover_111 : decode b_MO_recover 111 = .ok (.invokevirtual 198, 3) := by decide +kernel
theorem d_MO_recover_114 : decode b_MO_recover 114 = .ok (.putfield 157, 3) := by decide +kernel
theorem d_MO_recover_117 : decode b_MO_recover 117 = .ok (.aload_n 0, 1) := by decide +kernel
theorem d_MO_recover_118 : decode b_MO_recover 118 = .ok (.aload_n 0, 1) := by decide +kernel
theorem d_MO_recover_119 : decode b_MO_recover 119 = .ok (.iload_n 3, 1) := by decide +kernel
theorem d_MO_recover_120 : decode b_MO_recover 120 = .ok (.iconst 1, 1) := by decide +kernel
theorem d_MO_recover_121 : decode b_MO_recover 121 = .ok (.invokevirtual 60, 3) := by decide +kernel
theorem d_MO_recover_124 : decode b_MO_recover 124 = .ok (.putfield 154, 3) := by decide +kernel
theorem d_MO_recover_127 : decode b_MO_recover 127 = .ok (.iconst 0, 1) := by decide +kernel
theorem d_MO_recover_128 : decode b_MO_recover 128 = .ok (.istore 4, 2) := by decide +kernel
theorem d_MO_recover_130 : decode b_MO_recover 130 = .ok (.iload 4, 2) := by decide +kernel
theorem d_MO_recover_132 : decode b_MO_recover 132 = .ok (.sipush 200, 3) := by decide +kernel
theorem d_MO_recover_135 : decode b_MO_recover 135 = .ok (.if_icmp .ge 23, 3) := by decide +kernel
theorem d_MO_recover_138 : decode b_MO_recover 138 = .ok (.aload_n 0, 1) := by decide +kernel
theorem d_MO_recover_139 : decode b_MO_recover 139 = .ok (.getfield 28, 3) := by decide +kernel
theorem d_MO_recover_142 : decode b_MO_recover 142 = .ok (.iload 4, 2) := by decide +kernel
theorem d_MO_recover_144 : decode b_MO_recover 144 = .ok (.aload_n 0, 1) := by decide +kernel
theorem d_MO_recover_145 : decode b_MO_recover 145 = .ok (.getfield 32, 3) := by decide +kernel
theorem d_MO_recover_148 : decode b_MO_recover 148 = .ok (.iload 4, 2) := by decide +kernel
theorem d_MO_recover_150 : decode b_MO_recover 150 = .ok (.baload, 1) := by decide +kernel
theorem d_MO_recover_151 : decode b_MO_recover 151 = .ok (.bastore, 1) := by decide +kernel
theorem d_MO_recover_152 : decode b_MO_recover 152 = .ok (.iinc 4 1, 3) := by decide +kernel
theorem d_MO_recover_155 : decode b_MO_recover 155 = .ok (.goto (-25), 3) := by decide +kernel
theorem d_MO_recover_158 : decode b_MO_recover 158 = .ok (.aload_n 0, 1) := by decide +kernel
theorem d_MO_recover_159 : decode b_MO_recover 159 = .ok (.invokevirtual 201, 3) := by decide +kernel
theorem d_MO_recover_162 : decode b_MO_recover 162 = .ok (.ireturn, 1) := by decide +kernel
theorem d_MO_size_0 : decode b_MO_size 0 = .ok (.aload_n 0, 1) := by decide +kernel
theorem d_MO_size_1 : decode b_MO_size 1 = .ok (.iconst 0, 1) := by decide +kernel
theorem d_MO_size_2 : decode b_MO_size 2 = .ok (.putfield 53, 3) := by decide +kernel
theorem d_MO_size_5 : decode b_MO_size 5 = .ok (.aload_n 0, 1) := by decide +kernel
theorem d_MO_size_6 : decode b_MO_size 6 = .ok (.getfield 157, 3) := by decide +kernel
theorem d_MO_size_9 : decode b_MO_size 9 = .ok (.ifCond .eq 10, 3) := by decide +kernel
theorem d_MO_size_12 : decode b_MO_size 12 = .ok (.aload_n 0, 1) := by decide +kernel
theorem d_MO_size_13 : decode b_MO_size 13 = .ok (.invokevirtual 201, 3) := by decide +kernel
theorem d_MO_size_16 : decode b_MO_size 16 = .ok (.goto 4, 3) := by decide +kernel
theorem d_MO_size_19 : decode b_MO_size 19 = .ok (.iconst 0, 1) := by decide +kernel
theorem d_MO_size_20 : decode b_MO_size 20 = .ok (.ireturn, 1) := by decide +kernel
theorem d_MO_run_0 : decode b_MO_run 0 = .ok (.aload_n 0, 1) := by decide +kernel
theorem d_MO_run_1 : decode b_MO_run 1 = .ok (.aload_n 0, 1) := by decide +kernel
theorem d_MO_run_2 : decode b_MO_run 2 = .ok (.getfield 157, 3) := by decide +kernel
theorem d_MO_run_5 : decode b_MO_run 5 = .ok (.ifCond .ne 7, 3) := by decide +kernel
theorem d_MO_run_8 : decode b_MO_run 8 = .ok (.iconst 1, 1) := by decide +kernel
theorem d_MO_run_9 : decode b_MO_run 9 = .ok (.goto 29, 3) := by decide +kernel
theorem d_MO_run_12 : decode b_MO_run 12 = .ok (.iload_n 1, 1) := by decide +kernel
theorem d_MO_run_13 : decode b_MO_run 13 = .ok (.ifCond .lt 20, 3) := by decide +kernel
theorem d_MO_run_16 : decode b_MO_run 16 = .ok (.iload_n 1, 1) := by decide +kernel
theorem d_MO_run_17 : decode b_MO_run 17 = .ok (.aload_n 0, 1) := by decide +kernel
theorem d_MO_run_18 : decode b_MO_run 18 = .ok (.getfield 82, 3) := by decide +kernel
theorem d_MO_run_21 : decode b_MO_run 21 = .ok (.if_icmp .ge 12, 3) := by decide +kernel
theorem d_MO_run_24 : decode b_MO_run 24 = .ok (.iload_n 2, 1) := by decide +kernel
theorem d_MO_run_25 : decode b_MO_run 25 = .ok (.iconst 0, 1) := by decide +kernel
theorem d_MO_run_26 : decode b_MO_run 26 = .ok (.iconst 5, 1) := by decide +kernel
theorem d_MO_run_27 : decode b_MO_run 27 = .ok (.invokestatic 163, 3) := by decide +kernel
theorem d_MO_run_30 : decode b_MO_run 30 = .ok (.ifCond .ne 7, 3) := by decide +kernel
theorem d_MO_run_33 : decode b_MO_run 33 = .ok (.iconst 2, 1) := by decide +kernel
theorem d_MO_run_34 : decode b_MO_run 34 = .ok (.goto 4, 3) := by decide +kernel
theorem d_MO_run_37 : decode b_MO_run 37 = .ok (.iconst 0, 1) := by decide +kernel
theorem d_MO_run_38 : decode b_MO_run 38 = .ok (.putfield 53, 3) := by decide +kernel
theorem d_MO_run_41 : decode b_MO_run 41 = .ok (.aload_n 0, 1) := by decide +kernel
theorem d_MO_run_42 : decode b_MO_run 42 = .ok (.getfield 53, 3) := by decide +kernel
theorem d_MO_run_45 : decode b_MO_run 45 = .ok (.ifCond .le 5, 3) := by decide +kernel
theorem d_MO_run_48 : decode b_MO_run 48 = .ok (.iconst 0, 1) := by decide +kernel
theorem d_MO_run_49 : decode b_MO_run 49 = .ok (.ireturn, 1) := by decide +kernel
theorem d_MO_run_50 : decode b_MO_run 50 = .ok (.iload_n 2, 1) := by decide +kernel
theorem d_MO_run_51 : decode b_MO_run 51 = .ok (.iconst 3, 1) := by decide +kernel
theorem d_MO_run_52 : decode b_MO_run 52 = .ok (.if_icmp .ge 37, 3) := by decide +kernel
theorem d_MO_run_55 : decode b_MO_run 55 = .ok (.iload_n 2, 1) := by decide +kernel
theorem d_MO_run_56 : decode b_MO_run 56 = .ok (.ifCond .ne 12, 3) := by decide +kernel
theorem d_MO_run_59 : decode b_MO_run 59 = .ok (.aload_n 0, 1) := by decide +kernel
theorem d_MO_run_60 : decode b_MO_run 60 = .ok (.getfield 16, 3) := by decide +kernel
theorem d_MO_run_63 : decode b_MO_run 63 = .ok (.iload_n 1, 1) := by decide +kernel
theorem d_MO_run_64 : decode b_MO_run 64 = .ok (.iaload, 1) := by decide +kernel
theorem d_MO_run_65 : decode b_MO_run 65 = .ok (.goto 23, 3) := by decide +kernel
theorem d_MO_run_68 : decode b_MO_run 68 = .ok (.iload_n 2, 1) := by decide +kernel
theorem d_MO_run_69 : decode b_MO_run 69 = .ok (.iconst 1, 1) := by decide +kernel
theorem d_MO_run_70 : decode b_MO_run 70 = .ok (.if_icmp .ne 12, 3) := by decide +kernel
theorem d_MO_run_73 : decode b_MO_run 73 = .ok (.aload_n 0, 1) := by decide +kernel
