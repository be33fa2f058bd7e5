theorem d_MO_init_0 : decode b_MO_init 0 = .ok (.aload_n 0, 1) := by decide +kernel
theorem d_MO_init_1 : decode b_MO_init 1 = .ok (.invokespecial 1, 3) := by decide +kernel
theorem d_MO_init_4 : decode b_MO_init 4 = .ok (.aload_n 0, 1) := by decide +kernel
theorem d_MO_init_5 : decode b_MO_init 5 = .ok (.sipush 8000, 3) := by decide +kernel
theorem d_MO_init_8 : decode b_MO_init 8 = .ok (.newarray .int, 2) := by decide +kernel
theorem d_MO_init_10 : decode b_MO_init 10 = .ok (.putfield 7, 3) := by decide +kernel
theorem d_MO_init_13 : decode b_MO_init 13 = .ok (.aload_n 0, 1) := by decide +kernel
theorem d_MO_init_14 : decode b_MO_init 14 = .ok (.bipush 100, 2) := by decide +kernel
theorem d_MO_init_16 : decode b_MO_init 16 = .ok (.newarray .int, 2) := by decide +kernel
theorem d_MO_init_18 : decode b_MO_init 18 = .ok (.putfield 13, 3) := by decide +kernel
theorem d_MO_init_21 : decode b_MO_init 21 = .ok (.aload_n 0, 1) := by decide +kernel
theorem d_MO_init_22 : decode b_MO_init 22 = .ok (.bipush 16, 2) := by decide +kernel
theorem d_MO_init_24 : decode b_MO_init 24 = .ok (.newarray .int, 2) := by decide +kernel
theorem d_MO_init_26 : decode b_MO_init 26 = .ok (.putfield 16, 3) := by decide +kernel
theorem d_MO_init_29 : decode b_MO_init 29 = .ok (.aload_n 0, 1) := by decide +kernel
theorem d_MO_init_30 : decode b_MO_init 30 = .ok (.bipush 16, 2) := by decide +kernel
theorem d_MO_init_32 : decode b_MO_init 32 = .ok (.newarray .int, 2) := by decide +kernel
theorem d_MO_init_34 : decode b_MO_init 34 = .ok (.putfield 19, 3) := by decide +kernel
theorem d_MO_init_37 : decode b_MO_init 37 = .ok (.aload_n 0, 1) := by decide +kernel
theorem d_MO_init_38 : decode b_MO_init 38 = .ok (.bipush 16, 2) := by decide +kernel
theorem d_MO_init_40 : decode b_MO_init 40 = .ok (.newarray .int, 2) := by decide +kernel
theorem d_MO_init_42 : decode b_MO_init 42 = .ok (.putfield 22, 3) := by decide +kernel
theorem d_MO_init_45 : decode b_MO_init 45 = .ok (.aload_n 0, 1) := by decide +kernel
theorem d_MO_init_46 : decode b_MO_init 46 = .ok (.bipush 16, 2) := by decide +kernel
theorem d_MO_init_48 : decode b_MO_init 48 = .ok (.newarray .int, 2) := by decide +kernel
theorem d_MO_init_50 : decode b_MO_init 50 = .ok (.putfield 25, 3) := by decide +kernel
theorem d_MO_init_53 : decode b_MO_init 53 = .ok (.aload_n 0, 1) := by decide +kernel
theorem d_MO_init_54 : decode b_MO_init 54 = .ok (.sipush 200, 3) := by decide +kernel
theorem d_MO_init_57 : decode b_MO_init 57 = .ok (.newarray .boolean, 2) := by decide +kernel
theorem d_MO_init_59 : decode b_MO_init 59 = .ok (.putfield 28, 3) := by decide +kernel
theorem d_MO_init_62 : decode b_MO_init 62 = .ok (.aload_n 0, 1) := by decide +kernel
theorem d_MO_init_63 : decode b_MO_init 63 = .ok (.sipush 200, 3) := by decide +kernel
theorem d_MO_init_66 : decode b_MO_init 66 = .ok (.newarray .boolean, 2) := by decide +kernel
theorem d_MO_init_68 : decode b_MO_init 68 = .ok (.putfield 32, 3) := by decide +kernel
theorem d_MO_init_71 : decode b_MO_init 71 = .ok (.aload_n 0, 1) := by decide +kernel
theorem d_MO_init_72 : decode b_MO_init 72 = .ok (.bipush 40, 2) := by decide +kernel
theorem d_MO_init_74 : decode b_MO_init 74 = .ok (.newarray .int, 2) := by decide +kernel
theorem d_MO_init_76 : decode b_MO_init 76 = .ok (.putfield 35, 3) := by decide +kernel
theorem d_MO_init_79 : decode b_MO_init 79 = .ok (.aload_n 0, 1) := by decide +kernel
theorem d_MO_init_80 : decode b_MO_init 80 = .ok (.sipush 200, 3) := by decide +kernel
theorem d_MO_init_83 : decode b_MO_init 83 = .ok (.newarray .int, 2) := by decide +kernel
theorem d_MO_init_85 : decode b_MO_init 85 = .ok (.putfield 38, 3) := by decide +kernel
theorem d_MO_init_88 : decode b_MO_init 88 = .ok (.aload_n 0, 1) := by decide +kernel
theorem d_MO_init_89 : decode b_MO_init 89 = .ok (.bipush 16, 2) := by decide +kernel
theorem d_MO_init_91 : decode b_MO_init 91 = .ok (.newarray .int, 2) := by decide +kernel
theorem d_MO_init_93 : decode b_MO_init 93 = .ok (.putfield 41, 3) := by decide +kernel
theorem d_MO_init_96 : decode b_MO_init 96 = .ok (.aload_n 0, 1) := by decide +kernel
theorem d_MO_init_97 : decode b_MO_init 97 = .ok (.bipush 16, 2) := by decide +kernel
theorem d_MO_init_99 : decode b_MO_init 99 = .ok (.newarray .int, 2) := by decide +kernel
theorem d_MO_init_101 : decode b_MO_init 101 = .ok (.putfield 44, 3) := by decide +kernel
theorem d_MO_init_104 : decode b_MO_init 104 = .ok (.aload_n 0, 1) := by decide +kernel
theorem d_MO_init_105 : decode b_MO_init 105 = .ok (.bipush 16, 2) := by decide +kernel
theorem d_MO_init_107 : decode b_MO_init 107 = .ok (.newarray .int, 2) := by decide +kernel
theorem d_MO_init_109 : decode b_MO_init 109 = .ok (.putfield 47, 3) := by decide +kernel
theorem d_MO_init_112 : decode b_MO_init 112 = .ok (.aload_n 0, 1) := by decide +kernel
theorem d_MO_init_113 : decode b_MO_init 113 = .ok (.bipush 16, 2) := by decide +kernel
theorem d_MO_init_115 : decode b_MO_init 115 = .ok (.newarray .boolean, 2) := by decide +kernel
theorem d_MO_init_117 : decode b_MO_init 117 = .ok (.putfield 50, 3) := by decide +kernel
theorem d_MO_init_120 : decode b_MO_init 120 = .ok (.return_, 1) := by decide +kernel
theorem d_MO_thrown_0 : decode b_MO_thrown 0 = .ok (.aload_n 0, 1) := by decide +kernel
theorem d_MO_thrown_1 : decode b_MO_thrown 1 = .ok (.getfield 53, 3) := by decide +kernel
theorem d_MO_thrown_4 : decode b_MO_thrown 4 = .ok (.ireturn, 1) := by decide +kernel
theorem d_MO_within_0 : decode b_MO_within 0 = .ok (.iload_n 0, 1) := by decide +kernel
theorem d_MO_within_1 : decode b_MO_within 1 = .ok (.iload_n 1, 1) := by decide +kernel
theorem d_MO_within_2 : decode b_MO_within 2 = .ok (.if_icmp .lt 12, 3) := by decide +kernel
theorem d_MO_within_5 : decode b_MO_within 5 = .ok (.iload_n 0, 1) := by decide +kernel
theorem d_MO_within_6 : decode b_MO_within 6 = .ok (.iload_n 2, 1) := by decide +kernel
theorem d_MO_within_7 : decode b_MO_within 7 = .ok (.if_icmp .gt 7, 3) := by decide +kernel
theorem d_MO_within_10 : decode b_MO_within 10 = .ok (.iconst 1, 1) := by decide +kernel
theorem d_MO_within_11 : decode b_MO_within 11 = .ok (.goto 4, 3) := by decide +kernel
theorem d_MO_within_14 : decode b_MO_within 14 = .ok (.iconst 0, 1) := by decide +kernel
theorem d_MO_within_15 : decode b_MO_within 15 = .ok (.ireturn, 1) := by decide +kernel
theorem d_MO_at_0 : decode b_MO_at 0 = .ok (.aload_n 0, 1) := by decide +kernel
theorem d_MO_at_1 : decode b_MO_at 1 = .ok (.getfield 7, 3) := by decide +kernel
theorem d_MO_at_4 : decode b_MO_at 4 = .ok (.bipush 40, 2) := by decide +kernel
theorem d_MO_at_6 : decode b_MO_at 6 = .ok (.iload_n 1, 1) := by decide +kernel
theorem d_MO_at_7 : decode b_MO_at 7 = .ok (.imul, 1) := by decide +kernel
theorem d_MO_at_8 : decode b_MO_at 8 = .ok (.iload_n 2, 1) := by decide +kernel
theorem d_MO_at_9 : decode b_MO_at 9 = .ok (.iadd, 1) := by decide +kernel
theorem d_MO_at_10 : decode b_MO_at 10 = .ok (.iaload, 1) := by decide +kernel
theorem d_MO_at_11 : decode b_MO_at 11 = .ok (.ireturn, 1) := by decide +kernel
theorem d_MO_room_0 : decode b_MO_room 0 = .ok (.aload_n 0, 1) := by decide +kernel
theorem d_MO_room_1 : decode b_MO_room 1 = .ok (.getfield 57, 3) := by decide +kernel
theorem d_MO_room_4 : decode b_MO_room 4 = .ok (.iconst 2, 1) := by decide +kernel
theorem d_MO_room_5 : decode b_MO_room 5 = .ok (.isub, 1) := by decide +kernel
theorem d_MO_room_6 : decode b_MO_room 6 = .ok (.ireturn, 1) := by decide +kernel
theorem d_MO_most_0 : decode b_MO_most 0 = .ok (.aload_n 0, 1) := by decide +kernel
theorem d_MO_most_1 : decode b_MO_most 1 = .ok (.getfield 57, 3) := by decide +kernel
theorem d_MO_most_4 : decode b_MO_most 4 = .ok (.iconst 3, 1) := by decide +kernel
theorem d_MO_most_5 : decode b_MO_most 5 = .ok (.isub, 1) := by decide +kernel
theorem d_MO_most_6 : decode b_MO_most 6 = .ok (.iconst 4, 1) := by decide +kernel
theorem d_MO_most_7 : decode b_MO_most 7 = .ok (.idiv, 1) := by decide +kernel
theorem d_MO_most_8 : decode b_MO_most 8 = .ok (.ireturn, 1) := by decide +kernel
theorem d_MO_sumOf_0 : decode b_MO_sumOf 0 = .ok (.bipush 7, 2) := by decide +kernel
theorem d_MO_sumOf_2 : decode b_MO_sumOf 2 = .ok (.istore_n 2, 1) := by decide +kernel
theorem d_MO_sumOf_3 : decode b_MO_sumOf 3 = .ok (.iconst 1, 1) := by decide +kernel
theorem d_MO_sumOf_4 : decode b_MO_sumOf 4 = .ok (.istore_n 3, 1) := by decide +kernel
theorem d_MO_sumOf_5 : decode b_MO_sumOf 5 = .ok (.iload_n 3, 1) := by decide +kernel
theorem d_MO_sumOf_6 : decode b_MO_sumOf 6 = .ok (.aload_n 0, 1) := by decide +kernel
theorem d_MO_sumOf_7 : decode b_MO_sumOf 7 = .ok (.getfield 57, 3) := by decide +kernel
theorem d_MO_sumOf_10 : decode b_MO_sumOf 10 = .ok (.if_icmp .ge 24, 3) := by decide +kernel
theorem d_MO_sumOf_13 : decode b_MO_sumOf 13 = .ok (.iload_n 2, 1) := by decide +kernel
theorem d_MO_sumOf_14 : decode b_MO_sumOf 14 = .ok (.aload_n 0, 1) := by decide +kernel
theorem d_MO_sumOf_15 : decode b_MO_sumOf 15 = .ok (.iload_n 1, 1) := by decide +kernel
theorem d_MO_sumOf_16 : decode b_MO_sumOf 16 = .ok (.iload_n 3, 1) := by decide +kernel
theorem d_MO_sumOf_17 : decode b_MO_sumOf 17 = .ok (.invokevirtual 60, 3) := by decide +kernel
theorem d_MO_sumOf_20 : decode b_MO_sumOf 20 = .ok (.iconst 2, 1) := by decide +kernel
theorem d_MO_sumOf_21 : decode b_MO_sumOf 21 = .ok (.iload_n 3, 1) := by decide +kernel
theorem d_MO_sumOf_22 : decode b_MO_sumOf 22 = .ok (.imul, 1) := by decide +kernel
theorem d_MO_sumOf_23 : decode b_MO_sumOf 23 = .ok (.iconst 1, 1) := by decide +kernel
theorem d_MO_sumOf_24 : decode b_MO_sumOf 24 = .ok (.iadd, 1) := by decide +kernel
theorem d_MO_sumOf_25 : decode b_MO_sumOf 25 = .ok (.imul, 1) := by decide +kernel
theorem d_MO_sumOf_26 : decode b_MO_sumOf 26 = .ok (.iadd, 1) := by decide +kernel
theorem d_MO_sumOf_27 : decode b_MO_sumOf 27 = .ok (.istore_n 2, 1) := by decide +kernel
theorem d_MO_sumOf_28 : decode b_MO_sumOf 28 = .ok (.iinc 3 1, 3) := by decide +kernel
theorem d_MO_sumOf_31 : decode b_MO_sumOf 31 = .ok (.goto (-26), 3) := by decide +kernel
theorem d_MO_sumOf_34 : decode b_MO_sumOf 34 = .ok (.iload_n 2, 1) := by decide +kernel
theorem d_MO_sumOf_35 : decode b_MO_sumOf 35 = .ok (.ireturn, 1) := by decide +kernel
theorem d_MO_clearRow_0 : decode b_MO_clearRow 0 = .ok (.iconst 0, 1) := by decide +kernel
theorem d_MO_clearRow_1 : decode b_MO_clearRow 1 = .ok (.istore_n 1, 1) := by decide +kernel
theorem d_MO_clearRow_2 : decode b_MO_clearRow 2 = .ok (.iload_n 1, 1) := by decide +kernel
theorem d_MO_clearRow_3 : decode b_MO_clearRow 3 = .ok (.bipush 40, 2) := by decide +kernel
theorem d_MO_clearRow_5 : decode b_MO_clearRow 5 = .ok (.if_icmp .ge 16, 3) := by decide +kernel
theorem d_MO_clearRow_8 : decode b_MO_clearRow 8 = .ok (.aload_n 0, 1) := by decide +kernel
theorem d_MO_clearRow_9 : decode b_MO_clearRow 9 = .ok (.getfield 35, 3) := by decide +kernel
theorem d_MO_clearRow_12 : decode b_MO_clearRow 12 = .ok (.iload_n 1, 1) := by decide +kernel
theorem d_MO_clearRow_13 : decode b_MO_clearRow 13 = .ok (.iconst 0, 1) := by decide +kernel
theorem d_MO_clearRow_14 : decode b_MO_clearRow 14 = .ok (.iastore, 1) := by decide +kernel
theorem d_MO_clearRow_15 : decode b_MO_clearRow 15 = .ok (.iinc 1 1, 3) := by decide +kernel
theorem d_MO_clearRow_18 : decode b_MO_clearRow 18 = .ok (.goto (-16), 3) := by decide +kernel
theorem d_MO_clearRow_21 : decode b_MO_clearRow 21 = .ok (.return_, 1) := by decide +kernel
theorem d_MO_write_0 : decode b_MO_write 0 = .ok (.aload_n 0, 1) := by decide +kernel
theorem d_MO_write_1 : decode b_MO_write 1 = .ok (.getfield 64, 3) := by decide +kernel
theorem d_MO_write_4 : decode b_MO_write 4 = .ok (.ifCond .ne 11, 3) := by decide +kernel
theorem d_MO_write_7 : decode b_MO_write 7 = .ok (.aload_n 0, 1) := by decide +kernel
theorem d_MO_write_8 : decode b_MO_write 8 = .ok (.getfield 68, 3) := by decide +kernel
theorem d_MO_write_11 : decode b_MO_write 11 = .ok (.iconst 1, 1) := by decide +kernel
theorem d_MO_write_12 : decode b_MO_write 12 = .ok (.if_icmp .ne 9, 3) := by decide +kernel
theorem d_MO_write_15 : decode b_MO_write 15 = .ok (.aload_n 0, 1) := by decide +kernel
theorem d_MO_write_16 : decode b_MO_write 16 = .ok (.iconst 1, 1) := by decide +kernel
theorem d_MO_write_17 : decode b_MO_write 17 = .ok (.putfield 64, 3) := by decide +kernel
theorem d_MO_write_20 : decode b_MO_write 20 = .ok (.return_, 1) := by decide +kernel
theorem d_MO_write_21 : decode b_MO_write 21 = .ok (.aload_n 0, 1) := by decide +kernel
theorem d_MO_write_22 : decode b_MO_write 22 = .ok (.aload_n 0, 1) := by decide +kernel
theorem d_MO_write_23 : decode b_MO_write 23 = .ok (.getfield 68, 3) := by decide +kernel
theorem d_MO_write_26 : decode b_MO_write 26 = .ok (.ifCond .le 12, 3) := by decide +kernel
theorem d_MO_write_29 : decode b_MO_write 29 = .ok (.aload_n 0, 1) := by decide +kernel
theorem d_MO_write_30 : decode b_MO_write 30 = .ok (.getfield 68, 3) := by decide +kernel
theorem d_MO_write_33 : decode b_MO_write 33 = .ok (.iconst 1, 1) := by decide +kernel
theorem d_MO_write_34 : decode b_MO_write 34 = .ok (.isub, 1) := by decide +kernel
theorem d_MO_write_35 : decode b_MO_write 35 = .ok (.goto 7, 3) := by decide +kernel
theorem d_MO_write_38 : decode b_MO_write 38 = .ok (.aload_n 0, 1) := by decide +kernel
theorem d_MO_write_39 : decode b_MO_write 39 = .ok (.getfield 68, 3) := by decide +kernel
theorem d_MO_write_42 : decode b_MO_write 42 = .ok (.putfield 68, 3) := by decide +kernel
theorem d_MO_write_45 : decode b_MO_write 45 = .ok (.aload_n 0, 1) := by decide +kernel
theorem d_MO_write_46 : decode b_MO_write 46 = .ok (.dup, 1) := by decide +kernel
theorem d_MO_write_47 : decode b_MO_write 47 = .ok (.getfield 71, 3) := by decide +kernel
theorem d_MO_write_50 : decode b_MO_write 50 = .ok (.iconst 1, 1) := by decide +kernel
theorem d_MO_write_51 : decode b_MO_write 51 = .ok (.iadd, 1) := by decide +kernel
theorem d_MO_write_52 : decode b_MO_write 52 = .ok (.putfield 71, 3) := by decide +kernel
theorem d_MO_write_55 : decode b_MO_write 55 = .ok (.iconst 1, 1) := by decide +kernel
theorem d_MO_write_56 : decode b_MO_write 56 = .ok (.istore_n 2, 1) := by decide +kernel
theorem d_MO_write_57 : decode b_MO_write 57 = .ok (.iload_n 2, 1) := by decide +kernel
theorem d_MO_write_58 : decode b_MO_write 58 = .ok (.aload_n 0, 1) := by decide +kernel
theorem d_MO_write_59 : decode b_MO_write 59 = .ok (.getfield 57, 3) := by decide +kernel
theorem d_MO_write_62 : decode b_MO_write 62 = .ok (.if_icmp .ge 26, 3) := by decide +kernel
theorem d_MO_write_65 : decode b_MO_write 65 = .ok (.aload_n 0, 1) := by decide +kernel
theorem d_MO_write_66 : decode b_MO_write 66 = .ok (.getfield 7, 3) := by decide +kernel
theorem d_MO_write_69 : decode b_MO_write 69 = .ok (.bipush 40, 2) := by decide +kernel
theorem d_MO_write_71 : decode b_MO_write 71 = .ok (.iload_n 1, 1) := by decide +kernel
theorem d_MO_write_72 : decode b_MO_write 72 = .ok (.imul, 1) := by decide +kernel
theorem d_MO_write_73 : decode b_MO_write 73 = .ok (.iload_n 2, 1) := by decide +kernel
theorem d_MO_write_74 : decode b_MO_write 74 = .ok (.iadd, 1) := by decide +kernel
theorem d_MO_write_75 : decode b_MO_write 75 = .ok (.aload_n 0, 1) := by decide +kernel
theorem d_MO_write_76 : decode b_MO_write 76 = .ok (.getfield 35, 3) := by decide +kernel
theorem d_MO_write_79 : decode b_MO_write 79 = .ok (.iload_n 2, 1) := by decide +kernel
theorem d_MO_write_80 : decode b_MO_write 80 = .ok (.iaload, 1) := by decide +kernel
theorem d_MO_write_81 : decode b_MO_write 81 = .ok (.iastore, 1) := by decide +kernel
theorem d_MO_write_82 : decode b_MO_write 82 = .ok (.iinc 2 1, 3) := by decide +kernel
theorem d_MO_write_85 : decode b_MO_write 85 = .ok (.goto (-28), 3) := by decide +kernel
theorem d_MO_write_88 : decode b_MO_write 88 = .ok (.aload_n 0, 1) := by decide +kernel
theorem d_MO_write_89 : decode b_MO_write 89 = .ok (.getfield 7, 3) := by decide +kernel
theorem d_MO_write_92 : decode b_MO_write 92 = .ok (.bipush 40, 2) := by decide +kernel
theorem d_MO_write_94 : decode b_MO_write 94 = .ok (.iload_n 1, 1) := by decide +kernel
theorem d_MO_write_95 : decode b_MO_write 95 = .ok (.imul, 1) := by decide +kernel
theorem d_MO_write_96 : decode b_MO_write 96 = .ok (.aload_n 0, 1) := by decide +kernel
theorem d_MO_write_97 : decode b_MO_write 97 = .ok (.iload_n 1, 1) := by decide +kernel
theorem d_MO_write_98 : decode b_MO_write 98 = .ok (.invokevirtual 74, 3) := by decide +kernel
theorem d_MO_write_101 : decode b_MO_write 101 = .ok (.iastore, 1) := by decide +kernel
theorem d_MO_write_102 : decode b_MO_write 102 = .ok (.return_, 1) := by decide +kernel
theorem d_MO_blocksOf_0 : decode b_MO_blocksOf 0 = .ok (.iload_n 1, 1) := by decide +kernel
theorem d_MO_blocksOf_1 : decode b_MO_blocksOf 1 = .ok (.iload_n 2, 1) := by decide +kernel
theorem d_MO_blocksOf_2 : decode b_MO_blocksOf 2 = .ok (.iadd, 1) := by decide +kernel
theorem d_MO_blocksOf_3 : decode b_MO_blocksOf 3 = .ok (.aload_n 0, 1) := by decide +kernel
theorem d_MO_blocksOf_4 : decode b_MO_blocksOf 4 = .ok (.invokevirtual 78, 3) := by decide +kernel
theorem d_MO_blocksOf_7 : decode b_MO_blocksOf 7 = .ok (.iadd, 1) := by decide +kernel
theorem d_MO_blocksOf_8 : decode b_MO_blocksOf 8 = .ok (.iconst 1, 1) := by decide +kernel
theorem d_MO_blocksOf_9 : decode b_MO_blocksOf 9 = .ok (.isub, 1) := by decide +kernel
theorem d_MO_blocksOf_10 : decode b_MO_blocksOf 10 = .ok (.aload_n 0, 1) := by decide +kernel
theorem d_MO_blocksOf_11 : decode b_MO_blocksOf 11 = .ok (.invokevirtual 78, 3) := by decide +kernel
theorem d_MO_blocksOf_14 : decode b_MO_blocksOf 14 = .ok (.idiv, 1) := by decide +kernel
theorem d_MO_blocksOf_15 : decode b_MO_blocksOf 15 = .ok (.ireturn, 1) := by decide +kernel
theorem d_MO_markTaken_0 : decode b_MO_markTaken 0 = .ok (.iconst 0, 1) := by decide +kernel
theorem d_MO_markTaken_1 : decode b_MO_markTaken 1 = .ok (.istore_n 1, 1) := by decide +kernel
theorem d_MO_markTaken_2 : decode b_MO_markTaken 2 = .ok (.iload_n 1, 1) := by decide +kernel
theorem d_MO_markTaken_3 : decode b_MO_markTaken 3 = .ok (.sipush 200, 3) := by decide +kernel
theorem d_MO_markTaken_6 : decode b_MO_markTaken 6 = .ok (.if_icmp .ge 16, 3) := by decide +kernel
theorem d_MO_markTaken_9 : decode b_MO_markTaken 9 = .ok (.aload_n 0, 1) := by decide +kernel
theorem d_MO_markTaken_10 : decode b_MO_markTaken 10 = .ok (.getfield 32, 3) := by decide +kernel
theorem d_MO_markTaken_13 : decode b_MO_markTaken 13 = .ok (.iload_n 1, 1) := by decide +kernel
theorem d_MO_markTaken_14 : decode b_MO_markTaken 14 = .ok (.iconst 0, 1) := by decide +kernel
theorem d_MO_markTaken_15 : decode b_MO_markTaken 15 = .ok (.bastore, 1) := by decide +kernel
theorem d_MO_markTaken_16 : decode b_MO_markTaken 16 = .ok (.iinc 1 1, 3) := by decide +kernel
theorem d_MO_markTaken_19 : decode b_MO_markTaken 19 = .ok (.goto (-17), 3) := by decide +kernel
theorem d_MO_markTaken_22 : decode b_MO_markTaken 22 = .ok (.iconst 0, 1) := by decide +kernel
theorem d_MO_markTaken_23 : decode b_MO_markTaken 23 = .ok (.istore_n 1, 1) := by decide +kernel
theorem d_MO_markTaken_24 : decode b_MO_markTaken 24 = .ok (.iload_n 1, 1) := by decide +kernel
theorem d_MO_markTaken_25 : decode b_MO_markTaken 25 = .ok (.aload_n 0, 1) := by decide +kernel
theorem d_MO_markTaken_26 : decode b_MO_markTaken 26 = .ok (.getfield 82, 3) := by decide +kernel
theorem d_MO_markTaken_29 : decode b_MO_markTaken 29 = .ok (.if_icmp .ge 62, 3) := by decide +kernel
theorem d_MO_markTaken_32 : decode b_MO_markTaken 32 = .ok (.aload_n 0, 1) := by decide +kernel
theorem d_MO_markTaken_33 : decode b_MO_markTaken 33 = .ok (.getfield 16, 3) := by decide +kernel
theorem d_MO_markTaken_36 : decode b_MO_markTaken 36 = .ok (.iload_n 1, 1) := by decide +kernel
theorem d_MO_markTaken_37 : decode b_MO_markTaken 37 = .ok (.iaload, 1) := by decide +kernel
theorem d_MO_markTaken_38 : decode b_MO_markTaken 38 = .ok (.istore_n 2, 1) := by decide +kernel
theorem d_MO_markTaken_39 : decode b_MO_markTaken 39 = .ok (.aload_n 0, 1) := by decide +kernel
theorem d_MO_markTaken_40 : decode b_MO_markTaken 40 = .ok (.aload_n 0, 1) := by decide +kernel
theorem d_MO_markTaken_41 : decode b_MO_markTaken 41 = .ok (.getfield 19, 3) := by decide +kernel
theorem d_MO_markTaken_44 : decode b_MO_markTaken 44 = .ok (.iload_n 1, 1) := by decide +kernel
theorem d_MO_markTaken_45 : decode b_MO_markTaken 45 = .ok (.iaload, 1) := by decide +kernel
theorem d_MO_markTaken_46 : decode b_MO_markTaken 46 = .ok (.aload_n 0, 1) := by decide +kernel
theorem d_MO_markTaken_47 : decode b_MO_markTaken 47 = .ok (.getfield 22, 3) := by decide +kernel
theorem d_MO_markTaken_50 : decode b_MO_markTaken 50 = .ok (.iload_n 1, 1) := by decide +kernel
theorem d_MO_markTaken_51 : decode b_MO_markTaken 51 = .ok (.iaload, 1) := by decide +kernel
theorem d_MO_markTaken_52 : decode b_MO_markTaken 52 = .ok (.invokevirtual 85, 3) := by decide +kernel
theorem d_MO_markTaken_55 : decode b_MO_markTaken 55 = .ok (.istore_n 3, 1) := by decide +kernel
theorem d_MO_markTaken_56 : decode b_MO_markTaken 56 = .ok (.iconst 0, 1) := by decide +kernel
theorem d_MO_markTaken_57 : decode b_MO_markTaken 57 = .ok (.istore 4, 2) := by decide +kernel
theorem d_MO_markTaken_59 : decode b_MO_markTaken 59 = .ok (.iload 4, 2) := by decide +kernel
theorem d_MO_markTaken_61 : decode b_MO_markTaken 61 = .ok (.iload_n 3, 1) := by decide +kernel
theorem d_MO_markTaken_62 : decode b_MO_markTaken 62 = .ok (.if_icmp .ge 23, 3) := by decide +kernel
theorem d_MO_markTaken_65 : decode b_MO_markTaken 65 = .ok (.aload_n 0, 1) := by decide +kernel
theorem d_MO_markTaken_66 : decode b_MO_markTaken 66 = .ok (.getfield 32, 3) := by decide +kernel
theorem d_MO_markTaken_69 : decode b_MO_markTaken 69 = .ok (.iload_n 2, 1) := by decide +kernel
theorem d_MO_markTaken_70 : decode b_MO_markTaken 70 = .ok (.iconst 1, 1) := by decide +kernel
theorem d_MO_markTaken_71 : decode b_MO_markTaken 71 = .ok (.bastore, 1) := by decide +kernel
theorem d_MO_markTaken_72 : decode b_MO_markTaken 72 = .ok (.aload_n 0, 1) := by decide +kernel
theorem d_MO_markTaken_73 : decode b_MO_markTaken 73 = .ok (.iload_n 2, 1) := by decide +kernel
theorem d_MO_markTaken_74 : decode b_MO_markTaken 74 = .ok (.iconst 1, 1) := by decide +kernel
theorem d_MO_markTaken_75 : decode b_MO_markTaken 75 = .ok (.invokevirtual 60, 3) := by decide +kernel
theorem d_MO_markTaken_78 : decode b_MO_markTaken 78 = .ok (.istore_n 2, 1) := by decide +kernel
theorem d_MO_markTaken_79 : decode b_MO_markTaken 79 = .ok (.iinc 4 1, 3) := by decide +kernel
theorem d_MO_markTaken_82 : decode b_MO_markTaken 82 = .ok (.goto (-23), 3) := by decide +kernel
theorem d_MO_markTaken_85 : decode b_MO_markTaken 85 = .ok (.iinc 1 1, 3) := by decide +kernel
theorem d_MO_markTaken_88 : decode b_MO_markTaken 88 = .ok (.goto (-64), 3) := by decide +kernel
theorem d_MO_markTaken_91 : decode b_MO_markTaken 91 = .ok (.return_, 1) := by decide +kernel
theorem d_MO_isFree_0 : decode b_MO_isFree 0 = .ok (.aload_n 0, 1) := by decide +kernel
theorem d_MO_isFree_1 : decode b_MO_isFree 1 = .ok (.getfield 32, 3) := by decide +kernel
theorem d_MO_isFree_4 : decode b_MO_isFree 4 = .ok (.iload_n 1, 1) := by decide +kernel
theorem d_MO_isFree_5 : decode b_MO_isFree 5 = .ok (.baload, 1) := by decide +kernel
theorem d_MO_isFree_6 : decode b_MO_isFree 6 = .ok (.ifCond .ne 16, 3) := by decide +kernel
theorem d_MO_isFree_9 : decode b_MO_isFree 9 = .ok (.aload_n 0, 1) := by decide +kernel
theorem d_MO_isFree_10 : decode b_MO_isFree 10 = .ok (.getfield 28, 3) := by decide +kernel
theorem d_MO_isFree_13 : decode b_MO_isFree 13 = .ok (.iload_n 1, 1) := by decide +kernel
theorem d_MO_isFree_14 : decode b_MO_isFree 14 = .ok (.baload, 1) := by decide +kernel
theorem d_MO_isFree_15 : decode b_MO_isFree 15 = .ok (.ifCond .ne 7, 3) := by decide +kernel
theorem d_MO_isFree_18 : decode b_MO_isFree 18 = .ok (.iconst 1, 1) := by decide +kernel
theorem d_MO_isFree_19 : decode b_MO_isFree 19 = .ok (.goto 4, 3) := by decide +kernel
theorem d_MO_isFree_22 : decode b_MO_isFree 22 = .ok (.iconst 0, 1) := by decide +kernel
theorem d_MO_isFree_23 : decode b_MO_isFree 23 = .ok (.ireturn, 1) := by decide +kernel
theorem d_MO_free_0 : decode b_MO_free 0 = .ok (.aload_n 0, 1) := by decide +kernel
theorem d_MO_free_1 : decode b_MO_free 1 = .ok (.invokevirtual 88, 3) := by decide +kernel
theorem d_MO_free_4 : decode b_MO_free 4 = .ok (.iconst 0, 1) := by decide +kernel
theorem d_MO_free_5 : decode b_MO_free 5 = .ok (.istore_n 1, 1) := by decide +kernel
theorem d_MO_free_6 : decode b_MO_free 6 = .ok (.iconst 2, 1) := by decide +kernel
theorem d_MO_free_7 : decode b_MO_free 7 = .ok (.istore_n 2, 1) := by decide +kernel
theorem d_MO_free_8 : decode b_MO_free 8 = .ok (.iload_n 2, 1) := by decide +kernel
theorem d_MO_free_9 : decode b_MO_free 9 = .ok (.aload_n 0, 1) := by decide +kernel
theorem d_MO_free_10 : decode b_MO_free 10 = .ok (.getfield 91, 3) := by decide +kernel
theorem d_MO_free_13 : decode b_MO_free 13 = .ok (.if_icmp .ge 25, 3) := by decide +kernel
theorem d_MO_free_16 : decode b_MO_free 16 = .ok (.aload_n 0, 1) := by decide +kernel
theorem d_MO_free_17 : decode b_MO_free 17 = .ok (.iload_n 2, 1) := by decide +kernel
theorem d_MO_free_18 : decode b_MO_free 18 = .ok (.invokevirtual 94, 3) := by decide +kernel
theorem d_MO_free_21 : decode b_MO_free 21 = .ok (.ifCond .eq 9, 3) := by decide +kernel
theorem d_MO_free_24 : decode b_MO_free 24 = .ok (.iload_n 1, 1) := by decide +kernel
theorem d_MO_free_25 : decode b_MO_free 25 = .ok (.iconst 1, 1) := by decide +kernel
theorem d_MO_free_26 : decode b_MO_free 26 = .ok (.iadd, 1) := by decide +kernel
theorem d_MO_free_27 : decode b_MO_free 27 = .ok (.goto 4, 3) := by decide +kernel
theorem d_MO_free_30 : decode b_MO_free 30 = .ok (.iload_n 1, 1) := by decide +kernel
theorem d_MO_free_31 : decode b_MO_free 31 = .ok (.istore_n 1, 1) := by decide +kernel
theorem d_MO_free_32 : decode b_MO_free 32 = .ok (.iinc 2 1, 3) := by decide +kernel
theorem d_MO_free_35 : decode b_MO_free 35 = .ok (.goto (-27), 3) := by decide +kernel
theorem d_MO_free_38 : decode b_MO_free 38 = .ok (.iload_n 1, 1) := by decide +kernel
theorem d_MO_free_39 : decode b_MO_free 39 = .ok (.ireturn, 1) := by decide +kernel
theorem d_MO_least_0 : decode b_MO_least 0 = .ok (.aload_n 0, 1) := by decide +kernel
theorem d_MO_least_1 : decode b_MO_least 1 = .ok (.aload_n 0, 1) := by decide +kernel
theorem d_MO_least_2 : decode b_MO_least 2 = .ok (.getfield 16, 3) := by decide +kernel
theorem d_MO_least_5 : decode b_MO_least 5 = .ok (.iload_n 1, 1) := by decide +kernel
theorem d_MO_least_6 : decode b_MO_least 6 = .ok (.iaload, 1) := by decide +kernel
theorem d_MO_least_7 : decode b_MO_least 7 = .ok (.iconst 2, 1) := by decide +kernel
theorem d_MO_least_8 : decode b_MO_least 8 = .ok (.aload_n 0, 1) := by decide +kernel
theorem d_MO_least_9 : decode b_MO_least 9 = .ok (.getfield 19, 3) := by decide +kernel
theorem d_MO_least_12 : decode b_MO_least 12 = .ok (.iload_n 1, 1) := by decide +kernel
theorem d_MO_least_13 : decode b_MO_least 13 = .ok (.iaload, 1) := by decide +kernel
theorem d_MO_least_14 : decode b_MO_least 14 = .ok (.iadd, 1) := by decide +kernel
theorem d_MO_least_15 : decode b_MO_least 15 = .ok (.invokevirtual 60, 3) := by decide +kernel
theorem d_MO_least_18 : decode b_MO_least 18 = .ok (.ireturn, 1) := by decide +kernel
theorem d_MO_dropRun_0 : decode b_MO_dropRun 0 = .ok (.aload_n 0, 1) := by decide +kernel
theorem d_MO_dropRun_1 : decode b_MO_dropRun 1 = .ok (.dup, 1) := by decide +kernel
theorem d_MO_dropRun_2 : decode b_MO_dropRun 2 = .ok (.getfield 82, 3) := by decide +kernel
theorem d_MO_dropRun_5 : decode b_MO_dropRun 5 = .ok (.iconst 1, 1) := by decide +kernel
theorem d_MO_dropRun_6 : decode b_MO_dropRun 6 = .ok (.isub, 1) := by decide +kernel
theorem d_MO_dropRun_7 : decode b_MO_dropRun 7 = .ok (.putfield 82, 3) := by decide +kernel
theorem d_MO_dropRun_10 : decode b_MO_dropRun 10 = .ok (.iload_n 1, 1) := by decide +kernel
theorem d_MO_dropRun_11 : decode b_MO_dropRun 11 = .ok (.istore_n 2, 1) := by decide +kernel
theorem d_MO_dropRun_12 : decode b_MO_dropRun 12 = .ok (.iload_n 2, 1) := by decide +kernel
theorem d_MO_dropRun_13 : decode b_MO_dropRun 13 = .ok (.aload_n 0, 1) := by decide +kernel
theorem d_MO_dropRun_14 : decode b_MO_dropRun 14 = .ok (.getfield 82, 3) := by decide +kernel
theorem d_MO_dropRun_17 : decode b_MO_dropRun 17 = .ok (.if_icmp .ge 65, 3) := by decide +kernel
theorem d_MO_dropRun_20 : decode b_MO_dropRun 20 = .ok (.aload_n 0, 1) := by decide +kernel
theorem d_MO_dropRun_21 : decode b_MO_dropRun 21 = .ok (.getfield 16, 3) := by decide +kernel
theorem d_MO_dropRun_24 : decode b_MO_dropRun 24 = .ok (.iload_n 2, 1) := by decide +kernel
theorem d_MO_dropRun_25 : decode b_MO_dropRun 25 = .ok (.aload_n 0, 1) := by decide +kernel
theorem d_MO_dropRun_26 : decode b_MO_dropRun 26 = .ok (.getfield 16, 3) := by decide +kernel
theorem d_MO_dropRun_29 : decode b_MO_dropRun 29 = .ok (.iload_n 2, 1) := by decide +kernel
theorem d_MO_dropRun_30 : decode b_MO_dropRun 30 = .ok (.iconst 1, 1) := by decide +kernel
theorem d_MO_dropRun_31 : decode b_MO_dropRun 31 = .ok (.iadd, 1) := by decide +kernel
theorem d_MO_dropRun_32 : decode b_MO_dropRun 32 = .ok (.iaload, 1) := by decide +kernel
theorem d_MO_dropRun_33 : decode b_MO_dropRun 33 = .ok (.iastore, 1) := by decide +kernel
theorem d_MO_dropRun_34 : decode b_MO_dropRun 34 = .ok (.aload_n 0, 1) := by decide +kernel
theorem d_MO_dropRun_35 : decode b_MO_dropRun 35 = .ok (.getfield 19, 3) := by decide +kernel
theorem d_MO_dropRun_38 : decode b_MO_dropRun 38 = .ok (.iload_n 2, 1) := by decide +kernel
theorem d_MO_dropRun_39 : decode b_MO_dropRun 39 = .ok (.aload_n 0, 1) := by decide +kernel
theorem d_MO_dropRun_40 : decode b_MO_dropRun 40 = .ok (.getfield 19, 3) := by decide +kernel
theorem d_MO_dropRun_43 : decode b_MO_dropRun 43 = .ok (.iload_n 2, 1) := by decide +kernel
theorem d_MO_dropRun_44 : decode b_MO_dropRun 44 = .ok (.iconst 1, 1) := by decide +kernel
theorem d_MO_dropRun_45 : decode b_MO_dropRun 45 = .ok (.iadd, 1) := by decide +kernel
theorem d_MO_dropRun_46 : decode b_MO_dropRun 46 = .ok (.iaload, 1) := by decide +kernel
theorem d_MO_dropRun_47 : decode b_MO_dropRun 47 = .ok (.iastore, 1) := by decide +kernel
theorem d_MO_dropRun_48 : decode b_MO_dropRun 48 = .ok (.aload_n 0, 1) := by decide +kernel
theorem d_MO_dropRun_49 : decode b_MO_dropRun 49 = .ok (.getfield 22, 3) := by decide +kernel
theorem d_MO_dropRun_52 : decode b_MO_dropRun 52 = .ok (.iload_n 2, 1) := by decide +kernel
theorem d_MO_dropRun_53 : decode b_MO_dropRun 53 = .ok (.aload_n 0, 1) := by decide +kernel
theorem d_MO_dropRun_54 : decode b_MO_dropRun 54 = .ok (.getfield 22, 3) := by decide +kernel
theorem d_MO_dropRun_57 : decode b_MO_dropRun 57 = .ok (.iload_n 2, 1) := by decide +kernel
theorem d_MO_dropRun_58 : decode b_MO_dropRun 58 = .ok (.iconst 1, 1) := by decide +kernel
theorem d_MO_dropRun_59 : decode b_MO_dropRun 59 = .ok (.iadd, 1) := by decide +kernel
theorem d_MO_dropRun_60 : decode b_MO_dropRun 60 = .ok (.iaload, 1) := by decide +kernel
theorem d_MO_dropRun_61 : decode b_MO_dropRun 61 = .ok (.iastore, 1) := by decide +kernel
theorem d_MO_dropRun_62 : decode b_MO_dropRun 62 = .ok (.aload_n 0, 1) := by decide +kernel
theorem d_MO_dropRun_63 : decode b_MO_dropRun 63 = .ok (.getfield 25, 3) := by decide +kernel
theorem d_MO_dropRun_66 : decode b_MO_dropRun 66 = .ok (.iload_n 2, 1) := by decide +kernel
theorem d_MO_dropRun_67 : decode b_MO_dropRun 67 = .ok (.aload_n 0, 1) := by decide +kernel
theorem d_MO_dropRun_68 : decode b_MO_dropRun 68 = .ok (.getfield 25, 3) := by decide +kernel
theorem d_MO_dropRun_71 : decode b_MO_dropRun 71 = .ok (.iload_n 2, 1) := by decide +kernel
theorem d_MO_dropRun_72 : decode b_MO_dropRun 72 = .ok (.iconst 1, 1) := by decide +kernel
theorem d_MO_dropRun_73 : decode b_MO_dropRun 73 = .ok (.iadd, 1) := by decide +kernel
theorem d_MO_dropRun_74 : decode b_MO_dropRun 74 = .ok (.iaload, 1) := by decide +kernel
theorem d_MO_dropRun_75 : decode b_MO_dropRun 75 = .ok (.iastore, 1) := by decide +kernel
theorem d_MO_dropRun_76 : decode b_MO_dropRun 76 = .ok (.iinc 2 1, 3) := by decide +kernel
theorem d_MO_dropRun_79 : decode b_MO_dropRun 79 = .ok (.goto (-67), 3) := by decide +kernel
theorem d_MO_dropRun_82 : decode b_MO_dropRun 82 = .ok (.return_, 1) := by decide +kernel
theorem d_MO_addRun_0 : decode b_MO_addRun 0 = .ok (.aload_n 0, 1) := by decide +kernel
theorem d_MO_addRun_1 : decode b_MO_addRun 1 = .ok (.getfield 16, 3) := by decide +kernel
theorem d_MO_addRun_4 : decode b_MO_addRun 4 = .ok (.aload_n 0, 1) := by decide +kernel
theorem d_MO_addRun_5 : decode b_MO_addRun 5 = .ok (.getfield 82, 3) := by decide +kernel
theorem d_MO_addRun_8 : decode b_MO_addRun 8 = .ok (.iload_n 1, 1) := by decide +kernel
theorem d_MO_addRun_9 : decode b_MO_addRun 9 = .ok (.iastore, 1) := by decide +kernel
theorem d_MO_addRun_10 : decode b_MO_addRun 10 = .ok (.aload_n 0, 1) := by decide +kernel
theorem d_MO_addRun_11 : decode b_MO_addRun 11 = .ok (.getfield 19, 3) := by decide +kernel
theorem d_MO_addRun_14 : decode b_MO_addRun 14 = .ok (.aload_n 0, 1) := by decide +kernel
theorem d_MO_addRun_15 : decode b_MO_addRun 15 = .ok (.getfield 82, 3) := by decide +kernel
theorem d_MO_addRun_18 : decode b_MO_addRun 18 = .ok (.iconst 0, 1) := by decide +kernel
theorem d_MO_addRun_19 : decode b_MO_addRun 19 = .ok (.iastore, 1) := by decide +kernel
theorem d_MO_addRun_20 : decode b_MO_addRun 20 = .ok (.aload_n 0, 1) := by decide +kernel
theorem d_MO_addRun_21 : decode b_MO_addRun 21 = .ok (.getfield 22, 3) := by decide +kernel
theorem d_MO_addRun_24 : decode b_MO_addRun 24 = .ok (.aload_n 0, 1) := by decide +kernel
theorem d_MO_addRun_25 : decode b_MO_addRun 25 = .ok (.getfield 82, 3) := by decide +kernel
theorem d_MO_addRun_28 : decode b_MO_addRun 28 = .ok (.iload_n 2, 1) := by decide +kernel
theorem d_MO_addRun_29 : decode b_MO_addRun 29 = .ok (.iastore, 1) := by decide +kernel
theorem d_MO_addRun_30 : decode b_MO_addRun 30 = .ok (.aload_n 0, 1) := by decide +kernel
theorem d_MO_addRun_31 : decode b_MO_addRun 31 = .ok (.getfield 25, 3) := by decide +kernel
theorem d_MO_addRun_34 : decode b_MO_addRun 34 = .ok (.aload_n 0, 1) := by decide +kernel
theorem d_MO_addRun_35 : decode b_MO_addRun 35 = .ok (.getfield 82, 3) := by decide +kernel
theorem d_MO_addRun_38 : decode b_MO_addRun 38 = .ok (.iload_n 3, 1) := by decide +kernel
theorem d_MO_addRun_39 : decode b_MO_addRun 39 = .ok (.iastore, 1) := by decide +kernel
theorem d_MO_addRun_40 : decode b_MO_addRun 40 = .ok (.aload_n 0, 1) := by decide +kernel
theorem d_MO_addRun_41 : decode b_MO_addRun 41 = .ok (.dup, 1) := by decide +kernel
theorem d_MO_addRun_42 : decode b_MO_addRun 42 = .ok (.getfield 82, 3) := by decide +kernel
theorem d_MO_addRun_45 : decode b_MO_addRun 45 = .ok (.iconst 1, 1) := by decide +kernel
theorem d_MO_addRun_46 : decode b_MO_addRun 46 = .ok (.iadd, 1) := by decide +kernel
theorem d_MO_addRun_47 : decode b_MO_addRun 47 = .ok (.putfield 82, 3) := by decide +kernel
theorem d_MO_addRun_50 : decode b_MO_addRun 50 = .ok (.return_, 1) := by decide +kernel
theorem d_MO_choose_0 : decode b_MO_choose 0 = .ok (.aload_n 0, 1) := by decide +kernel
theorem d_MO_choose_1 : decode b_MO_choose 1 = .ok (.iconst 0, 1) := by decide +kernel
theorem d_MO_choose_2 : decode b_MO_choose 2 = .ok (.iload_n 1, 1) := by decide +kernel
theorem d_MO_choose_3 : decode b_MO_choose 3 = .ok (.invokevirtual 85, 3) := by decide +kernel
theorem d_MO_choose_6 : decode b_MO_choose 6 = .ok (.istore_n 2, 1) := by decide +kernel
theorem d_MO_choose_7 : decode b_MO_choose 7 = .ok (.aload_n 0, 1) := by decide +kernel
theorem d_MO_choose_8 : decode b_MO_choose 8 = .ok (.invokevirtual 98, 3) := by decide +kernel
theorem d_MO_choose_11 : decode b_MO_choose 11 = .ok (.iload_n 2, 1) := by decide +kernel
theorem d_MO_choose_12 : decode b_MO_choose 12 = .ok (.if_icmp .ge 5, 3) := by decide +kernel
theorem d_MO_choose_15 : decode b_MO_choose 15 = .ok (.iconst 0, 1) := by decide +kernel
theorem d_MO_choose_16 : decode b_MO_choose 16 = .ok (.ireturn, 1) := by decide +kernel
theorem d_MO_choose_17 : decode b_MO_choose 17 = .ok (.iconst 0, 1) := by decide +kernel
theorem d_MO_choose_18 : decode b_MO_choose 18 = .ok (.istore_n 3, 1) := by decide +kernel
theorem d_MO_choose_19 : decode b_MO_choose 19 = .ok (.iconst 2, 1) := by decide +kernel
theorem d_MO_choose_20 : decode b_MO_choose 20 = .ok (.istore 4, 2) := by decide +kernel
theorem d_MO_choose_22 : decode b_MO_choose 22 = .ok (.iload_n 3, 1) := by decide +kernel
theorem d_MO_choose_23 : decode b_MO_choose 23 = .ok (.iload_n 2, 1) := by decide +kernel
theorem d_MO_choose_24 : decode b_MO_choose 24 = .ok (.if_icmp .ge 29, 3) := by decide +kernel
theorem d_MO_choose_27 : decode b_MO_choose 27 = .ok (.aload_n 0, 1) := by decide +kernel
theorem d_MO_choose_28 : decode b_MO_choose 28 = .ok (.iload 4, 2) := by decide +kernel
theorem d_MO_choose_30 : decode b_MO_choose 30 = .ok (.invokevirtual 94, 3) := by decide +kernel
theorem d_MO_choose_33 : decode b_MO_choose 33 = .ok (.ifCond .eq 14, 3) := by decide +kernel
theorem d_MO_choose_36 : decode b_MO_choose 36 = .ok (.aload_n 0, 1) := by decide +kernel
theorem d_MO_choose_37 : decode b_MO_choose 37 = .ok (.getfield 38, 3) := by decide +kernel
theorem d_MO_choose_40 : decode b_MO_choose 40 = .ok (.iload_n 3, 1) := by decide +kernel
theorem d_MO_choose_41 : decode b_MO_choose 41 = .ok (.iload 4, 2) := by decide +kernel
theorem d_MO_choose_43 : decode b_MO_choose 43 = .ok (.iastore, 1) := by decide +kernel
theorem d_MO_choose_44 : decode b_MO_choose 44 = .ok (.iinc 3 1, 3) := by decide +kernel
theorem d_MO_choose_47 : decode b_MO_choose 47 = .ok (.iinc 4 1, 3) := by decide +kernel
theorem d_MO_choose_50 : decode b_MO_choose 50 = .ok (.goto (-28), 3) := by decide +kernel
theorem d_MO_choose_53 : decode b_MO_choose 53 = .ok (.iconst 1, 1) := by decide +kernel
theorem d_MO_choose_54 : decode b_MO_choose 54 = .ok (.ireturn, 1) := by decide +kernel
theorem d_MO_takeFromMemory_0 : decode b_MO_takeFromMemory 0 = .ok (.iconst 0, 1) := by decide +kernel
theorem d_MO_takeFromMemory_1 : decode b_MO_takeFromMemory 1 = .ok (.istore_n 1, 1) := by decide +kernel
theorem d_MO_takeFromMemory_2 : decode b_MO_takeFromMemory 2 = .ok (.iconst 1, 1) := by decide +kernel
theorem d_MO_takeFromMemory_3 : decode b_MO_takeFromMemory 3 = .ok (.istore_n 2, 1) := by decide +kernel
theorem d_MO_takeFromMemory_4 : decode b_MO_takeFromMemory 4 = .ok (.iload_n 2, 1) := by decide +kernel
theorem d_MO_takeFromMemory_5 : decode b_MO_takeFromMemory 5 = .ok (.aload_n 0, 1) := by decide +kernel
theorem d_MO_takeFromMemory_6 : decode b_MO_takeFromMemory 6 = .ok (.getfield 101, 3) := by decide +kernel
theorem d_MO_takeFromMemory_9 : decode b_MO_takeFromMemory 9 = .ok (.if_icmp .ge 30, 3) := by decide +kernel
theorem d_MO_takeFromMemory_12 : decode b_MO_takeFromMemory 12 = .ok (.aload_n 0, 1) := by decide +kernel
theorem d_MO_takeFromMemory_13 : decode b_MO_takeFromMemory 13 = .ok (.getfield 13, 3) := by decide +kernel
theorem d_MO_takeFromMemory_16 : decode b_MO_takeFromMemory 16 = .ok (.iload_n 2, 1) := by decide +kernel
theorem d_MO_takeFromMemory_17 : decode b_MO_takeFromMemory 17 = .ok (.iaload, 1) := by decide +kernel
theorem d_MO_takeFromMemory_18 : decode b_MO_takeFromMemory 18 = .ok (.aload_n 0, 1) := by decide +kernel
theorem d_MO_takeFromMemory_19 : decode b_MO_takeFromMemory 19 = .ok (.getfield 13, 3) := by decide +kernel
theorem d_MO_takeFromMemory_22 : decode b_MO_takeFromMemory 22 = .ok (.iload_n 1, 1) := by decide +kernel
theorem d_MO_takeFromMemory_23 : decode b_MO_takeFromMemory 23 = .ok (.iaload, 1) := by decide +kernel
theorem d_MO_takeFromMemory_24 : decode b_MO_takeFromMemory 24 = .ok (.if_icmp .ge 7, 3) := by decide +kernel
theorem d_MO_takeFromMemory_27 : decode b_MO_takeFromMemory 27 = .ok (.iload_n 2, 1) := by decide +kernel
theorem d_MO_takeFromMemory_28 : decode b_MO_takeFromMemory 28 = .ok (.goto 4, 3) := by decide +kernel
theorem d_MO_takeFromMemory_31 : decode b_MO_takeFromMemory 31 = .ok (.iload_n 1, 1) := by decide +kernel
theorem d_MO_takeFromMemory_32 : decode b_MO_takeFromMemory 32 = .ok (.istore_n 1, 1) := by decide +kernel
theorem d_MO_takeFromMemory_33 : decode b_MO_takeFromMemory 33 = .ok (.iinc 2 1, 3) := by decide +kernel
theorem d_MO_takeFromMemory_36 : decode b_MO_takeFromMemory 36 = .ok (.goto (-32), 3) := by decide +kernel
theorem d_MO_takeFromMemory_39 : decode b_MO_takeFromMemory 39 = .ok (.aload_n 0, 1) := by decide +kernel
theorem d_MO_takeFromMemory_40 : decode b_MO_takeFromMemory 40 = .ok (.getfield 13, 3) := by decide +kernel
theorem d_MO_takeFromMemory_43 : decode b_MO_takeFromMemory 43 = .ok (.iload_n 1, 1) := by decide +kernel
theorem d_MO_takeFromMemory_44 : decode b_MO_takeFromMemory 44 = .ok (.iaload, 1) := by decide +kernel
theorem d_MO_takeFromMemory_45 : decode b_MO_takeFromMemory 45 = .ok (.istore_n 2, 1) := by decide +kernel
theorem d_MO_takeFromMemory_46 : decode b_MO_takeFromMemory 46 = .ok (.aload_n 0, 1) := by decide +kernel
theorem d_MO_takeFromMemory_47 : decode b_MO_takeFromMemory 47 = .ok (.dup, 1) := by decide +kernel
theorem d_MO_takeFromMemory_48 : decode b_MO_takeFromMemory 48 = .ok (.getfield 101, 3) := by decide +kernel
theorem d_MO_takeFromMemory_51 : decode b_MO_takeFromMemory 51 = .ok (.iconst 1, 1) := by decide +kernel
theorem d_MO_takeFromMemory_52 : decode b_MO_takeFromMemory 52 = .ok (.isub, 1) := by decide +kernel
theorem d_MO_takeFromMemory_53 : decode b_MO_takeFromMemory 53 = .ok (.putfield 101, 3) := by decide +kernel
theorem d_MO_takeFromMemory_56 : decode b_MO_takeFromMemory 56 = .ok (.aload_n 0, 1) := by decide +kernel
theorem d_MO_takeFromMemory_57 : decode b_MO_takeFromMemory 57 = .ok (.getfield 13, 3) := by decide +kernel
theorem d_MO_takeFromMemory_60 : decode b_MO_takeFromMemory 60 = .ok (.iload_n 1, 1) := by decide +kernel
theorem d_MO_takeFromMemory_61 : decode b_MO_takeFromMemory 61 = .ok (.aload_n 0, 1) := by decide +kernel
theorem d_MO_takeFromMemory_62 : decode b_MO_takeFromMemory 62 = .ok (.getfield 13, 3) := by decide +kernel
theorem d_MO_takeFromMemory_65 : decode b_MO_takeFromMemory 65 = .ok (.aload_n 0, 1) := by decide +kernel
theorem d_MO_takeFromMemory_66 : decode b_MO_takeFromMemory 66 = .ok (.getfield 101, 3) := by decide +kernel
theorem d_MO_takeFromMemory_69 : decode b_MO_takeFromMemory 69 = .ok (.iaload, 1) := by decide +kernel
theorem d_MO_takeFromMemory_70 : decode b_MO_takeFromMemory 70 = .ok (.iastore, 1) := by decide +kernel
theorem d_MO_takeFromMemory_71 : decode b_MO_takeFromMemory 71 = .ok (.iload_n 2, 1) := by decide +kernel
theorem d_MO_takeFromMemory_72 : decode b_MO_takeFromMemory 72 = .ok (.ireturn, 1) := by decide +kernel
theorem d_MO_headOf_0 : decode b_MO_headOf 0 = .ok (.aload_n 0, 1) := by decide +kernel
theorem d_MO_headOf_1 : decode b_MO_headOf 1 = .ok (.aload_n 0, 1) := by decide +kernel
theorem d_MO_headOf_2 : decode b_MO_headOf 2 = .ok (.getfield 41, 3) := by decide +kernel
theorem d_MO_headOf_5 : decode b_MO_headOf 5 = .ok (.iload_n 1, 1) := by decide +kernel
theorem d_MO_headOf_6 : decode b_MO_headOf 6 = .ok (.iaload, 1) := by decide +kernel
theorem d_MO_headOf_7 : decode b_MO_headOf 7 = .ok (.iconst 2, 1) := by decide +kernel
theorem d_MO_headOf_8 : decode b_MO_headOf 8 = .ok (.aload_n 0, 1) := by decide +kernel
theorem d_MO_headOf_9 : decode b_MO_headOf 9 = .ok (.getfield 44, 3) := by decide +kernel
theorem d_MO_headOf_12 : decode b_MO_headOf 12 = .ok (.iload_n 1, 1) := by decide +kernel
theorem d_MO_headOf_13 : decode b_MO_headOf 13 = .ok (.iaload, 1) := by decide +kernel
theorem d_MO_headOf_14 : decode b_MO_headOf 14 = .ok (.iadd, 1) := by decide +kernel
theorem d_MO_headOf_15 : decode b_MO_headOf 15 = .ok (.invokevirtual 60, 3) := by decide +kernel
theorem d_MO_headOf_18 : decode b_MO_headOf 18 = .ok (.ireturn, 1) := by decide +kernel
theorem d_MO_takeFromRuns_0 : decode b_MO_takeFromRuns 0 = .ok (.iconst (-1), 1) := by decide +kernel
theorem d_MO_takeFromRuns_1 : decode b_MO_takeFromRuns 1 = .ok (.istore_n 1, 1) := by decide +kernel
theorem d_MO_takeFromRuns_2 : decode b_MO_takeFromRuns 2 = .ok (.iconst 0, 1) := by decide +kernel
theorem d_MO_takeFromRuns_3 : decode b_MO_takeFromRuns 3 = .ok (.istore_n 2, 1) := by decide +kernel
theorem d_MO_takeFromRuns_4 : decode b_MO_takeFromRuns 4 = .ok (.iload_n 2, 1) := by decide +kernel
theorem d_MO_takeFromRuns_5 : decode b_MO_takeFromRuns 5 = .ok (.aload_n 0, 1) := by decide +kernel
theorem d_MO_takeFromRuns_6 : decode b_MO_takeFromRuns 6 = .ok (.getfield 82, 3) := by decide +kernel
theorem d_MO_takeFromRuns_9 : decode b_MO_takeFromRuns 9 = .ok (.if_icmp .ge 50, 3) := by decide +kernel
theorem d_MO_takeFromRuns_12 : decode b_MO_takeFromRuns 12 = .ok (.aload_n 0, 1) := by decide +kernel
theorem d_MO_takeFromRuns_13 : decode b_MO_takeFromRuns 13 = .ok (.getfield 50, 3) := by decide +kernel
theorem d_MO_takeFromRuns_16 : decode b_MO_takeFromRuns 16 = .ok (.iload_n 2, 1) := by decide +kernel
theorem d_MO_takeFromRuns_17 : decode b_MO_takeFromRuns 17 = .ok (.baload, 1) := by decide +kernel
theorem d_MO_takeFromRuns_18 : decode b_MO_takeFromRuns 18 = .ok (.ifCond .eq 33, 3) := by decide +kernel
theorem d_MO_takeFromRuns_21 : decode b_MO_takeFromRuns 21 = .ok (.aload_n 0, 1) := by decide +kernel
theorem d_MO_takeFromRuns_22 : decode b_MO_takeFromRuns 22 = .ok (.getfield 47, 3) := by decide +kernel
theorem d_MO_takeFromRuns_25 : decode b_MO_takeFromRuns 25 = .ok (.iload_n 2, 1) := by decide +kernel
theorem d_MO_takeFromRuns_26 : decode b_MO_takeFromRuns 26 = .ok (.iaload, 1) := by decide +kernel
theorem d_MO_takeFromRuns_27 : decode b_MO_takeFromRuns 27 = .ok (.ifCond .le 24, 3) := by decide +kernel
theorem d_MO_takeFromRuns_30 : decode b_MO_takeFromRuns 30 = .ok (.iload_n 1, 1) := by decide +kernel
theorem d_MO_takeFromRuns_31 : decode b_MO_takeFromRuns 31 = .ok (.ifCond .lt 16, 3) := by decide +kernel
theorem d_MO_takeFromRuns_34 : decode b_MO_takeFromRuns 34 = .ok (.aload_n 0, 1) := by decide +kernel
theorem d_MO_takeFromRuns_35 : decode b_MO_takeFromRuns 35 = .ok (.iload_n 2, 1) := by decide +kernel
theorem d_MO_takeFromRuns_36 : decode b_MO_takeFromRuns 36 = .ok (.invokevirtual 104, 3) := by decide +kernel
theorem d_MO_takeFromRuns_39 : decode b_MO_takeFromRuns 39 = .ok (.aload_n 0, 1) := by decide +kernel
theorem d_MO_takeFromRuns_40 : decode b_MO_takeFromRuns 40 = .ok (.iload_n 1, 1) := by decide +kernel
theorem d_MO_takeFromRuns_41 : decode b_MO_takeFromRuns 41 = .ok (.invokevirtual 104, 3) := by decide +kernel
theorem d_MO_takeFromRuns_44 : decode b_MO_takeFromRuns 44 = .ok (.if_icmp .ge 7, 3) := by decide +kernel
theorem d_MO_takeFromRuns_47 : decode b_MO_takeFromRuns 47 = .ok (.iload_n 2, 1) := by decide +kernel
theorem d_MO_takeFromRuns_48 : decode b_MO_takeFromRuns 48 = .ok (.goto 4, 3) := by decide +kernel
theorem d_MO_takeFromRuns_51 : decode b_MO_takeFromRuns 51 = .ok (.iload_n 1, 1) := by decide +kernel
theorem d_MO_takeFromRuns_52 : decode b_MO_takeFromRuns 52 = .ok (.istore_n 1, 1) := by decide +kernel
theorem d_MO_takeFromRuns_53 : decode b_MO_takeFromRuns 53 = .ok (.iinc 2 1, 3) := by decide +kernel
theorem d_MO_takeFromRuns_56 : decode b_MO_takeFromRuns 56 = .ok (.goto (-52), 3) := by decide +kernel
theorem d_MO_takeFromRuns_59 : decode b_MO_takeFromRuns 59 = .ok (.aload_n 0, 1) := by decide +kernel
theorem d_MO_takeFromRuns_60 : decode b_MO_takeFromRuns 60 = .ok (.iload_n 1, 1) := by decide +kernel
theorem d_MO_takeFromRuns_61 : decode b_MO_takeFromRuns 61 = .ok (.invokevirtual 104, 3) := by decide +kernel
theorem d_MO_takeFromRuns_64 : decode b_MO_takeFromRuns 64 = .ok (.istore_n 2, 1) := by decide +kernel
theorem d_MO_takeFromRuns_65 : decode b_MO_takeFromRuns 65 = .ok (.aload_n 0, 1) := by decide +kernel
theorem d_MO_takeFromRuns_66 : decode b_MO_takeFromRuns 66 = .ok (.getfield 47, 3) := by decide +kernel
theorem d_MO_takeFromRuns_69 : decode b_MO_takeFromRuns 69 = .ok (.iload_n 1, 1) := by decide +kernel
theorem d_MO_takeFromRuns_70 : decode b_MO_takeFromRuns 70 = .ok (.dup2, 1) := by decide +kernel
theorem d_MO_takeFromRuns_71 : decode b_MO_takeFromRuns 71 = .ok (.iaload, 1) := by decide +kernel
theorem d_MO_takeFromRuns_72 : decode b_MO_takeFromRuns 72 = .ok (.iconst 1, 1) := by decide +kernel
theorem d_MO_takeFromRuns_73 : decode b_MO_takeFromRuns 73 = .ok (.isub, 1) := by decide +kernel
theorem d_MO_takeFromRuns_74 : decode b_MO_takeFromRuns 74 = .ok (.iastore, 1) := by decide +kernel
theorem d_MO_takeFromRuns_75 : decode b_MO_takeFromRuns 75 = .ok (.aload_n 0, 1) := by decide +kernel
theorem d_MO_takeFromRuns_76 : decode b_MO_takeFromRuns 76 = .ok (.getfield 44, 3) := by decide +kernel
theorem d_MO_takeFromRuns_79 : decode b_MO_takeFromRuns 79 = .ok (.iload_n 1, 1) := by decide +kernel
theorem d_MO_takeFromRuns_80 : decode b_MO_takeFromRuns 80 = .ok (.dup2, 1) := by decide +kernel
theorem d_MO_takeFromRuns_81 : decode b_MO_takeFromRuns 81 = .ok (.iaload, 1) := by decide +kernel
theorem d_MO_takeFromRuns_82 : decode b_MO_takeFromRuns 82 = .ok (.iconst 1, 1) := by decide +kernel
theorem d_MO_takeFromRuns_83 : decode b_MO_takeFromRuns 83 = .ok (.iadd, 1) := by decide +kernel
theorem d_MO_takeFromRuns_84 : decode b_MO_takeFromRuns 84 = .ok (.iastore, 1) := by decide +kernel
theorem d_MO_takeFromRuns_85 : decode b_MO_takeFromRuns 85 = .ok (.aload_n 0, 1) := by decide +kernel
theorem d_MO_takeFromRuns_86 : decode b_MO_takeFromRuns 86 = .ok (.getfield 44, 3) := by decide +kernel
theorem d_MO_takeFromRuns_89 : decode b_MO_takeFromRuns 89 = .ok (.iload_n 1, 1) := by decide +kernel
theorem d_MO_takeFromRuns_90 : decode b_MO_takeFromRuns 90 = .ok (.iaload, 1) := by decide +kernel
theorem d_MO_takeFromRuns_91 : decode b_MO_takeFromRuns 91 = .ok (.aload_n 0, 1) := by decide +kernel
theorem d_MO_takeFromRuns_92 : decode b_MO_takeFromRuns 92 = .ok (.invokevirtual 78, 3) := by decide +kernel
theorem d_MO_takeFromRuns_95 : decode b_MO_takeFromRuns 95 = .ok (.if_icmp .ne 27, 3) := by decide +kernel
theorem d_MO_takeFromRuns_98 : decode b_MO_takeFromRuns 98 = .ok (.aload_n 0, 1) := by decide +kernel
theorem d_MO_takeFromRuns_99 : decode b_MO_takeFromRuns 99 = .ok (.getfield 44, 3) := by decide +kernel
theorem d_MO_takeFromRuns_102 : decode b_MO_takeFromRuns 102 = .ok (.iload_n 1, 1) := by decide +kernel
theorem d_MO_takeFromRuns_103 : decode b_MO_takeFromRuns 103 = .ok (.iconst 0, 1) := by decide +kernel
theorem d_MO_takeFromRuns_104 : decode b_MO_takeFromRuns 104 = .ok (.iastore, 1) := by decide +kernel
theorem d_MO_takeFromRuns_105 : decode b_MO_takeFromRuns 105 = .ok (.aload_n 0, 1) := by decide +kernel
theorem d_MO_takeFromRuns_106 : decode b_MO_takeFromRuns 106 = .ok (.getfield 41, 3) := by decide +kernel
theorem d_MO_takeFromRuns_109 : decode b_MO_takeFromRuns 109 = .ok (.iload_n 1, 1) := by decide +kernel
theorem d_MO_takeFromRuns_110 : decode b_MO_takeFromRuns 110 = .ok (.aload_n 0, 1) := by decide +kernel
theorem d_MO_takeFromRuns_111 : decode b_MO_takeFromRuns 111 = .ok (.aload_n 0, 1) := by decide +kernel
theorem d_MO_takeFromRuns_112 : decode b_MO_takeFromRuns 112 = .ok (.getfield 41, 3) := by decide +kernel
theorem d_MO_takeFromRuns_115 : decode b_MO_takeFromRuns 115 = .ok (.iload_n 1, 1) := by decide +kernel
theorem d_MO_takeFromRuns_116 : decode b_MO_takeFromRuns 116 = .ok (.iaload, 1) := by decide +kernel
theorem d_MO_takeFromRuns_117 : decode b_MO_takeFromRuns 117 = .ok (.iconst 1, 1) := by decide +kernel
theorem d_MO_takeFromRuns_118 : decode b_MO_takeFromRuns 118 = .ok (.invokevirtual 60, 3) := by decide +kernel
theorem d_MO_takeFromRuns_121 : decode b_MO_takeFromRuns 121 = .ok (.iastore, 1) := by decide +kernel
theorem d_MO_takeFromRuns_122 : decode b_MO_takeFromRuns 122 = .ok (.iload_n 2, 1) := by decide +kernel
theorem d_MO_takeFromRuns_123 : decode b_MO_takeFromRuns 123 = .ok (.ireturn, 1) := by decide +kernel
theorem d_MO_writeKeys_0 : decode b_MO_writeKeys 0 = .ok (.aload_n 0, 1) := by decide +kernel
theorem d_MO_writeKeys_1 : decode b_MO_writeKeys 1 = .ok (.iconst 0, 1) := by decide +kernel
theorem d_MO_writeKeys_2 : decode b_MO_writeKeys 2 = .ok (.iload_n 1, 1) := by decide +kernel
theorem d_MO_writeKeys_3 : decode b_MO_writeKeys 3 = .ok (.invokevirtual 85, 3) := by decide +kernel
theorem d_MO_writeKeys_6 : decode b_MO_writeKeys 6 = .ok (.istore_n 3, 1) := by decide +kernel
theorem d_MO_writeKeys_7 : decode b_MO_writeKeys 7 = .ok (.iload_n 1, 1) := by decide +kernel
theorem d_MO_writeKeys_8 : decode b_MO_writeKeys 8 = .ok (.istore 4, 2) := by decide +kernel
theorem d_MO_writeKeys_10 : decode b_MO_writeKeys 10 = .ok (.iconst 0, 1) := by decide +kernel
theorem d_MO_writeKeys_11 : decode b_MO_writeKeys 11 = .ok (.istore 5, 2) := by decide +kernel
theorem d_MO_writeKeys_13 : decode b_MO_writeKeys 13 = .ok (.iload 5, 2) := by decide +kernel
theorem d_MO_writeKeys_15 : decode b_MO_writeKeys 15 = .ok (.iload_n 3, 1) := by decide +kernel
theorem d_MO_writeKeys_16 : decode b_MO_writeKeys 16 = .ok (.if_icmp .ge 108, 3) := by decide +kernel
theorem d_MO_writeKeys_19 : decode b_MO_writeKeys 19 = .ok (.aload_n 0, 1) := by decide +kernel
theorem d_MO_writeKeys_20 : decode b_MO_writeKeys 20 = .ok (.getfield 64, 3) := by decide +kernel
theorem d_MO_writeKeys_23 : decode b_MO_writeKeys 23 = .ok (.ifCond .ne 101, 3) := by decide +kernel
theorem d_MO_writeKeys_26 : decode b_MO_writeKeys 26 = .ok (.aload_n 0, 1) := by decide +kernel
theorem d_MO_writeKeys_27 : decode b_MO_writeKeys 27 = .ok (.invokevirtual 107, 3) := by decide +kernel
theorem d_MO_writeKeys_30 : decode b_MO_writeKeys 30 = .ok (.aload_n 0, 1) := by decide +kernel
theorem d_MO_writeKeys_31 : decode b_MO_writeKeys 31 = .ok (.getfield 35, 3) := by decide +kernel
theorem d_MO_writeKeys_34 : decode b_MO_writeKeys 34 = .ok (.iconst 1, 1) := by decide +kernel
theorem d_MO_writeKeys_35 : decode b_MO_writeKeys 35 = .ok (.iload 5, 2) := by decide +kernel
theorem d_MO_writeKeys_37 : decode b_MO_writeKeys 37 = .ok (.iconst 1, 1) := by decide +kernel
theorem d_MO_writeKeys_38 : decode b_MO_writeKeys 38 = .ok (.iadd, 1) := by decide +kernel
theorem d_MO_writeKeys_39 : decode b_MO_writeKeys 39 = .ok (.iload_n 3, 1) := by decide +kernel
theorem d_MO_writeKeys_40 : decode b_MO_writeKeys 40 = .ok (.if_icmp .ge 15, 3) := by decide +kernel
theorem d_MO_writeKeys_43 : decode b_MO_writeKeys 43 = .ok (.aload_n 0, 1) := by decide +kernel
theorem d_MO_writeKeys_44 : decode b_MO_writeKeys 44 = .ok (.getfield 38, 3) := by decide +kernel
theorem d_MO_writeKeys_47 : decode b_MO_writeKeys 47 = .ok (.iload 5, 2) := by decide +kernel
theorem d_MO_writeKeys_49 : decode b_MO_writeKeys 49 = .ok (.iconst 1, 1) := by decide +kernel
theorem d_MO_writeKeys_50 : decode b_MO_writeKeys 50 = .ok (.iadd, 1) := by decide +kernel
theorem d_MO_writeKeys_51 : decode b_MO_writeKeys 51 = .ok (.iaload, 1) := by decide +kernel
theorem d_MO_writeKeys_52 : decode b_MO_writeKeys 52 = .ok (.goto 4, 3) := by decide +kernel
theorem d_MO_writeKeys_55 : decode b_MO_writeKeys 55 = .ok (.iconst 0, 1) := by decide +kernel
theorem d_MO_writeKeys_56 : decode b_MO_writeKeys 56 = .ok (.iastore, 1) := by decide +kernel
theorem d_MO_writeKeys_57 : decode b_MO_writeKeys 57 = .ok (.iconst 0, 1) := by decide +kernel
theorem d_MO_writeKeys_58 : decode b_MO_writeKeys 58 = .ok (.istore 6, 2) := by decide +kernel
theorem d_MO_writeKeys_60 : decode b_MO_writeKeys 60 = .ok (.iload 6, 2) := by decide +kernel
theorem d_MO_writeKeys_62 : decode b_MO_writeKeys 62 = .ok (.aload_n 0, 1) := by decide +kernel
theorem d_MO_writeKeys_63 : decode b_MO_writeKeys 63 = .ok (.invokevirtual 78, 3) := by decide +kernel
