theorem d_MO_run_74 : decode b_MO_run 74 = .ok (.getfield 19, 3) := by decide +kernel
theorem d_MO_run_77 : decode b_MO_run 77 = .ok (.iload_n 1, 1) := by decide +kernel
theorem d_MO_run_78 : decode b_MO_run 78 = .ok (.iaload, 1) := by decide +kernel
theorem d_MO_run_79 : decode b_MO_run 79 = .ok (.goto 9, 3) := by decide +kernel
theorem d_MO_run_82 : decode b_MO_run 82 = .ok (.aload_n 0, 1) := by decide +kernel
theorem d_MO_run_83 : decode b_MO_run 83 = .ok (.getfield 22, 3) := by decide +kernel
theorem d_MO_run_86 : decode b_MO_run 86 = .ok (.iload_n 1, 1) := by decide +kernel
theorem d_MO_run_87 : decode b_MO_run 87 = .ok (.iaload, 1) := by decide +kernel
theorem d_MO_run_88 : decode b_MO_run 88 = .ok (.ireturn, 1) := by decide +kernel
theorem d_MO_run_89 : decode b_MO_run 89 = .ok (.iload_n 2, 1) := by decide +kernel
theorem d_MO_run_90 : decode b_MO_run 90 = .ok (.iconst 3, 1) := by decide +kernel
theorem d_MO_run_91 : decode b_MO_run 91 = .ok (.if_icmp .ne 12, 3) := by decide +kernel
theorem d_MO_run_94 : decode b_MO_run 94 = .ok (.aload_n 0, 1) := by decide +kernel
theorem d_MO_run_95 : decode b_MO_run 95 = .ok (.getfield 25, 3) := by decide +kernel
theorem d_MO_run_98 : decode b_MO_run 98 = .ok (.iload_n 1, 1) := by decide +kernel
theorem d_MO_run_99 : decode b_MO_run 99 = .ok (.iaload, 1) := by decide +kernel
theorem d_MO_run_100 : decode b_MO_run 100 = .ok (.goto 32, 3) := by decide +kernel
theorem d_MO_run_103 : decode b_MO_run 103 = .ok (.iload_n 2, 1) := by decide +kernel
theorem d_MO_run_104 : decode b_MO_run 104 = .ok (.iconst 4, 1) := by decide +kernel
theorem d_MO_run_105 : decode b_MO_run 105 = .ok (.if_icmp .ne 22, 3) := by decide +kernel
theorem d_MO_run_108 : decode b_MO_run 108 = .ok (.aload_n 0, 1) := by decide +kernel
theorem d_MO_run_109 : decode b_MO_run 109 = .ok (.aload_n 0, 1) := by decide +kernel
theorem d_MO_run_110 : decode b_MO_run 110 = .ok (.getfield 19, 3) := by decide +kernel
theorem d_MO_run_113 : decode b_MO_run 113 = .ok (.iload_n 1, 1) := by decide +kernel
theorem d_MO_run_114 : decode b_MO_run 114 = .ok (.iaload, 1) := by decide +kernel
theorem d_MO_run_115 : decode b_MO_run 115 = .ok (.aload_n 0, 1) := by decide +kernel
theorem d_MO_run_116 : decode b_MO_run 116 = .ok (.getfield 22, 3) := by decide +kernel
theorem d_MO_run_119 : decode b_MO_run 119 = .ok (.iload_n 1, 1) := by decide +kernel
theorem d_MO_run_120 : decode b_MO_run 120 = .ok (.iaload, 1) := by decide +kernel
theorem d_MO_run_121 : decode b_MO_run 121 = .ok (.invokevirtual 85, 3) := by decide +kernel
theorem d_MO_run_124 : decode b_MO_run 124 = .ok (.goto 8, 3) := by decide +kernel
theorem d_MO_run_127 : decode b_MO_run 127 = .ok (.aload_n 0, 1) := by decide +kernel
theorem d_MO_run_128 : decode b_MO_run 128 = .ok (.iload_n 1, 1) := by decide +kernel
theorem d_MO_run_129 : decode b_MO_run 129 = .ok (.invokevirtual 182, 3) := by decide +kernel
theorem d_MO_run_132 : decode b_MO_run 132 = .ok (.ireturn, 1) := by decide +kernel
theorem d_MO_about_0 : decode b_MO_about 0 = .ok (.aload_n 0, 1) := by decide +kernel
theorem d_MO_about_1 : decode b_MO_about 1 = .ok (.iload_n 1, 1) := by decide +kernel
theorem d_MO_about_2 : decode b_MO_about 2 = .ok (.iconst 0, 1) := by decide +kernel
theorem d_MO_about_3 : decode b_MO_about 3 = .ok (.bipush 6, 2) := by decide +kernel
theorem d_MO_about_5 : decode b_MO_about 5 = .ok (.invokestatic 163, 3) := by decide +kernel
theorem d_MO_about_8 : decode b_MO_about 8 = .ok (.ifCond .eq 7, 3) := by decide +kernel
theorem d_MO_about_11 : decode b_MO_about 11 = .ok (.iconst 0, 1) := by decide +kernel
theorem d_MO_about_12 : decode b_MO_about 12 = .ok (.goto 4, 3) := by decide +kernel
theorem d_MO_about_15 : decode b_MO_about 15 = .ok (.iconst 1, 1) := by decide +kernel
theorem d_MO_about_16 : decode b_MO_about 16 = .ok (.putfield 53, 3) := by decide +kernel
theorem d_MO_about_19 : decode b_MO_about 19 = .ok (.aload_n 0, 1) := by decide +kernel
theorem d_MO_about_20 : decode b_MO_about 20 = .ok (.getfield 53, 3) := by decide +kernel
theorem d_MO_about_23 : decode b_MO_about 23 = .ok (.ifCond .le 5, 3) := by decide +kernel
theorem d_MO_about_26 : decode b_MO_about 26 = .ok (.iconst 0, 1) := by decide +kernel
theorem d_MO_about_27 : decode b_MO_about 27 = .ok (.ireturn, 1) := by decide +kernel
theorem d_MO_about_28 : decode b_MO_about 28 = .ok (.iload_n 1, 1) := by decide +kernel
theorem d_MO_about_29 : decode b_MO_about 29 = .ok (.iconst 4, 1) := by decide +kernel
theorem d_MO_about_30 : decode b_MO_about 30 = .ok (.if_icmp .le 28, 3) := by decide +kernel
theorem d_MO_about_33 : decode b_MO_about 33 = .ok (.iload_n 1, 1) := by decide +kernel
theorem d_MO_about_34 : decode b_MO_about 34 = .ok (.iconst 5, 1) := by decide +kernel
theorem d_MO_about_35 : decode b_MO_about 35 = .ok (.if_icmp .ne 10, 3) := by decide +kernel
theorem d_MO_about_38 : decode b_MO_about 38 = .ok (.aload_n 0, 1) := by decide +kernel
theorem d_MO_about_39 : decode b_MO_about 39 = .ok (.getfield 71, 3) := by decide +kernel
theorem d_MO_about_42 : decode b_MO_about 42 = .ok (.goto 15, 3) := by decide +kernel
theorem d_MO_about_45 : decode b_MO_about 45 = .ok (.aload_n 0, 1) := by decide +kernel
theorem d_MO_about_46 : decode b_MO_about 46 = .ok (.getfield 157, 3) := by decide +kernel
theorem d_MO_about_49 : decode b_MO_about 49 = .ok (.ifCond .eq 7, 3) := by decide +kernel
theorem d_MO_about_52 : decode b_MO_about 52 = .ok (.iconst 0, 1) := by decide +kernel
theorem d_MO_about_53 : decode b_MO_about 53 = .ok (.goto 4, 3) := by decide +kernel
theorem d_MO_about_56 : decode b_MO_about 56 = .ok (.iconst 1, 1) := by decide +kernel
theorem d_MO_about_57 : decode b_MO_about 57 = .ok (.ireturn, 1) := by decide +kernel
theorem d_MO_about_58 : decode b_MO_about 58 = .ok (.aload_n 0, 1) := by decide +kernel
theorem d_MO_about_59 : decode b_MO_about 59 = .ok (.getfield 157, 3) := by decide +kernel
theorem d_MO_about_62 : decode b_MO_about 62 = .ok (.ifCond .ne 5, 3) := by decide +kernel
theorem d_MO_about_65 : decode b_MO_about 65 = .ok (.iconst 0, 1) := by decide +kernel
theorem d_MO_about_66 : decode b_MO_about 66 = .ok (.ireturn, 1) := by decide +kernel
theorem d_MO_about_67 : decode b_MO_about 67 = .ok (.iload_n 1, 1) := by decide +kernel
theorem d_MO_about_68 : decode b_MO_about 68 = .ok (.ifCond .ne 10, 3) := by decide +kernel
theorem d_MO_about_71 : decode b_MO_about 71 = .ok (.aload_n 0, 1) := by decide +kernel
theorem d_MO_about_72 : decode b_MO_about 72 = .ok (.getfield 82, 3) := by decide +kernel
theorem d_MO_about_75 : decode b_MO_about 75 = .ok (.goto 43, 3) := by decide +kernel
theorem d_MO_about_78 : decode b_MO_about 78 = .ok (.iload_n 1, 1) := by decide +kernel
theorem d_MO_about_79 : decode b_MO_about 79 = .ok (.iconst 1, 1) := by decide +kernel
theorem d_MO_about_80 : decode b_MO_about 80 = .ok (.if_icmp .ne 10, 3) := by decide +kernel
theorem d_MO_about_83 : decode b_MO_about 83 = .ok (.aload_n 0, 1) := by decide +kernel
theorem d_MO_about_84 : decode b_MO_about 84 = .ok (.getfield 101, 3) := by decide +kernel
theorem d_MO_about_87 : decode b_MO_about 87 = .ok (.goto 31, 3) := by decide +kernel
theorem d_MO_about_90 : decode b_MO_about 90 = .ok (.iload_n 1, 1) := by decide +kernel
theorem d_MO_about_91 : decode b_MO_about 91 = .ok (.iconst 2, 1) := by decide +kernel
theorem d_MO_about_92 : decode b_MO_about 92 = .ok (.if_icmp .ne 10, 3) := by decide +kernel
theorem d_MO_about_95 : decode b_MO_about 95 = .ok (.aload_n 0, 1) := by decide +kernel
theorem d_MO_about_96 : decode b_MO_about 96 = .ok (.invokevirtual 98, 3) := by decide +kernel
theorem d_MO_about_99 : decode b_MO_about 99 = .ok (.goto 19, 3) := by decide +kernel
theorem d_MO_about_102 : decode b_MO_about 102 = .ok (.iload_n 1, 1) := by decide +kernel
theorem d_MO_about_103 : decode b_MO_about 103 = .ok (.iconst 3, 1) := by decide +kernel
theorem d_MO_about_104 : decode b_MO_about 104 = .ok (.if_icmp .ne 10, 3) := by decide +kernel
theorem d_MO_about_107 : decode b_MO_about 107 = .ok (.aload_n 0, 1) := by decide +kernel
theorem d_MO_about_108 : decode b_MO_about 108 = .ok (.getfield 154, 3) := by decide +kernel
theorem d_MO_about_111 : decode b_MO_about 111 = .ok (.goto 7, 3) := by decide +kernel
theorem d_MO_about_114 : decode b_MO_about 114 = .ok (.aload_n 0, 1) := by decide +kernel
theorem d_MO_about_115 : decode b_MO_about 115 = .ok (.invokevirtual 144, 3) := by decide +kernel
theorem d_MO_about_118 : decode b_MO_about 118 = .ok (.ireturn, 1) := by decide +kernel
theorem d_MO_isWord_0 : decode b_MO_isWord 0 = .ok (.aload_n 0, 1) := by decide +kernel
theorem d_MO_isWord_1 : decode b_MO_isWord 1 = .ok (.getfield 167, 3) := by decide +kernel
theorem d_MO_isWord_4 : decode b_MO_isWord 4 = .ok (.ifCond .eq 35, 3) := by decide +kernel
theorem d_MO_isWord_7 : decode b_MO_isWord 7 = .ok (.iload_n 1, 1) := by decide +kernel
theorem d_MO_isWord_8 : decode b_MO_isWord 8 = .ok (.iconst 0, 1) := by decide +kernel
theorem d_MO_isWord_9 : decode b_MO_isWord 9 = .ok (.aload_n 0, 1) := by decide +kernel
theorem d_MO_isWord_10 : decode b_MO_isWord 10 = .ok (.getfield 91, 3) := by decide +kernel
theorem d_MO_isWord_13 : decode b_MO_isWord 13 = .ok (.iconst 1, 1) := by decide +kernel
theorem d_MO_isWord_14 : decode b_MO_isWord 14 = .ok (.isub, 1) := by decide +kernel
theorem d_MO_isWord_15 : decode b_MO_isWord 15 = .ok (.invokestatic 163, 3) := by decide +kernel
theorem d_MO_isWord_18 : decode b_MO_isWord 18 = .ok (.ifCond .eq 21, 3) := by decide +kernel
theorem d_MO_isWord_21 : decode b_MO_isWord 21 = .ok (.iload_n 2, 1) := by decide +kernel
theorem d_MO_isWord_22 : decode b_MO_isWord 22 = .ok (.iconst 0, 1) := by decide +kernel
theorem d_MO_isWord_23 : decode b_MO_isWord 23 = .ok (.aload_n 0, 1) := by decide +kernel
theorem d_MO_isWord_24 : decode b_MO_isWord 24 = .ok (.getfield 57, 3) := by decide +kernel
theorem d_MO_isWord_27 : decode b_MO_isWord 27 = .ok (.iconst 1, 1) := by decide +kernel
theorem d_MO_isWord_28 : decode b_MO_isWord 28 = .ok (.isub, 1) := by decide +kernel
theorem d_MO_isWord_29 : decode b_MO_isWord 29 = .ok (.invokestatic 163, 3) := by decide +kernel
theorem d_MO_isWord_32 : decode b_MO_isWord 32 = .ok (.ifCond .eq 7, 3) := by decide +kernel
theorem d_MO_isWord_35 : decode b_MO_isWord 35 = .ok (.iconst 1, 1) := by decide +kernel
theorem d_MO_isWord_36 : decode b_MO_isWord 36 = .ok (.goto 4, 3) := by decide +kernel
theorem d_MO_isWord_39 : decode b_MO_isWord 39 = .ok (.iconst 0, 1) := by decide +kernel
theorem d_MO_isWord_40 : decode b_MO_isWord 40 = .ok (.ireturn, 1) := by decide +kernel
theorem d_MO_word_0 : decode b_MO_word 0 = .ok (.aload_n 0, 1) := by decide +kernel
theorem d_MO_word_1 : decode b_MO_word 1 = .ok (.aload_n 0, 1) := by decide +kernel
theorem d_MO_word_2 : decode b_MO_word 2 = .ok (.iload_n 1, 1) := by decide +kernel
theorem d_MO_word_3 : decode b_MO_word 3 = .ok (.iload_n 2, 1) := by decide +kernel
theorem d_MO_word_4 : decode b_MO_word 4 = .ok (.invokevirtual 204, 3) := by decide +kernel
theorem d_MO_word_7 : decode b_MO_word 7 = .ok (.ifCond .eq 7, 3) := by decide +kernel
theorem d_MO_word_10 : decode b_MO_word 10 = .ok (.iconst 0, 1) := by decide +kernel
theorem d_MO_word_11 : decode b_MO_word 11 = .ok (.goto 4, 3) := by decide +kernel
theorem d_MO_word_14 : decode b_MO_word 14 = .ok (.iconst 1, 1) := by decide +kernel
theorem d_MO_word_15 : decode b_MO_word 15 = .ok (.putfield 53, 3) := by decide +kernel
theorem d_MO_word_18 : decode b_MO_word 18 = .ok (.aload_n 0, 1) := by decide +kernel
theorem d_MO_word_19 : decode b_MO_word 19 = .ok (.getfield 53, 3) := by decide +kernel
theorem d_MO_word_22 : decode b_MO_word 22 = .ok (.ifCond .le 7, 3) := by decide +kernel
theorem d_MO_word_25 : decode b_MO_word 25 = .ok (.iconst 0, 1) := by decide +kernel
theorem d_MO_word_26 : decode b_MO_word 26 = .ok (.goto 9, 3) := by decide +kernel
theorem d_MO_word_29 : decode b_MO_word 29 = .ok (.aload_n 0, 1) := by decide +kernel
theorem d_MO_word_30 : decode b_MO_word 30 = .ok (.iload_n 1, 1) := by decide +kernel
theorem d_MO_word_31 : decode b_MO_word 31 = .ok (.iload_n 2, 1) := by decide +kernel
theorem d_MO_word_32 : decode b_MO_word 32 = .ok (.invokevirtual 60, 3) := by decide +kernel
theorem d_MO_word_35 : decode b_MO_word 35 = .ok (.ireturn, 1) := by decide +kernel
theorem d_MO_spoil_0 : decode b_MO_spoil 0 = .ok (.aload_n 0, 1) := by decide +kernel
theorem d_MO_spoil_1 : decode b_MO_spoil 1 = .ok (.aload_n 0, 1) := by decide +kernel
theorem d_MO_spoil_2 : decode b_MO_spoil 2 = .ok (.getfield 157, 3) := by decide +kernel
theorem d_MO_spoil_5 : decode b_MO_spoil 5 = .ok (.ifCond .eq 7, 3) := by decide +kernel
theorem d_MO_spoil_8 : decode b_MO_spoil 8 = .ok (.iconst 1, 1) := by decide +kernel
theorem d_MO_spoil_9 : decode b_MO_spoil 9 = .ok (.goto 17, 3) := by decide +kernel
theorem d_MO_spoil_12 : decode b_MO_spoil 12 = .ok (.aload_n 0, 1) := by decide +kernel
theorem d_MO_spoil_13 : decode b_MO_spoil 13 = .ok (.iload_n 1, 1) := by decide +kernel
theorem d_MO_spoil_14 : decode b_MO_spoil 14 = .ok (.iload_n 2, 1) := by decide +kernel
theorem d_MO_spoil_15 : decode b_MO_spoil 15 = .ok (.invokevirtual 204, 3) := by decide +kernel
theorem d_MO_spoil_18 : decode b_MO_spoil 18 = .ok (.ifCond .ne 7, 3) := by decide +kernel
theorem d_MO_spoil_21 : decode b_MO_spoil 21 = .ok (.iconst 2, 1) := by decide +kernel
theorem d_MO_spoil_22 : decode b_MO_spoil 22 = .ok (.goto 4, 3) := by decide +kernel
theorem d_MO_spoil_25 : decode b_MO_spoil 25 = .ok (.iconst 0, 1) := by decide +kernel
theorem d_MO_spoil_26 : decode b_MO_spoil 26 = .ok (.putfield 53, 3) := by decide +kernel
theorem d_MO_spoil_29 : decode b_MO_spoil 29 = .ok (.aload_n 0, 1) := by decide +kernel
theorem d_MO_spoil_30 : decode b_MO_spoil 30 = .ok (.getfield 53, 3) := by decide +kernel
theorem d_MO_spoil_33 : decode b_MO_spoil 33 = .ok (.ifCond .ne 27, 3) := by decide +kernel
theorem d_MO_spoil_36 : decode b_MO_spoil 36 = .ok (.aload_n 0, 1) := by decide +kernel
theorem d_MO_spoil_37 : decode b_MO_spoil 37 = .ok (.getfield 7, 3) := by decide +kernel
theorem d_MO_spoil_40 : decode b_MO_spoil 40 = .ok (.bipush 40, 2) := by decide +kernel
theorem d_MO_spoil_42 : decode b_MO_spoil 42 = .ok (.iload_n 1, 1) := by decide +kernel
theorem d_MO_spoil_43 : decode b_MO_spoil 43 = .ok (.imul, 1) := by decide +kernel
theorem d_MO_spoil_44 : decode b_MO_spoil 44 = .ok (.iload_n 2, 1) := by decide +kernel
theorem d_MO_spoil_45 : decode b_MO_spoil 45 = .ok (.iadd, 1) := by decide +kernel
theorem d_MO_spoil_46 : decode b_MO_spoil 46 = .ok (.aload_n 0, 1) := by decide +kernel
theorem d_MO_spoil_47 : decode b_MO_spoil 47 = .ok (.getfield 7, 3) := by decide +kernel
theorem d_MO_spoil_50 : decode b_MO_spoil 50 = .ok (.bipush 40, 2) := by decide +kernel
theorem d_MO_spoil_52 : decode b_MO_spoil 52 = .ok (.iload_n 1, 1) := by decide +kernel
theorem d_MO_spoil_53 : decode b_MO_spoil 53 = .ok (.imul, 1) := by decide +kernel
theorem d_MO_spoil_54 : decode b_MO_spoil 54 = .ok (.iload_n 2, 1) := by decide +kernel
theorem d_MO_spoil_55 : decode b_MO_spoil 55 = .ok (.iadd, 1) := by decide +kernel
theorem d_MO_spoil_56 : decode b_MO_spoil 56 = .ok (.iaload, 1) := by decide +kernel
theorem d_MO_spoil_57 : decode b_MO_spoil 57 = .ok (.iload_n 3, 1) := by decide +kernel
theorem d_MO_spoil_58 : decode b_MO_spoil 58 = .ok (.ixor, 1) := by decide +kernel
theorem d_MO_spoil_59 : decode b_MO_spoil 59 = .ok (.iastore, 1) := by decide +kernel
theorem d_MO_spoil_60 : decode b_MO_spoil 60 = .ok (.return_, 1) := by decide +kernel
