theorem d_KE_init_0 : decode b_KE_init 0 = .ok (.aload_n 0, 1) := by decide +kernel
theorem d_KE_init_1 : decode b_KE_init 1 = .ok (.invokespecial 1, 3) := by decide +kernel
theorem d_KE_init_4 : decode b_KE_init 4 = .ok (.return_, 1) := by decide +kernel
theorem d_LA_format_0 : decode b_LA_format 0 = .ok (.aload_n 0, 1) := by decide +kernel
theorem d_LA_format_1 : decode b_LA_format 1 = .ok (.iload_n 1, 1) := by decide +kernel
theorem d_LA_format_2 : decode b_LA_format 2 = .ok (.iload_n 2, 1) := by decide +kernel
theorem d_LA_format_3 : decode b_LA_format 3 = .ok (.iload_n 3, 1) := by decide +kernel
theorem d_LA_format_4 : decode b_LA_format 4 = .ok (.iload 4, 2) := by decide +kernel
theorem d_LA_format_6 : decode b_LA_format 6 = .ok (.invokevirtual 7, 3) := by decide +kernel
theorem d_LA_format_9 : decode b_LA_format 9 = .ok (.goto 7, 3) := by decide +kernel
theorem d_LA_format_12 : decode b_LA_format 12 = .ok (.astore 5, 2) := by decide +kernel
theorem d_LA_format_14 : decode b_LA_format 14 = .ok (.iconst 1, 1) := by decide +kernel
theorem d_LA_format_15 : decode b_LA_format 15 = .ok (.ireturn, 1) := by decide +kernel
theorem d_LA_format_16 : decode b_LA_format 16 = .ok (.iconst 0, 1) := by decide +kernel
theorem d_LA_format_17 : decode b_LA_format 17 = .ok (.ireturn, 1) := by decide +kernel
theorem d_LA_insert_0 : decode b_LA_insert 0 = .ok (.aload_n 2, 1) := by decide +kernel
theorem d_LA_insert_1 : decode b_LA_insert 1 = .ok (.iconst 0, 1) := by decide +kernel
theorem d_LA_insert_2 : decode b_LA_insert 2 = .ok (.aload_n 0, 1) := by decide +kernel
theorem d_LA_insert_3 : decode b_LA_insert 3 = .ok (.iload_n 1, 1) := by decide +kernel
theorem d_LA_insert_4 : decode b_LA_insert 4 = .ok (.invokevirtual 15, 3) := by decide +kernel
theorem d_LA_insert_7 : decode b_LA_insert 7 = .ok (.i2l, 1) := by decide +kernel
theorem d_LA_insert_8 : decode b_LA_insert 8 = .ok (.lastore, 1) := by decide +kernel
theorem d_LA_insert_9 : decode b_LA_insert 9 = .ok (.goto 9, 3) := by decide +kernel
theorem d_LA_insert_12 : decode b_LA_insert 12 = .ok (.astore_n 3, 1) := by decide +kernel
theorem d_LA_insert_13 : decode b_LA_insert 13 = .ok (.iconst 1, 1) := by decide +kernel
theorem d_LA_insert_14 : decode b_LA_insert 14 = .ok (.ireturn, 1) := by decide +kernel
theorem d_LA_insert_15 : decode b_LA_insert 15 = .ok (.astore_n 3, 1) := by decide +kernel
theorem d_LA_insert_16 : decode b_LA_insert 16 = .ok (.iconst 2, 1) := by decide +kernel
theorem d_LA_insert_17 : decode b_LA_insert 17 = .ok (.ireturn, 1) := by decide +kernel
theorem d_LA_insert_18 : decode b_LA_insert 18 = .ok (.iconst 0, 1) := by decide +kernel
theorem d_LA_insert_19 : decode b_LA_insert 19 = .ok (.ireturn, 1) := by decide +kernel
theorem d_LA_min_0 : decode b_LA_min 0 = .ok (.aload_n 1, 1) := by decide +kernel
theorem d_LA_min_1 : decode b_LA_min 1 = .ok (.iconst 0, 1) := by decide +kernel
theorem d_LA_min_2 : decode b_LA_min 2 = .ok (.aload_n 0, 1) := by decide +kernel
theorem d_LA_min_3 : decode b_LA_min 3 = .ok (.invokevirtual 21, 3) := by decide +kernel
theorem d_LA_min_6 : decode b_LA_min 6 = .ok (.i2l, 1) := by decide +kernel
theorem d_LA_min_7 : decode b_LA_min 7 = .ok (.lastore, 1) := by decide +kernel
theorem d_LA_min_8 : decode b_LA_min 8 = .ok (.goto 6, 3) := by decide +kernel
theorem d_LA_min_11 : decode b_LA_min 11 = .ok (.astore_n 2, 1) := by decide +kernel
theorem d_LA_min_12 : decode b_LA_min 12 = .ok (.iconst 1, 1) := by decide +kernel
theorem d_LA_min_13 : decode b_LA_min 13 = .ok (.ireturn, 1) := by decide +kernel
theorem d_LA_min_14 : decode b_LA_min 14 = .ok (.iconst 0, 1) := by decide +kernel
theorem d_LA_min_15 : decode b_LA_min 15 = .ok (.ireturn, 1) := by decide +kernel
theorem d_LA_take_0 : decode b_LA_take 0 = .ok (.aload_n 1, 1) := by decide +kernel
theorem d_LA_take_1 : decode b_LA_take 1 = .ok (.iconst 0, 1) := by decide +kernel
theorem d_LA_take_2 : decode b_LA_take 2 = .ok (.aload_n 0, 1) := by decide +kernel
theorem d_LA_take_3 : decode b_LA_take 3 = .ok (.invokevirtual 25, 3) := by decide +kernel
theorem d_LA_take_6 : decode b_LA_take 6 = .ok (.i2l, 1) := by decide +kernel
theorem d_LA_take_7 : decode b_LA_take 7 = .ok (.lastore, 1) := by decide +kernel
theorem d_LA_take_8 : decode b_LA_take 8 = .ok (.goto 6, 3) := by decide +kernel
theorem d_LA_take_11 : decode b_LA_take 11 = .ok (.astore_n 2, 1) := by decide +kernel
theorem d_LA_take_12 : decode b_LA_take 12 = .ok (.iconst 1, 1) := by decide +kernel
theorem d_LA_take_13 : decode b_LA_take 13 = .ok (.ireturn, 1) := by decide +kernel
theorem d_LA_take_14 : decode b_LA_take 14 = .ok (.iconst 0, 1) := by decide +kernel
theorem d_LA_take_15 : decode b_LA_take 15 = .ok (.ireturn, 1) := by decide +kernel
theorem d_LA_sync_0 : decode b_LA_sync 0 = .ok (.aload_n 1, 1) := by decide +kernel
theorem d_LA_sync_1 : decode b_LA_sync 1 = .ok (.iconst 0, 1) := by decide +kernel
theorem d_LA_sync_2 : decode b_LA_sync 2 = .ok (.aload_n 0, 1) := by decide +kernel
theorem d_LA_sync_3 : decode b_LA_sync 3 = .ok (.invokevirtual 28, 3) := by decide +kernel
theorem d_LA_sync_6 : decode b_LA_sync 6 = .ok (.i2l, 1) := by decide +kernel
theorem d_LA_sync_7 : decode b_LA_sync 7 = .ok (.lastore, 1) := by decide +kernel
theorem d_LA_sync_8 : decode b_LA_sync 8 = .ok (.goto 6, 3) := by decide +kernel
theorem d_LA_sync_11 : decode b_LA_sync 11 = .ok (.astore_n 2, 1) := by decide +kernel
theorem d_LA_sync_12 : decode b_LA_sync 12 = .ok (.iconst 1, 1) := by decide +kernel
theorem d_LA_sync_13 : decode b_LA_sync 13 = .ok (.ireturn, 1) := by decide +kernel
theorem d_LA_sync_14 : decode b_LA_sync 14 = .ok (.iconst 0, 1) := by decide +kernel
theorem d_LA_sync_15 : decode b_LA_sync 15 = .ok (.ireturn, 1) := by decide +kernel
theorem d_LA_cutAt_0 : decode b_LA_cutAt 0 = .ok (.aload_n 0, 1) := by decide +kernel
theorem d_LA_cutAt_1 : decode b_LA_cutAt 1 = .ok (.iload_n 1, 1) := by decide +kernel
theorem d_LA_cutAt_2 : decode b_LA_cutAt 2 = .ok (.invokevirtual 31, 3) := by decide +kernel
theorem d_LA_cutAt_5 : decode b_LA_cutAt 5 = .ok (.goto 9, 3) := by decide +kernel
theorem d_LA_cutAt_8 : decode b_LA_cutAt 8 = .ok (.astore_n 2, 1) := by decide +kernel
theorem d_LA_cutAt_9 : decode b_LA_cutAt 9 = .ok (.iconst 1, 1) := by decide +kernel
theorem d_LA_cutAt_10 : decode b_LA_cutAt 10 = .ok (.ireturn, 1) := by decide +kernel
theorem d_LA_cutAt_11 : decode b_LA_cutAt 11 = .ok (.astore_n 2, 1) := by decide +kernel
theorem d_LA_cutAt_12 : decode b_LA_cutAt 12 = .ok (.iconst 2, 1) := by decide +kernel
theorem d_LA_cutAt_13 : decode b_LA_cutAt 13 = .ok (.ireturn, 1) := by decide +kernel
theorem d_LA_cutAt_14 : decode b_LA_cutAt 14 = .ok (.iconst 0, 1) := by decide +kernel
theorem d_LA_cutAt_15 : decode b_LA_cutAt 15 = .ok (.ireturn, 1) := by decide +kernel
theorem d_LA_cut_0 : decode b_LA_cut 0 = .ok (.aload_n 0, 1) := by decide +kernel
theorem d_LA_cut_1 : decode b_LA_cut 1 = .ok (.invokevirtual 35, 3) := by decide +kernel
theorem d_LA_cut_4 : decode b_LA_cut 4 = .ok (.goto 6, 3) := by decide +kernel
theorem d_LA_cut_7 : decode b_LA_cut 7 = .ok (.astore_n 1, 1) := by decide +kernel
theorem d_LA_cut_8 : decode b_LA_cut 8 = .ok (.iconst 1, 1) := by decide +kernel
theorem d_LA_cut_9 : decode b_LA_cut 9 = .ok (.ireturn, 1) := by decide +kernel
theorem d_LA_cut_10 : decode b_LA_cut 10 = .ok (.iconst 0, 1) := by decide +kernel
theorem d_LA_cut_11 : decode b_LA_cut 11 = .ok (.ireturn, 1) := by decide +kernel
theorem d_LA_recover_0 : decode b_LA_recover 0 = .ok (.aload_n 1, 1) := by decide +kernel
theorem d_LA_recover_1 : decode b_LA_recover 1 = .ok (.iconst 0, 1) := by decide +kernel
theorem d_LA_recover_2 : decode b_LA_recover 2 = .ok (.aload_n 0, 1) := by decide +kernel
theorem d_LA_recover_3 : decode b_LA_recover 3 = .ok (.invokevirtual 38, 3) := by decide +kernel
theorem d_LA_recover_6 : decode b_LA_recover 6 = .ok (.i2l, 1) := by decide +kernel
theorem d_LA_recover_7 : decode b_LA_recover 7 = .ok (.lastore, 1) := by decide +kernel
theorem d_LA_recover_8 : decode b_LA_recover 8 = .ok (.goto 6, 3) := by decide +kernel
theorem d_LA_recover_11 : decode b_LA_recover 11 = .ok (.astore_n 2, 1) := by decide +kernel
theorem d_LA_recover_12 : decode b_LA_recover 12 = .ok (.iconst 1, 1) := by decide +kernel
theorem d_LA_recover_13 : decode b_LA_recover 13 = .ok (.ireturn, 1) := by decide +kernel
theorem d_LA_recover_14 : decode b_LA_recover 14 = .ok (.iconst 0, 1) := by decide +kernel
theorem d_LA_recover_15 : decode b_LA_recover 15 = .ok (.ireturn, 1) := by decide +kernel
theorem d_LA_run_0 : decode b_LA_run 0 = .ok (.aload_n 3, 1) := by decide +kernel
theorem d_LA_run_1 : decode b_LA_run 1 = .ok (.iconst 0, 1) := by decide +kernel
theorem d_LA_run_2 : decode b_LA_run 2 = .ok (.aload_n 0, 1) := by decide +kernel
theorem d_LA_run_3 : decode b_LA_run 3 = .ok (.iload_n 1, 1) := by decide +kernel
theorem d_LA_run_4 : decode b_LA_run 4 = .ok (.iload_n 2, 1) := by decide +kernel
theorem d_LA_run_5 : decode b_LA_run 5 = .ok (.invokevirtual 41, 3) := by decide +kernel
theorem d_LA_run_8 : decode b_LA_run 8 = .ok (.i2l, 1) := by decide +kernel
theorem d_LA_run_9 : decode b_LA_run 9 = .ok (.lastore, 1) := by decide +kernel
theorem d_LA_run_10 : decode b_LA_run 10 = .ok (.goto 11, 3) := by decide +kernel
theorem d_LA_run_13 : decode b_LA_run 13 = .ok (.astore 4, 2) := by decide +kernel
theorem d_LA_run_15 : decode b_LA_run 15 = .ok (.iconst 1, 1) := by decide +kernel
theorem d_LA_run_16 : decode b_LA_run 16 = .ok (.ireturn, 1) := by decide +kernel
theorem d_LA_run_17 : decode b_LA_run 17 = .ok (.astore 4, 2) := by decide +kernel
theorem d_LA_run_19 : decode b_LA_run 19 = .ok (.iconst 2, 1) := by decide +kernel
theorem d_LA_run_20 : decode b_LA_run 20 = .ok (.ireturn, 1) := by decide +kernel
theorem d_LA_run_21 : decode b_LA_run 21 = .ok (.iconst 0, 1) := by decide +kernel
theorem d_LA_run_22 : decode b_LA_run 22 = .ok (.ireturn, 1) := by decide +kernel
theorem d_LA_about_0 : decode b_LA_about 0 = .ok (.aload_n 2, 1) := by decide +kernel
theorem d_LA_about_1 : decode b_LA_about 1 = .ok (.iconst 0, 1) := by decide +kernel
theorem d_LA_about_2 : decode b_LA_about 2 = .ok (.aload_n 0, 1) := by decide +kernel
theorem d_LA_about_3 : decode b_LA_about 3 = .ok (.iload_n 1, 1) := by decide +kernel
theorem d_LA_about_4 : decode b_LA_about 4 = .ok (.invokevirtual 47, 3) := by decide +kernel
theorem d_LA_about_7 : decode b_LA_about 7 = .ok (.i2l, 1) := by decide +kernel
theorem d_LA_about_8 : decode b_LA_about 8 = .ok (.lastore, 1) := by decide +kernel
theorem d_LA_about_9 : decode b_LA_about 9 = .ok (.goto 6, 3) := by decide +kernel
theorem d_LA_about_12 : decode b_LA_about 12 = .ok (.astore_n 3, 1) := by decide +kernel
theorem d_LA_about_13 : decode b_LA_about 13 = .ok (.iconst 1, 1) := by decide +kernel
theorem d_LA_about_14 : decode b_LA_about 14 = .ok (.ireturn, 1) := by decide +kernel
theorem d_LA_about_15 : decode b_LA_about 15 = .ok (.iconst 0, 1) := by decide +kernel
theorem d_LA_about_16 : decode b_LA_about 16 = .ok (.ireturn, 1) := by decide +kernel
theorem d_LA_word_0 : decode b_LA_word 0 = .ok (.aload_n 3, 1) := by decide +kernel
theorem d_LA_word_1 : decode b_LA_word 1 = .ok (.iconst 0, 1) := by decide +kernel
theorem d_LA_word_2 : decode b_LA_word 2 = .ok (.aload_n 0, 1) := by decide +kernel
theorem d_LA_word_3 : decode b_LA_word 3 = .ok (.iload_n 1, 1) := by decide +kernel
theorem d_LA_word_4 : decode b_LA_word 4 = .ok (.iload_n 2, 1) := by decide +kernel
theorem d_LA_word_5 : decode b_LA_word 5 = .ok (.invokevirtual 50, 3) := by decide +kernel
theorem d_LA_word_8 : decode b_LA_word 8 = .ok (.i2l, 1) := by decide +kernel
theorem d_LA_word_9 : decode b_LA_word 9 = .ok (.lastore, 1) := by decide +kernel
theorem d_LA_word_10 : decode b_LA_word 10 = .ok (.goto 7, 3) := by decide +kernel
theorem d_LA_word_13 : decode b_LA_word 13 = .ok (.astore 4, 2) := by decide +kernel
theorem d_LA_word_15 : decode b_LA_word 15 = .ok (.iconst 1, 1) := by decide +kernel
theorem d_LA_word_16 : decode b_LA_word 16 = .ok (.ireturn, 1) := by decide +kernel
theorem d_LA_word_17 : decode b_LA_word 17 = .ok (.iconst 0, 1) := by decide +kernel
theorem d_LA_word_18 : decode b_LA_word 18 = .ok (.ireturn, 1) := by decide +kernel
theorem d_LA_spoil_0 : decode b_LA_spoil 0 = .ok (.aload_n 0, 1) := by decide +kernel
theorem d_LA_spoil_1 : decode b_LA_spoil 1 = .ok (.iload_n 1, 1) := by decide +kernel
theorem d_LA_spoil_2 : decode b_LA_spoil 2 = .ok (.iload_n 2, 1) := by decide +kernel
theorem d_LA_spoil_3 : decode b_LA_spoil 3 = .ok (.iload_n 3, 1) := by decide +kernel
theorem d_LA_spoil_4 : decode b_LA_spoil 4 = .ok (.invokevirtual 53, 3) := by decide +kernel
theorem d_LA_spoil_7 : decode b_LA_spoil 7 = .ok (.goto 11, 3) := by decide +kernel
theorem d_LA_spoil_10 : decode b_LA_spoil 10 = .ok (.astore 4, 2) := by decide +kernel
theorem d_LA_spoil_12 : decode b_LA_spoil 12 = .ok (.iconst 1, 1) := by decide +kernel
theorem d_LA_spoil_13 : decode b_LA_spoil 13 = .ok (.ireturn, 1) := by decide +kernel
theorem d_LA_spoil_14 : decode b_LA_spoil 14 = .ok (.astore 4, 2) := by decide +kernel
theorem d_LA_spoil_16 : decode b_LA_spoil 16 = .ok (.iconst 2, 1) := by decide +kernel
theorem d_LA_spoil_17 : decode b_LA_spoil 17 = .ok (.ireturn, 1) := by decide +kernel
theorem d_LA_spoil_18 : decode b_LA_spoil 18 = .ok (.iconst 0, 1) := by decide +kernel
theorem d_LA_spoil_19 : decode b_LA_spoil 19 = .ok (.ireturn, 1) := by decide +kernel
theorem d_law_0 : decode code 0 = .ok (.new 8, 3) := by decide +kernel
theorem d_law_3 : decode code 3 = .ok (.dup, 1) := by decide +kernel
theorem d_law_4 : decode code 4 = .ok (.invokespecial 57, 3) := by decide +kernel
theorem d_law_7 : decode code 7 = .ok (.astore_n 1, 1) := by decide +kernel
theorem d_law_8 : decode code 8 = .ok (.new 58, 3) := by decide +kernel
theorem d_law_11 : decode code 11 = .ok (.dup, 1) := by decide +kernel
theorem d_law_12 : decode code 12 = .ok (.invokespecial 60, 3) := by decide +kernel
theorem d_law_15 : decode code 15 = .ok (.astore_n 2, 1) := by decide +kernel
theorem d_law_16 : decode code 16 = .ok (.iconst 1, 1) := by decide +kernel
theorem d_law_17 : decode code 17 = .ok (.newarray .long, 2) := by decide +kernel
theorem d_law_19 : decode code 19 = .ok (.astore_n 3, 1) := by decide +kernel
theorem d_law_20 : decode code 20 = .ok (.iconst 0, 1) := by decide +kernel
theorem d_law_21 : decode code 21 = .ok (.istore 4, 2) := by decide +kernel
theorem d_law_23 : decode code 23 = .ok (.iload 4, 2) := by decide +kernel
theorem d_law_25 : decode code 25 = .ok (.aload_n 0, 1) := by decide +kernel
theorem d_law_26 : decode code 26 = .ok (.arraylength, 1) := by decide +kernel
theorem d_law_27 : decode code 27 = .ok (.iconst 5, 1) := by decide +kernel
theorem d_law_28 : decode code 28 = .ok (.isub, 1) := by decide +kernel
theorem d_law_29 : decode code 29 = .ok (.if_icmp .gt 710, 3) := by decide +kernel
theorem d_law_32 : decode code 32 = .ok (.aload_n 0, 1) := by decide +kernel
theorem d_law_33 : decode code 33 = .ok (.iload 4, 2) := by decide +kernel
theorem d_law_35 : decode code 35 = .ok (.iaload, 1) := by decide +kernel
theorem d_law_36 : decode code 36 = .ok (.bipush 15, 2) := by decide +kernel
theorem d_law_38 : decode code 38 = .ok (.iand, 1) := by decide +kernel
theorem d_law_39 : decode code 39 = .ok (.tableswitch 694 0 12 #[65, 137, 193, 237, 281, 325, 361, 385, 429, 442, 510, 566, 634], 65) := by decide +kernel
theorem d_law_104 : decode code 104 = .ok (.aload_n 1, 1) := by decide +kernel
theorem d_law_105 : decode code 105 = .ok (.aload_n 0, 1) := by decide +kernel
theorem d_law_106 : decode code 106 = .ok (.iload 4, 2) := by decide +kernel
theorem d_law_108 : decode code 108 = .ok (.iconst 1, 1) := by decide +kernel
theorem d_law_109 : decode code 109 = .ok (.iadd, 1) := by decide +kernel
theorem d_law_110 : decode code 110 = .ok (.iaload, 1) := by decide +kernel
theorem d_law_111 : decode code 111 = .ok (.aload_n 0, 1) := by decide +kernel
theorem d_law_112 : decode code 112 = .ok (.iload 4, 2) := by decide +kernel
theorem d_law_114 : decode code 114 = .ok (.iconst 2, 1) := by decide +kernel
theorem d_law_115 : decode code 115 = .ok (.iadd, 1) := by decide +kernel
theorem d_law_116 : decode code 116 = .ok (.iaload, 1) := by decide +kernel
theorem d_law_117 : decode code 117 = .ok (.aload_n 0, 1) := by decide +kernel
theorem d_law_118 : decode code 118 = .ok (.iload 4, 2) := by decide +kernel
theorem d_law_120 : decode code 120 = .ok (.iconst 3, 1) := by decide +kernel
theorem d_law_121 : decode code 121 = .ok (.iadd, 1) := by decide +kernel
theorem d_law_122 : decode code 122 = .ok (.iaload, 1) := by decide +kernel
theorem d_law_123 : decode code 123 = .ok (.aload_n 0, 1) := by decide +kernel
theorem d_law_124 : decode code 124 = .ok (.iload 4, 2) := by decide +kernel
theorem d_law_126 : decode code 126 = .ok (.iconst 4, 1) := by decide +kernel
theorem d_law_127 : decode code 127 = .ok (.iadd, 1) := by decide +kernel
theorem d_law_128 : decode code 128 = .ok (.iaload, 1) := by decide +kernel
theorem d_law_129 : decode code 129 = .ok (.invokestatic 61, 3) := by decide +kernel
theorem d_law_132 : decode code 132 = .ok (.istore 5, 2) := by decide +kernel
theorem d_law_134 : decode code 134 = .ok (.aload_n 2, 1) := by decide +kernel
theorem d_law_135 : decode code 135 = .ok (.aload_n 0, 1) := by decide +kernel
theorem d_law_136 : decode code 136 = .ok (.iload 4, 2) := by decide +kernel
theorem d_law_138 : decode code 138 = .ok (.iconst 1, 1) := by decide +kernel
theorem d_law_139 : decode code 139 = .ok (.iadd, 1) := by decide +kernel
theorem d_law_140 : decode code 140 = .ok (.iaload, 1) := by decide +kernel
theorem d_law_141 : decode code 141 = .ok (.aload_n 0, 1) := by decide +kernel
theorem d_law_142 : decode code 142 = .ok (.iload 4, 2) := by decide +kernel
theorem d_law_144 : decode code 144 = .ok (.iconst 2, 1) := by decide +kernel
theorem d_law_145 : decode code 145 = .ok (.iadd, 1) := by decide +kernel
theorem d_law_146 : decode code 146 = .ok (.iaload, 1) := by decide +kernel
theorem d_law_147 : decode code 147 = .ok (.aload_n 0, 1) := by decide +kernel
theorem d_law_148 : decode code 148 = .ok (.iload 4, 2) := by decide +kernel
theorem d_law_150 : decode code 150 = .ok (.iconst 3, 1) := by decide +kernel
theorem d_law_151 : decode code 151 = .ok (.iadd, 1) := by decide +kernel
theorem d_law_152 : decode code 152 = .ok (.iaload, 1) := by decide +kernel
theorem d_law_153 : decode code 153 = .ok (.aload_n 0, 1) := by decide +kernel
theorem d_law_154 : decode code 154 = .ok (.iload 4, 2) := by decide +kernel
theorem d_law_156 : decode code 156 = .ok (.iconst 4, 1) := by decide +kernel
theorem d_law_157 : decode code 157 = .ok (.iadd, 1) := by decide +kernel
theorem d_law_158 : decode code 158 = .ok (.iaload, 1) := by decide +kernel
theorem d_law_159 : decode code 159 = .ok (.invokevirtual 66, 3) := by decide +kernel
theorem d_law_162 : decode code 162 = .ok (.aload_n 2, 1) := by decide +kernel
theorem d_law_163 : decode code 163 = .ok (.invokevirtual 67, 3) := by decide +kernel
theorem d_law_166 : decode code 166 = .ok (.iload 5, 2) := by decide +kernel
theorem d_law_168 : decode code 168 = .ok (.if_icmp .eq 5, 3) := by decide +kernel
theorem d_law_171 : decode code 171 = .ok (.iconst 0, 1) := by decide +kernel
theorem d_law_172 : decode code 172 = .ok (.ireturn, 1) := by decide +kernel
theorem d_law_173 : decode code 173 = .ok (.goto 560, 3) := by decide +kernel
theorem d_law_176 : decode code 176 = .ok (.aload_n 1, 1) := by decide +kernel
theorem d_law_177 : decode code 177 = .ok (.aload_n 0, 1) := by decide +kernel
theorem d_law_178 : decode code 178 = .ok (.iload 4, 2) := by decide +kernel
theorem d_law_180 : decode code 180 = .ok (.iconst 1, 1) := by decide +kernel
theorem d_law_181 : decode code 181 = .ok (.iadd, 1) := by decide +kernel
theorem d_law_182 : decode code 182 = .ok (.iaload, 1) := by decide +kernel
theorem d_law_183 : decode code 183 = .ok (.aload_n 3, 1) := by decide +kernel
theorem d_law_184 : decode code 184 = .ok (.invokestatic 70, 3) := by decide +kernel
theorem d_law_187 : decode code 187 = .ok (.istore 5, 2) := by decide +kernel
theorem d_law_189 : decode code 189 = .ok (.aload_n 2, 1) := by decide +kernel
theorem d_law_190 : decode code 190 = .ok (.aload_n 0, 1) := by decide +kernel
theorem d_law_191 : decode code 191 = .ok (.iload 4, 2) := by decide +kernel
theorem d_law_193 : decode code 193 = .ok (.iconst 1, 1) := by decide +kernel
theorem d_law_194 : decode code 194 = .ok (.iadd, 1) := by decide +kernel
theorem d_law_195 : decode code 195 = .ok (.iaload, 1) := by decide +kernel
theorem d_law_196 : decode code 196 = .ok (.invokevirtual 73, 3) := by decide +kernel
theorem d_law_199 : decode code 199 = .ok (.istore 6, 2) := by decide +kernel
theorem d_law_201 : decode code 201 = .ok (.aload_n 2, 1) := by decide +kernel
theorem d_law_202 : decode code 202 = .ok (.invokevirtual 67, 3) := by decide +kernel
theorem d_law_205 : decode code 205 = .ok (.iload 5, 2) := by decide +kernel
theorem d_law_207 : decode code 207 = .ok (.if_icmp .eq 5, 3) := by decide +kernel
theorem d_law_210 : decode code 210 = .ok (.iconst 0, 1) := by decide +kernel
theorem d_law_211 : decode code 211 = .ok (.ireturn, 1) := by decide +kernel
theorem d_law_212 : decode code 212 = .ok (.iload 5, 2) := by decide +kernel
theorem d_law_214 : decode code 214 = .ok (.ifCond .ne 15, 3) := by decide +kernel
theorem d_law_217 : decode code 217 = .ok (.aload_n 3, 1) := by decide +kernel
theorem d_law_218 : decode code 218 = .ok (.iconst 0, 1) := by decide +kernel
theorem d_law_219 : decode code 219 = .ok (.laload, 1) := by decide +kernel
theorem d_law_220 : decode code 220 = .ok (.iload 6, 2) := by decide +kernel
theorem d_law_222 : decode code 222 = .ok (.i2l, 1) := by decide +kernel
theorem d_law_223 : decode code 223 = .ok (.lcmp, 1) := by decide +kernel
theorem d_law_224 : decode code 224 = .ok (.ifCond .eq 5, 3) := by decide +kernel
theorem d_law_227 : decode code 227 = .ok (.iconst 0, 1) := by decide +kernel
theorem d_law_228 : decode code 228 = .ok (.ireturn, 1) := by decide +kernel
theorem d_law_229 : decode code 229 = .ok (.goto 504, 3) := by decide +kernel
theorem d_law_232 : decode code 232 = .ok (.aload_n 1, 1) := by decide +kernel
theorem d_law_233 : decode code 233 = .ok (.aload_n 3, 1) := by decide +kernel
theorem d_law_234 : decode code 234 = .ok (.invokestatic 74, 3) := by decide +kernel
theorem d_law_237 : decode code 237 = .ok (.istore 5, 2) := by decide +kernel
theorem d_law_239 : decode code 239 = .ok (.aload_n 2, 1) := by decide +kernel
theorem d_law_240 : decode code 240 = .ok (.invokevirtual 77, 3) := by decide +kernel
theorem d_law_243 : decode code 243 = .ok (.istore 6, 2) := by decide +kernel
theorem d_law_245 : decode code 245 = .ok (.aload_n 2, 1) := by decide +kernel
theorem d_law_246 : decode code 246 = .ok (.invokevirtual 67, 3) := by decide +kernel
theorem d_law_249 : decode code 249 = .ok (.iload 5, 2) := by decide +kernel
theorem d_law_251 : decode code 251 = .ok (.if_icmp .eq 5, 3) := by decide +kernel
theorem d_law_254 : decode code 254 = .ok (.iconst 0, 1) := by decide +kernel
theorem d_law_255 : decode code 255 = .ok (.ireturn, 1) := by decide +kernel
theorem d_law_256 : decode code 256 = .ok (.iload 5, 2) := by decide +kernel
theorem d_law_258 : decode code 258 = .ok (.ifCond .ne 15, 3) := by decide +kernel
theorem d_law_261 : decode code 261 = .ok (.aload_n 3, 1) := by decide +kernel
theorem d_law_262 : decode code 262 = .ok (.iconst 0, 1) := by decide +kernel
theorem d_law_263 : decode code 263 = .ok (.laload, 1) := by decide +kernel
theorem d_law_264 : decode code 264 = .ok (.iload 6, 2) := by decide +kernel
theorem d_law_266 : decode code 266 = .ok (.i2l, 1) := by decide +kernel
theorem d_law_267 : decode code 267 = .ok (.lcmp, 1) := by decide +kernel
theorem d_law_268 : decode code 268 = .ok (.ifCond .eq 5, 3) := by decide +kernel
theorem d_law_271 : decode code 271 = .ok (.iconst 0, 1) := by decide +kernel
theorem d_law_272 : decode code 272 = .ok (.ireturn, 1) := by decide +kernel
theorem d_law_273 : decode code 273 = .ok (.goto 460, 3) := by decide +kernel
theorem d_law_276 : decode code 276 = .ok (.aload_n 1, 1) := by decide +kernel
theorem d_law_277 : decode code 277 = .ok (.aload_n 3, 1) := by decide +kernel
theorem d_law_278 : decode code 278 = .ok (.invokestatic 78, 3) := by decide +kernel
theorem d_law_281 : decode code 281 = .ok (.istore 5, 2) := by decide +kernel
theorem d_law_283 : decode code 283 = .ok (.aload_n 2, 1) := by decide +kernel
theorem d_law_284 : decode code 284 = .ok (.invokevirtual 80, 3) := by decide +kernel
theorem d_law_287 : decode code 287 = .ok (.istore 6, 2) := by decide +kernel
theorem d_law_289 : decode code 289 = .ok (.aload_n 2, 1) := by decide +kernel
theorem d_law_290 : decode code 290 = .ok (.invokevirtual 67, 3) := by decide +kernel
theorem d_law_293 : decode code 293 = .ok (.iload 5, 2) := by decide +kernel
theorem d_law_295 : decode code 295 = .ok (.if_icmp .eq 5, 3) := by decide +kernel
theorem d_law_298 : decode code 298 = .ok (.iconst 0, 1) := by decide +kernel
theorem d_law_299 : decode code 299 = .ok (.ireturn, 1) := by decide +kernel
theorem d_law_300 : decode code 300 = .ok (.iload 5, 2) := by decide +kernel
theorem d_law_302 : decode code 302 = .ok (.ifCond .ne 15, 3) := by decide +kernel
theorem d_law_305 : decode code 305 = .ok (.aload_n 3, 1) := by decide +kernel
theorem d_law_306 : decode code 306 = .ok (.iconst 0, 1) := by decide +kernel
theorem d_law_307 : decode code 307 = .ok (.laload, 1) := by decide +kernel
theorem d_law_308 : decode code 308 = .ok (.iload 6, 2) := by decide +kernel
theorem d_law_310 : decode code 310 = .ok (.i2l, 1) := by decide +kernel
theorem d_law_311 : decode code 311 = .ok (.lcmp, 1) := by decide +kernel
theorem d_law_312 : decode code 312 = .ok (.ifCond .eq 5, 3) := by decide +kernel
theorem d_law_315 : decode code 315 = .ok (.iconst 0, 1) := by decide +kernel
theorem d_law_316 : decode code 316 = .ok (.ireturn, 1) := by decide +kernel
theorem d_law_317 : decode code 317 = .ok (.goto 416, 3) := by decide +kernel
theorem d_law_320 : decode code 320 = .ok (.aload_n 1, 1) := by decide +kernel
theorem d_law_321 : decode code 321 = .ok (.aload_n 3, 1) := by decide +kernel
theorem d_law_322 : decode code 322 = .ok (.invokestatic 81, 3) := by decide +kernel
theorem d_law_325 : decode code 325 = .ok (.istore 5, 2) := by decide +kernel
theorem d_law_327 : decode code 327 = .ok (.aload_n 2, 1) := by decide +kernel
theorem d_law_328 : decode code 328 = .ok (.invokevirtual 83, 3) := by decide +kernel
theorem d_law_331 : decode code 331 = .ok (.istore 6, 2) := by decide +kernel
theorem d_law_333 : decode code 333 = .ok (.aload_n 2, 1) := by decide +kernel
theorem d_law_334 : decode code 334 = .ok (.invokevirtual 67, 3) := by decide +kernel
theorem d_law_337 : decode code 337 = .ok (.iload 5, 2) := by decide +kernel
theorem d_law_339 : decode code 339 = .ok (.if_icmp .eq 5, 3) := by decide +kernel
theorem d_law_342 : decode code 342 = .ok (.iconst 0, 1) := by decide +kernel
theorem d_law_343 : decode code 343 = .ok (.ireturn, 1) := by decide +kernel
theorem d_law_344 : decode code 344 = .ok (.iload 5, 2) := by decide +kernel
theorem d_law_346 : decode code 346 = .ok (.ifCond .ne 15, 3) := by decide +kernel
theorem d_law_349 : decode code 349 = .ok (.aload_n 3, 1) := by decide +kernel
theorem d_law_350 : decode code 350 = .ok (.iconst 0, 1) := by decide +kernel
theorem d_law_351 : decode code 351 = .ok (.laload, 1) := by decide +kernel
theorem d_law_352 : decode code 352 = .ok (.iload 6, 2) := by decide +kernel
theorem d_law_354 : decode code 354 = .ok (.i2l, 1) := by decide +kernel
theorem d_law_355 : decode code 355 = .ok (.lcmp, 1) := by decide +kernel
theorem d_law_356 : decode code 356 = .ok (.ifCond .eq 5, 3) := by decide +kernel
theorem d_law_359 : decode code 359 = .ok (.iconst 0, 1) := by decide +kernel
theorem d_law_360 : decode code 360 = .ok (.ireturn, 1) := by decide +kernel
theorem d_law_361 : decode code 361 = .ok (.goto 372, 3) := by decide +kernel
theorem d_law_364 : decode code 364 = .ok (.aload_n 1, 1) := by decide +kernel
theorem d_law_365 : decode code 365 = .ok (.aload_n 0, 1) := by decide +kernel
theorem d_law_366 : decode code 366 = .ok (.iload 4, 2) := by decide +kernel
theorem d_law_368 : decode code 368 = .ok (.iconst 1, 1) := by decide +kernel
theorem d_law_369 : decode code 369 = .ok (.iadd, 1) := by decide +kernel
theorem d_law_370 : decode code 370 = .ok (.iaload, 1) := by decide +kernel
theorem d_law_371 : decode code 371 = .ok (.invokestatic 84, 3) := by decide +kernel
theorem d_law_374 : decode code 374 = .ok (.istore 5, 2) := by decide +kernel
theorem d_law_376 : decode code 376 = .ok (.aload_n 2, 1) := by decide +kernel
theorem d_law_377 : decode code 377 = .ok (.aload_n 0, 1) := by decide +kernel
theorem d_law_378 : decode code 378 = .ok (.iload 4, 2) := by decide +kernel
theorem d_law_380 : decode code 380 = .ok (.iconst 1, 1) := by decide +kernel
theorem d_law_381 : decode code 381 = .ok (.iadd, 1) := by decide +kernel
theorem d_law_382 : decode code 382 = .ok (.iaload, 1) := by decide +kernel
theorem d_law_383 : decode code 383 = .ok (.invokevirtual 87, 3) := by decide +kernel
theorem d_law_386 : decode code 386 = .ok (.aload_n 2, 1) := by decide +kernel
theorem d_law_387 : decode code 387 = .ok (.invokevirtual 67, 3) := by decide +kernel
theorem d_law_390 : decode code 390 = .ok (.iload 5, 2) := by decide +kernel
theorem d_law_392 : decode code 392 = .ok (.if_icmp .eq 5, 3) := by decide +kernel
theorem d_law_395 : decode code 395 = .ok (.iconst 0, 1) := by decide +kernel
theorem d_law_396 : decode code 396 = .ok (.ireturn, 1) := by decide +kernel
theorem d_law_397 : decode code 397 = .ok (.goto 336, 3) := by decide +kernel
theorem d_law_400 : decode code 400 = .ok (.aload_n 1, 1) := by decide +kernel
theorem d_law_401 : decode code 401 = .ok (.invokestatic 88, 3) := by decide +kernel
theorem d_law_404 : decode code 404 = .ok (.istore 5, 2) := by decide +kernel
theorem d_law_406 : decode code 406 = .ok (.aload_n 2, 1) := by decide +kernel
theorem d_law_407 : decode code 407 = .ok (.invokevirtual 91, 3) := by decide +kernel
theorem d_law_410 : decode code 410 = .ok (.aload_n 2, 1) := by decide +kernel
theorem d_law_411 : decode code 411 = .ok (.invokevirtual 67, 3) := by decide +kernel
theorem d_law_414 : decode code 414 = .ok (.iload 5, 2) := by decide +kernel
theorem d_law_416 : decode code 416 = .ok (.if_icmp .eq 5, 3) := by decide +kernel
theorem d_law_419 : decode code 419 = .ok (.iconst 0, 1) := by decide +kernel
theorem d_law_420 : decode code 420 = .ok (.ireturn, 1) := by decide +kernel
theorem d_law_421 : decode code 421 = .ok (.goto 312, 3) := by decide +kernel
theorem d_law_424 : decode code 424 = .ok (.aload_n 1, 1) := by decide +kernel
theorem d_law_425 : decode code 425 = .ok (.aload_n 3, 1) := by decide +kernel
theorem d_law_426 : decode code 426 = .ok (.invokestatic 92, 3) := by decide +kernel
theorem d_law_429 : decode code 429 = .ok (.istore 5, 2) := by decide +kernel
theorem d_law_431 : decode code 431 = .ok (.aload_n 2, 1) := by decide +kernel
theorem d_law_432 : decode code 432 = .ok (.invokevirtual 94, 3) := by decide +kernel
theorem d_law_435 : decode code 435 = .ok (.istore 6, 2) := by decide +kernel
theorem d_law_437 : decode code 437 = .ok (.aload_n 2, 1) := by decide +kernel
theorem d_law_438 : decode code 438 = .ok (.invokevirtual 67, 3) := by decide +kernel
theorem d_law_441 : decode code 441 = .ok (.iload 5, 2) := by decide +kernel
theorem d_law_443 : decode code 443 = .ok (.if_icmp .eq 5, 3) := by decide +kernel
theorem d_law_446 : decode code 446 = .ok (.iconst 0, 1) := by decide +kernel
theorem d_law_447 : decode code 447 = .ok (.ireturn, 1) := by decide +kernel
theorem d_law_448 : decode code 448 = .ok (.iload 5, 2) := by decide +kernel
theorem d_law_450 : decode code 450 = .ok (.ifCond .ne 15, 3) := by decide +kernel
theorem d_law_453 : decode code 453 = .ok (.aload_n 3, 1) := by decide +kernel
theorem d_law_454 : decode code 454 = .ok (.iconst 0, 1) := by decide +kernel
theorem d_law_455 : decode code 455 = .ok (.laload, 1) := by decide +kernel
theorem d_law_456 : decode code 456 = .ok (.iload 6, 2) := by decide +kernel
theorem d_law_458 : decode code 458 = .ok (.i2l, 1) := by decide +kernel
theorem d_law_459 : decode code 459 = .ok (.lcmp, 1) := by decide +kernel
theorem d_law_460 : decode code 460 = .ok (.ifCond .eq 5, 3) := by decide +kernel
theorem d_law_463 : decode code 463 = .ok (.iconst 0, 1) := by decide +kernel
theorem d_law_464 : decode code 464 = .ok (.ireturn, 1) := by decide +kernel
theorem d_law_465 : decode code 465 = .ok (.goto 268, 3) := by decide +kernel
theorem d_law_468 : decode code 468 = .ok (.aload_n 1, 1) := by decide +kernel
theorem d_law_469 : decode code 469 = .ok (.invokevirtual 95, 3) := by decide +kernel
theorem d_law_472 : decode code 472 = .ok (.aload_n 2, 1) := by decide +kernel
theorem d_law_473 : decode code 473 = .ok (.invokevirtual 98, 3) := by decide +kernel
theorem d_law_476 : decode code 476 = .ok (.if_icmp .eq 257, 3) := by decide +kernel
theorem d_law_479 : decode code 479 = .ok (.iconst 0, 1) := by decide +kernel
theorem d_law_480 : decode code 480 = .ok (.ireturn, 1) := by decide +kernel
theorem d_law_481 : decode code 481 = .ok (.aload_n 1, 1) := by decide +kernel
theorem d_law_482 : decode code 482 = .ok (.aload_n 0, 1) := by decide +kernel
theorem d_law_483 : decode code 483 = .ok (.iload 4, 2) := by decide +kernel
theorem d_law_485 : decode code 485 = .ok (.iconst 1, 1) := by decide +kernel
theorem d_law_486 : decode code 486 = .ok (.iadd, 1) := by decide +kernel
theorem d_law_487 : decode code 487 = .ok (.iaload, 1) := by decide +kernel
theorem d_law_488 : decode code 488 = .ok (.aload_n 0, 1) := by decide +kernel
theorem d_law_489 : decode code 489 = .ok (.iload 4, 2) := by decide +kernel
theorem d_law_491 : decode code 491 = .ok (.iconst 2, 1) := by decide +kernel
theorem d_law_492 : decode code 492 = .ok (.iadd, 1) := by decide +kernel
theorem d_law_493 : decode code 493 = .ok (.iaload, 1) := by decide +kernel
theorem d_law_494 : decode code 494 = .ok (.aload_n 3, 1) := by decide +kernel
theorem d_law_495 : decode code 495 = .ok (.invokestatic 99, 3) := by decide +kernel
theorem d_law_498 : decode code 498 = .ok (.istore 5, 2) := by decide +kernel
theorem d_law_500 : decode code 500 = .ok (.aload_n 2, 1) := by decide +kernel
theorem d_law_501 : decode code 501 = .ok (.aload_n 0, 1) := by decide +kernel
theorem d_law_502 : decode code 502 = .ok (.iload 4, 2) := by decide +kernel
theorem d_law_504 : decode code 504 = .ok (.iconst 1, 1) := by decide +kernel
theorem d_law_505 : decode code 505 = .ok (.iadd, 1) := by decide +kernel
theorem d_law_506 : decode code 506 = .ok (.iaload, 1) := by decide +kernel
theorem d_law_507 : decode code 507 = .ok (.aload_n 0, 1) := by decide +kernel
theorem d_law_508 : decode code 508 = .ok (.iload 4, 2) := by decide +kernel
theorem d_law_510 : decode code 510 = .ok (.iconst 2, 1) := by decide +kernel
theorem d_law_511 : decode code 511 = .ok (.iadd, 1) := by decide +kernel
theorem d_law_512 : decode code 512 = .ok (.iaload, 1) := by decide +kernel
theorem d_law_513 : decode code 513 = .ok (.invokevirtual 102, 3) := by decide +kernel
theorem d_law_516 : decode code 516 = .ok (.istore 6, 2) := by decide +kernel
theorem d_law_518 : decode code 518 = .ok (.aload_n 2, 1) := by decide +kernel
theorem d_law_519 : decode code 519 = .ok (.invokevirtual 67, 3) := by decide +kernel
theorem d_law_522 : decode code 522 = .ok (.iload 5, 2) := by decide +kernel
theorem d_law_524 : decode code 524 = .ok (.if_icmp .eq 5, 3) := by decide +kernel
theorem d_law_527 : decode code 527 = .ok (.iconst 0, 1) := by decide +kernel
theorem d_law_528 : decode code 528 = .ok (.ireturn, 1) := by decide +kernel
theorem d_law_529 : decode code 529 = .ok (.iload 5, 2) := by decide +kernel
theorem d_law_531 : decode code 531 = .ok (.ifCond .ne 15, 3) := by decide +kernel
theorem d_law_534 : decode code 534 = .ok (.aload_n 3, 1) := by decide +kernel
theorem d_law_535 : decode code 535 = .ok (.iconst 0, 1) := by decide +kernel
theorem d_law_536 : decode code 536 = .ok (.laload, 1) := by decide +kernel
theorem d_law_537 : decode code 537 = .ok (.iload 6, 2) := by decide +kernel
theorem d_law_539 : decode code 539 = .ok (.i2l, 1) := by decide +kernel
theorem d_law_540 : decode code 540 = .ok (.lcmp, 1) := by decide +kernel
theorem d_law_541 : decode code 541 = .ok (.ifCond .eq 5, 3) := by decide +kernel
theorem d_law_544 : decode code 544 = .ok (.iconst 0, 1) := by decide +kernel
theorem d_law_545 : decode code 545 = .ok (.ireturn, 1) := by decide +kernel
theorem d_law_546 : decode code 546 = .ok (.goto 187, 3) := by decide +kernel
theorem d_law_549 : decode code 549 = .ok (.aload_n 1, 1) := by decide +kernel
theorem d_law_550 : decode code 550 = .ok (.aload_n 0, 1) := by decide +kernel
theorem d_law_551 : decode code 551 = .ok (.iload 4, 2) := by decide +kernel
theorem d_law_553 : decode code 553 = .ok (.iconst 1, 1) := by decide +kernel
theorem d_law_554 : decode code 554 = .ok (.iadd, 1) := by decide +kernel
theorem d_law_555 : decode code 555 = .ok (.iaload, 1) := by decide +kernel
theorem d_law_556 : decode code 556 = .ok (.aload_n 3, 1) := by decide +kernel
theorem d_law_557 : decode code 557 = .ok (.invokestatic 103, 3) := by decide +kernel
theorem d_law_560 : decode code 560 = .ok (.istore 5, 2) := by decide +kernel
theorem d_law_562 : decode code 562 = .ok (.aload_n 2, 1) := by decide +kernel
theorem d_law_563 : decode code 563 = .ok (.aload_n 0, 1) := by decide +kernel
theorem d_law_564 : decode code 564 = .ok (.iload 4, 2) := by decide +kernel
theorem d_law_566 : decode code 566 = .ok (.iconst 1, 1) := by decide +kernel
theorem d_law_567 : decode code 567 = .ok (.iadd, 1) := by decide +kernel
theorem d_law_568 : decode code 568 = .ok (.iaload, 1) := by decide +kernel
theorem d_law_569 : decode code 569 = .ok (.invokevirtual 105, 3) := by decide +kernel
theorem d_law_572 : decode code 572 = .ok (.istore 6, 2) := by decide +kernel
theorem d_law_574 : decode code 574 = .ok (.aload_n 2, 1) := by decide +kernel
theorem d_law_575 : decode code 575 = .ok (.invokevirtual 67, 3) := by decide +kernel
theorem d_law_578 : decode code 578 = .ok (.iload 5, 2) := by decide +kernel
theorem d_law_580 : decode code 580 = .ok (.if_icmp .eq 5, 3) := by decide +kernel
theorem d_law_583 : decode code 583 = .ok (.iconst 0, 1) := by decide +kernel
theorem d_law_584 : decode code 584 = .ok (.ireturn, 1) := by decide +kernel
theorem d_law_585 : decode code 585 = .ok (.iload 5, 2) := by decide +kernel
theorem d_law_587 : decode code 587 = .ok (.ifCond .ne 15, 3) := by decide +kernel
theorem d_law_590 : decode code 590 = .ok (.aload_n 3, 1) := by decide +kernel
theorem d_law_591 : decode code 591 = .ok (.iconst 0, 1) := by decide +kernel
theorem d_law_592 : decode code 592 = .ok (.laload, 1) := by decide +kernel
theorem d_law_593 : decode code 593 = .ok (.iload 6, 2) := by decide +kernel
theorem d_law_595 : decode code 595 = .ok (.i2l, 1) := by decide +kernel
theorem d_law_596 : decode code 596 = .ok (.lcmp, 1) := by decide +kernel
theorem d_law_597 : decode code 597 = .ok (.ifCond .eq 5, 3) := by decide +kernel
theorem d_law_600 : decode code 600 = .ok (.iconst 0, 1) := by decide +kernel
theorem d_law_601 : decode code 601 = .ok (.ireturn, 1) := by decide +kernel
theorem d_law_602 : decode code 602 = .ok (.goto 131, 3) := by decide +kernel
theorem d_law_605 : decode code 605 = .ok (.aload_n 1, 1) := by decide +kernel
theorem d_law_606 : decode code 606 = .ok (.aload_n 0, 1) := by decide +kernel
theorem d_law_607 : decode code 607 = .ok (.iload 4, 2) := by decide +kernel
theorem d_law_609 : decode code 609 = .ok (.iconst 1, 1) := by decide +kernel
theorem d_law_610 : decode code 610 = .ok (.iadd, 1) := by decide +kernel
theorem d_law_611 : decode code 611 = .ok (.iaload, 1) := by decide +kernel
theorem d_law_612 : decode code 612 = .ok (.aload_n 0, 1) := by decide +kernel
theorem d_law_613 : decode code 613 = .ok (.iload 4, 2) := by decide +kernel
theorem d_law_615 : decode code 615 = .ok (.iconst 2, 1) := by decide +kernel
theorem d_law_616 : decode code 616 = .ok (.iadd, 1) := by decide +kernel
theorem d_law_617 : decode code 617 = .ok (.iaload, 1) := by decide +kernel
theorem d_law_618 : decode code 618 = .ok (.aload_n 3, 1) := by decide +kernel
theorem d_law_619 : decode code 619 = .ok (.invokestatic 106, 3) := by decide +kernel
theorem d_law_622 : decode code 622 = .ok (.istore 5, 2) := by decide +kernel
theorem d_law_624 : decode code 624 = .ok (.aload_n 2, 1) := by decide +kernel
theorem d_law_625 : decode code 625 = .ok (.aload_n 0, 1) := by decide +kernel
theorem d_law_626 : decode code 626 = .ok (.iload 4, 2) := by decide +kernel
theorem d_law_628 : decode code 628 = .ok (.iconst 1, 1) := by decide +kernel
theorem d_law_629 : decode code 629 = .ok (.iadd, 1) := by decide +kernel
theorem d_law_630 : decode code 630 = .ok (.iaload, 1) := by decide +kernel
theorem d_law_631 : decode code 631 = .ok (.aload_n 0, 1) := by decide +kernel
theorem d_law_632 : decode code 632 = .ok (.iload 4, 2) := by decide +kernel
theorem d_law_634 : decode code 634 = .ok (.iconst 2, 1) := by decide +kernel
theorem d_law_635 : decode code 635 = .ok (.iadd, 1) := by decide +kernel
theorem d_law_636 : decode code 636 = .ok (.iaload, 1) := by decide +kernel
theorem d_law_637 : decode code 637 = .ok (.invokevirtual 108, 3) := by decide +kernel
theorem d_law_640 : decode code 640 = .ok (.istore 6, 2) := by decide +kernel
theorem d_law_642 : decode code 642 = .ok (.aload_n 2, 1) := by decide +kernel
theorem d_law_643 : decode code 643 = .ok (.invokevirtual 67, 3) := by decide +kernel
theorem d_law_646 : decode code 646 = .ok (.iload 5, 2) := by decide +kernel
theorem d_law_648 : decode code 648 = .ok (.if_icmp .eq 5, 3) := by decide +kernel
theorem d_law_651 : decode code 651 = .ok (.iconst 0, 1) := by decide +kernel
theorem d_law_652 : decode code 652 = .ok (.ireturn, 1) := by decide +kernel
theorem d_law_653 : decode code 653 = .ok (.iload 5, 2) := by decide +kernel
theorem d_law_655 : decode code 655 = .ok (.ifCond .ne 15, 3) := by decide +kernel
theorem d_law_658 : decode code 658 = .ok (.aload_n 3, 1) := by decide +kernel
theorem d_law_659 : decode code 659 = .ok (.iconst 0, 1) := by decide +kernel
theorem d_law_660 : decode code 660 = .ok (.laload, 1) := by decide +kernel
theorem d_law_661 : decode code 661 = .ok (.iload 6, 2) := by decide +kernel
theorem d_law_663 : decode code 663 = .ok (.i2l, 1) := by decide +kernel
theorem d_law_664 : decode code 664 = .ok (.lcmp, 1) := by decide +kernel
theorem d_law_665 : decode code 665 = .ok (.ifCond .eq 5, 3) := by decide +kernel
theorem d_law_668 : decode code 668 = .ok (.iconst 0, 1) := by decide +kernel
theorem d_law_669 : decode code 669 = .ok (.ireturn, 1) := by decide +kernel
theorem d_law_670 : decode code 670 = .ok (.goto 63, 3) := by decide +kernel
theorem d_law_673 : decode code 673 = .ok (.aload_n 1, 1) := by decide +kernel
theorem d_law_674 : decode code 674 = .ok (.aload_n 0, 1) := by decide +kernel
theorem d_law_675 : decode code 675 = .ok (.iload 4, 2) := by decide +kernel
theorem d_law_677 : decode code 677 = .ok (.iconst 1, 1) := by decide +kernel
theorem d_law_678 : decode code 678 = .ok (.iadd, 1) := by decide +kernel
theorem d_law_679 : decode code 679 = .ok (.iaload, 1) := by decide +kernel
theorem d_law_680 : decode code 680 = .ok (.aload_n 0, 1) := by decide +kernel
theorem d_law_681 : decode code 681 = .ok (.iload 4, 2) := by decide +kernel
theorem d_law_683 : decode code 683 = .ok (.iconst 2, 1) := by decide +kernel
theorem d_law_684 : decode code 684 = .ok (.iadd, 1) := by decide +kernel
theorem d_law_685 : decode code 685 = .ok (.iaload, 1) := by decide +kernel
theorem d_law_686 : decode code 686 = .ok (.aload_n 0, 1) := by decide +kernel
theorem d_law_687 : decode code 687 = .ok (.iload 4, 2) := by decide +kernel
theorem d_law_689 : decode code 689 = .ok (.iconst 3, 1) := by decide +kernel
theorem d_law_690 : decode code 690 = .ok (.iadd, 1) := by decide +kernel
theorem d_law_691 : decode code 691 = .ok (.iaload, 1) := by decide +kernel
theorem d_law_692 : decode code 692 = .ok (.invokestatic 109, 3) := by decide +kernel
theorem d_law_695 : decode code 695 = .ok (.istore 5, 2) := by decide +kernel
theorem d_law_697 : decode code 697 = .ok (.aload_n 2, 1) := by decide +kernel
theorem d_law_698 : decode code 698 = .ok (.aload_n 0, 1) := by decide +kernel
theorem d_law_699 : decode code 699 = .ok (.iload 4, 2) := by decide +kernel
theorem d_law_701 : decode code 701 = .ok (.iconst 1, 1) := by decide +kernel
theorem d_law_702 : decode code 702 = .ok (.iadd, 1) := by decide +kernel
theorem d_law_703 : decode code 703 = .ok (.iaload, 1) := by decide +kernel
theorem d_law_704 : decode code 704 = .ok (.aload_n 0, 1) := by decide +kernel
theorem d_law_705 : decode code 705 = .ok (.iload 4, 2) := by decide +kernel
theorem d_law_707 : decode code 707 = .ok (.iconst 2, 1) := by decide +kernel
theorem d_law_708 : decode code 708 = .ok (.iadd, 1) := by decide +kernel
theorem d_law_709 : decode code 709 = .ok (.iaload, 1) := by decide +kernel
theorem d_law_710 : decode code 710 = .ok (.aload_n 0, 1) := by decide +kernel
theorem d_law_711 : decode code 711 = .ok (.iload 4, 2) := by decide +kernel
theorem d_law_713 : decode code 713 = .ok (.iconst 3, 1) := by decide +kernel
theorem d_law_714 : decode code 714 = .ok (.iadd, 1) := by decide +kernel
theorem d_law_715 : decode code 715 = .ok (.iaload, 1) := by decide +kernel
theorem d_law_716 : decode code 716 = .ok (.invokevirtual 112, 3) := by decide +kernel
theorem d_law_719 : decode code 719 = .ok (.aload_n 2, 1) := by decide +kernel
theorem d_law_720 : decode code 720 = .ok (.invokevirtual 67, 3) := by decide +kernel
theorem d_law_723 : decode code 723 = .ok (.iload 5, 2) := by decide +kernel
theorem d_law_725 : decode code 725 = .ok (.if_icmp .eq 5, 3) := by decide +kernel
theorem d_law_728 : decode code 728 = .ok (.iconst 0, 1) := by decide +kernel
theorem d_law_729 : decode code 729 = .ok (.ireturn, 1) := by decide +kernel
theorem d_law_730 : decode code 730 = .ok (.goto 3, 3) := by decide +kernel
theorem d_law_733 : decode code 733 = .ok (.iinc 4 5, 3) := by decide +kernel
theorem d_law_736 : decode code 736 = .ok (.goto (-713), 3) := by decide +kernel
theorem d_law_739 : decode code 739 = .ok (.iconst 1, 1) := by decide +kernel
theorem d_law_740 : decode code 740 = .ok (.ireturn, 1) := by decide +kernel
