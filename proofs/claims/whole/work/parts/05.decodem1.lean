theorem d_MO_writeKeys_66 : decode b_MO_writeKeys 66 = .ok (.if_icmp .ge 41, 3) := by decide +kernel
theorem d_MO_writeKeys_69 : decode b_MO_writeKeys 69 = .ok (.iload 4, 2) := by decide +kernel
theorem d_MO_writeKeys_71 : decode b_MO_writeKeys 71 = .ok (.ifCond .le 36, 3) := by decide +kernel
theorem d_MO_writeKeys_74 : decode b_MO_writeKeys 74 = .ok (.aload_n 0, 1) := by decide +kernel
theorem d_MO_writeKeys_75 : decode b_MO_writeKeys 75 = .ok (.getfield 35, 3) := by decide +kernel
theorem d_MO_writeKeys_78 : decode b_MO_writeKeys 78 = .ok (.iconst 2, 1) := by decide +kernel
theorem d_MO_writeKeys_79 : decode b_MO_writeKeys 79 = .ok (.iload 6, 2) := by decide +kernel
theorem d_MO_writeKeys_81 : decode b_MO_writeKeys 81 = .ok (.iadd, 1) := by decide +kernel
theorem d_MO_writeKeys_82 : decode b_MO_writeKeys 82 = .ok (.iload_n 2, 1) := by decide +kernel
theorem d_MO_writeKeys_83 : decode b_MO_writeKeys 83 = .ok (.ifCond .eq 10, 3) := by decide +kernel
theorem d_MO_writeKeys_86 : decode b_MO_writeKeys 86 = .ok (.aload_n 0, 1) := by decide +kernel
theorem d_MO_writeKeys_87 : decode b_MO_writeKeys 87 = .ok (.invokevirtual 110, 3) := by decide +kernel
theorem d_MO_writeKeys_90 : decode b_MO_writeKeys 90 = .ok (.goto 7, 3) := by decide +kernel
theorem d_MO_writeKeys_93 : decode b_MO_writeKeys 93 = .ok (.aload_n 0, 1) := by decide +kernel
theorem d_MO_writeKeys_94 : decode b_MO_writeKeys 94 = .ok (.invokevirtual 113, 3) := by decide +kernel
theorem d_MO_writeKeys_97 : decode b_MO_writeKeys 97 = .ok (.iastore, 1) := by decide +kernel
theorem d_MO_writeKeys_98 : decode b_MO_writeKeys 98 = .ok (.iinc 4 (-1), 3) := by decide +kernel
theorem d_MO_writeKeys_101 : decode b_MO_writeKeys 101 = .ok (.iinc 6 1, 3) := by decide +kernel
theorem d_MO_writeKeys_104 : decode b_MO_writeKeys 104 = .ok (.goto (-44), 3) := by decide +kernel
theorem d_MO_writeKeys_107 : decode b_MO_writeKeys 107 = .ok (.aload_n 0, 1) := by decide +kernel
theorem d_MO_writeKeys_108 : decode b_MO_writeKeys 108 = .ok (.aload_n 0, 1) := by decide +kernel
theorem d_MO_writeKeys_109 : decode b_MO_writeKeys 109 = .ok (.getfield 38, 3) := by decide +kernel
theorem d_MO_writeKeys_112 : decode b_MO_writeKeys 112 = .ok (.iload 5, 2) := by decide +kernel
theorem d_MO_writeKeys_114 : decode b_MO_writeKeys 114 = .ok (.iaload, 1) := by decide +kernel
theorem d_MO_writeKeys_115 : decode b_MO_writeKeys 115 = .ok (.invokevirtual 116, 3) := by decide +kernel
theorem d_MO_writeKeys_118 : decode b_MO_writeKeys 118 = .ok (.iinc 5 1, 3) := by decide +kernel
theorem d_MO_writeKeys_121 : decode b_MO_writeKeys 121 = .ok (.goto (-108), 3) := by decide +kernel
theorem d_MO_writeKeys_124 : decode b_MO_writeKeys 124 = .ok (.return_, 1) := by decide +kernel
theorem d_MO_merge_0 : decode b_MO_merge 0 = .ok (.iconst 0, 1) := by decide +kernel
theorem d_MO_merge_1 : decode b_MO_merge 1 = .ok (.istore 4, 2) := by decide +kernel
theorem d_MO_merge_3 : decode b_MO_merge 3 = .ok (.iconst 0, 1) := by decide +kernel
theorem d_MO_merge_4 : decode b_MO_merge 4 = .ok (.istore 5, 2) := by decide +kernel
theorem d_MO_merge_6 : decode b_MO_merge 6 = .ok (.iload 5, 2) := by decide +kernel
theorem d_MO_merge_8 : decode b_MO_merge 8 = .ok (.aload_n 0, 1) := by decide +kernel
theorem d_MO_merge_9 : decode b_MO_merge 9 = .ok (.getfield 82, 3) := by decide +kernel
theorem d_MO_merge_12 : decode b_MO_merge 12 = .ok (.if_icmp .ge 105, 3) := by decide +kernel
theorem d_MO_merge_15 : decode b_MO_merge 15 = .ok (.aload_n 0, 1) := by decide +kernel
theorem d_MO_merge_16 : decode b_MO_merge 16 = .ok (.getfield 50, 3) := by decide +kernel
theorem d_MO_merge_19 : decode b_MO_merge 19 = .ok (.iload 5, 2) := by decide +kernel
theorem d_MO_merge_21 : decode b_MO_merge 21 = .ok (.iload_n 1, 1) := by decide +kernel
theorem d_MO_merge_22 : decode b_MO_merge 22 = .ok (.ifCond .ne 14, 3) := by decide +kernel
theorem d_MO_merge_25 : decode b_MO_merge 25 = .ok (.aload_n 0, 1) := by decide +kernel
theorem d_MO_merge_26 : decode b_MO_merge 26 = .ok (.getfield 25, 3) := by decide +kernel
theorem d_MO_merge_29 : decode b_MO_merge 29 = .ok (.iload 5, 2) := by decide +kernel
theorem d_MO_merge_31 : decode b_MO_merge 31 = .ok (.iaload, 1) := by decide +kernel
theorem d_MO_merge_32 : decode b_MO_merge 32 = .ok (.iload_n 2, 1) := by decide +kernel
theorem d_MO_merge_33 : decode b_MO_merge 33 = .ok (.if_icmp .ne 7, 3) := by decide +kernel
theorem d_MO_merge_36 : decode b_MO_merge 36 = .ok (.iconst 1, 1) := by decide +kernel
theorem d_MO_merge_37 : decode b_MO_merge 37 = .ok (.goto 4, 3) := by decide +kernel
theorem d_MO_merge_40 : decode b_MO_merge 40 = .ok (.iconst 0, 1) := by decide +kernel
theorem d_MO_merge_41 : decode b_MO_merge 41 = .ok (.bastore, 1) := by decide +kernel
theorem d_MO_merge_42 : decode b_MO_merge 42 = .ok (.aload_n 0, 1) := by decide +kernel
theorem d_MO_merge_43 : decode b_MO_merge 43 = .ok (.getfield 41, 3) := by decide +kernel
theorem d_MO_merge_46 : decode b_MO_merge 46 = .ok (.iload 5, 2) := by decide +kernel
theorem d_MO_merge_48 : decode b_MO_merge 48 = .ok (.aload_n 0, 1) := by decide +kernel
theorem d_MO_merge_49 : decode b_MO_merge 49 = .ok (.getfield 16, 3) := by decide +kernel
theorem d_MO_merge_52 : decode b_MO_merge 52 = .ok (.iload 5, 2) := by decide +kernel
theorem d_MO_merge_54 : decode b_MO_merge 54 = .ok (.iaload, 1) := by decide +kernel
theorem d_MO_merge_55 : decode b_MO_merge 55 = .ok (.iastore, 1) := by decide +kernel
theorem d_MO_merge_56 : decode b_MO_merge 56 = .ok (.aload_n 0, 1) := by decide +kernel
theorem d_MO_merge_57 : decode b_MO_merge 57 = .ok (.getfield 44, 3) := by decide +kernel
theorem d_MO_merge_60 : decode b_MO_merge 60 = .ok (.iload 5, 2) := by decide +kernel
theorem d_MO_merge_62 : decode b_MO_merge 62 = .ok (.aload_n 0, 1) := by decide +kernel
theorem d_MO_merge_63 : decode b_MO_merge 63 = .ok (.getfield 19, 3) := by decide +kernel
theorem d_MO_merge_66 : decode b_MO_merge 66 = .ok (.iload 5, 2) := by decide +kernel
theorem d_MO_merge_68 : decode b_MO_merge 68 = .ok (.iaload, 1) := by decide +kernel
theorem d_MO_merge_69 : decode b_MO_merge 69 = .ok (.iastore, 1) := by decide +kernel
theorem d_MO_merge_70 : decode b_MO_merge 70 = .ok (.aload_n 0, 1) := by decide +kernel
theorem d_MO_merge_71 : decode b_MO_merge 71 = .ok (.getfield 47, 3) := by decide +kernel
theorem d_MO_merge_74 : decode b_MO_merge 74 = .ok (.iload 5, 2) := by decide +kernel
theorem d_MO_merge_76 : decode b_MO_merge 76 = .ok (.aload_n 0, 1) := by decide +kernel
theorem d_MO_merge_77 : decode b_MO_merge 77 = .ok (.getfield 22, 3) := by decide +kernel
theorem d_MO_merge_80 : decode b_MO_merge 80 = .ok (.iload 5, 2) := by decide +kernel
theorem d_MO_merge_82 : decode b_MO_merge 82 = .ok (.iaload, 1) := by decide +kernel
theorem d_MO_merge_83 : decode b_MO_merge 83 = .ok (.iastore, 1) := by decide +kernel
theorem d_MO_merge_84 : decode b_MO_merge 84 = .ok (.aload_n 0, 1) := by decide +kernel
theorem d_MO_merge_85 : decode b_MO_merge 85 = .ok (.getfield 50, 3) := by decide +kernel
theorem d_MO_merge_88 : decode b_MO_merge 88 = .ok (.iload 5, 2) := by decide +kernel
theorem d_MO_merge_90 : decode b_MO_merge 90 = .ok (.baload, 1) := by decide +kernel
theorem d_MO_merge_91 : decode b_MO_merge 91 = .ok (.ifCond .eq 16, 3) := by decide +kernel
theorem d_MO_merge_94 : decode b_MO_merge 94 = .ok (.iload 4, 2) := by decide +kernel
theorem d_MO_merge_96 : decode b_MO_merge 96 = .ok (.aload_n 0, 1) := by decide +kernel
theorem d_MO_merge_97 : decode b_MO_merge 97 = .ok (.getfield 22, 3) := by decide +kernel
theorem d_MO_merge_100 : decode b_MO_merge 100 = .ok (.iload 5, 2) := by decide +kernel
theorem d_MO_merge_102 : decode b_MO_merge 102 = .ok (.iaload, 1) := by decide +kernel
theorem d_MO_merge_103 : decode b_MO_merge 103 = .ok (.iadd, 1) := by decide +kernel
theorem d_MO_merge_104 : decode b_MO_merge 104 = .ok (.goto 5, 3) := by decide +kernel
theorem d_MO_merge_107 : decode b_MO_merge 107 = .ok (.iload 4, 2) := by decide +kernel
theorem d_MO_merge_109 : decode b_MO_merge 109 = .ok (.istore 4, 2) := by decide +kernel
theorem d_MO_merge_111 : decode b_MO_merge 111 = .ok (.iinc 5 1, 3) := by decide +kernel
theorem d_MO_merge_114 : decode b_MO_merge 114 = .ok (.goto (-108), 3) := by decide +kernel
theorem d_MO_merge_117 : decode b_MO_merge 117 = .ok (.aload_n 0, 1) := by decide +kernel
theorem d_MO_merge_118 : decode b_MO_merge 118 = .ok (.iload 4, 2) := by decide +kernel
theorem d_MO_merge_120 : decode b_MO_merge 120 = .ok (.invokevirtual 120, 3) := by decide +kernel
theorem d_MO_merge_123 : decode b_MO_merge 123 = .ok (.ifCond .ne 5, 3) := by decide +kernel
theorem d_MO_merge_126 : decode b_MO_merge 126 = .ok (.iconst 0, 1) := by decide +kernel
theorem d_MO_merge_127 : decode b_MO_merge 127 = .ok (.ireturn, 1) := by decide +kernel
theorem d_MO_merge_128 : decode b_MO_merge 128 = .ok (.aload_n 0, 1) := by decide +kernel
theorem d_MO_merge_129 : decode b_MO_merge 129 = .ok (.iload 4, 2) := by decide +kernel
theorem d_MO_merge_131 : decode b_MO_merge 131 = .ok (.iconst 0, 1) := by decide +kernel
theorem d_MO_merge_132 : decode b_MO_merge 132 = .ok (.invokevirtual 123, 3) := by decide +kernel
theorem d_MO_merge_135 : decode b_MO_merge 135 = .ok (.aload_n 0, 1) := by decide +kernel
theorem d_MO_merge_136 : decode b_MO_merge 136 = .ok (.getfield 38, 3) := by decide +kernel
theorem d_MO_merge_139 : decode b_MO_merge 139 = .ok (.iconst 0, 1) := by decide +kernel
theorem d_MO_merge_140 : decode b_MO_merge 140 = .ok (.iaload, 1) := by decide +kernel
theorem d_MO_merge_141 : decode b_MO_merge 141 = .ok (.istore 5, 2) := by decide +kernel
theorem d_MO_merge_143 : decode b_MO_merge 143 = .ok (.aload_n 0, 1) := by decide +kernel
theorem d_MO_merge_144 : decode b_MO_merge 144 = .ok (.getfield 82, 3) := by decide +kernel
theorem d_MO_merge_147 : decode b_MO_merge 147 = .ok (.iconst 1, 1) := by decide +kernel
theorem d_MO_merge_148 : decode b_MO_merge 148 = .ok (.isub, 1) := by decide +kernel
theorem d_MO_merge_149 : decode b_MO_merge 149 = .ok (.istore 6, 2) := by decide +kernel
theorem d_MO_merge_151 : decode b_MO_merge 151 = .ok (.iload 6, 2) := by decide +kernel
theorem d_MO_merge_153 : decode b_MO_merge 153 = .ok (.ifCond .lt 30, 3) := by decide +kernel
theorem d_MO_merge_156 : decode b_MO_merge 156 = .ok (.iload_n 1, 1) := by decide +kernel
theorem d_MO_merge_157 : decode b_MO_merge 157 = .ok (.ifCond .ne 14, 3) := by decide +kernel
theorem d_MO_merge_160 : decode b_MO_merge 160 = .ok (.aload_n 0, 1) := by decide +kernel
theorem d_MO_merge_161 : decode b_MO_merge 161 = .ok (.getfield 25, 3) := by decide +kernel
theorem d_MO_merge_164 : decode b_MO_merge 164 = .ok (.iload 6, 2) := by decide +kernel
theorem d_MO_merge_166 : decode b_MO_merge 166 = .ok (.iaload, 1) := by decide +kernel
theorem d_MO_merge_167 : decode b_MO_merge 167 = .ok (.iload_n 2, 1) := by decide +kernel
theorem d_MO_merge_168 : decode b_MO_merge 168 = .ok (.if_icmp .ne 9, 3) := by decide +kernel
theorem d_MO_merge_171 : decode b_MO_merge 171 = .ok (.aload_n 0, 1) := by decide +kernel
theorem d_MO_merge_172 : decode b_MO_merge 172 = .ok (.iload 6, 2) := by decide +kernel
theorem d_MO_merge_174 : decode b_MO_merge 174 = .ok (.invokevirtual 127, 3) := by decide +kernel
theorem d_MO_merge_177 : decode b_MO_merge 177 = .ok (.iinc 6 (-1), 3) := by decide +kernel
theorem d_MO_merge_180 : decode b_MO_merge 180 = .ok (.goto (-29), 3) := by decide +kernel
theorem d_MO_merge_183 : decode b_MO_merge 183 = .ok (.aload_n 0, 1) := by decide +kernel
theorem d_MO_merge_184 : decode b_MO_merge 184 = .ok (.iload 5, 2) := by decide +kernel
theorem d_MO_merge_186 : decode b_MO_merge 186 = .ok (.iload 4, 2) := by decide +kernel
theorem d_MO_merge_188 : decode b_MO_merge 188 = .ok (.iload_n 3, 1) := by decide +kernel
theorem d_MO_merge_189 : decode b_MO_merge 189 = .ok (.invokevirtual 130, 3) := by decide +kernel
theorem d_MO_merge_192 : decode b_MO_merge 192 = .ok (.iconst 1, 1) := by decide +kernel
theorem d_MO_merge_193 : decode b_MO_merge 193 = .ok (.ireturn, 1) := by decide +kernel
theorem d_MO_mergeAll_0 : decode b_MO_mergeAll 0 = .ok (.iconst 0, 1) := by decide +kernel
theorem d_MO_mergeAll_1 : decode b_MO_mergeAll 1 = .ok (.istore_n 1, 1) := by decide +kernel
theorem d_MO_mergeAll_2 : decode b_MO_mergeAll 2 = .ok (.iconst 0, 1) := by decide +kernel
theorem d_MO_mergeAll_3 : decode b_MO_mergeAll 3 = .ok (.istore_n 2, 1) := by decide +kernel
theorem d_MO_mergeAll_4 : decode b_MO_mergeAll 4 = .ok (.iload_n 2, 1) := by decide +kernel
theorem d_MO_mergeAll_5 : decode b_MO_mergeAll 5 = .ok (.aload_n 0, 1) := by decide +kernel
theorem d_MO_mergeAll_6 : decode b_MO_mergeAll 6 = .ok (.getfield 82, 3) := by decide +kernel
theorem d_MO_mergeAll_9 : decode b_MO_mergeAll 9 = .ok (.if_icmp .ge 30, 3) := by decide +kernel
theorem d_MO_mergeAll_12 : decode b_MO_mergeAll 12 = .ok (.aload_n 0, 1) := by decide +kernel
theorem d_MO_mergeAll_13 : decode b_MO_mergeAll 13 = .ok (.getfield 25, 3) := by decide +kernel
theorem d_MO_mergeAll_16 : decode b_MO_mergeAll 16 = .ok (.iload_n 2, 1) := by decide +kernel
theorem d_MO_mergeAll_17 : decode b_MO_mergeAll 17 = .ok (.iaload, 1) := by decide +kernel
theorem d_MO_mergeAll_18 : decode b_MO_mergeAll 18 = .ok (.iload_n 1, 1) := by decide +kernel
theorem d_MO_mergeAll_19 : decode b_MO_mergeAll 19 = .ok (.if_icmp .le 12, 3) := by decide +kernel
theorem d_MO_mergeAll_22 : decode b_MO_mergeAll 22 = .ok (.aload_n 0, 1) := by decide +kernel
theorem d_MO_mergeAll_23 : decode b_MO_mergeAll 23 = .ok (.getfield 25, 3) := by decide +kernel
theorem d_MO_mergeAll_26 : decode b_MO_mergeAll 26 = .ok (.iload_n 2, 1) := by decide +kernel
theorem d_MO_mergeAll_27 : decode b_MO_mergeAll 27 = .ok (.iaload, 1) := by decide +kernel
theorem d_MO_mergeAll_28 : decode b_MO_mergeAll 28 = .ok (.goto 4, 3) := by decide +kernel
theorem d_MO_mergeAll_31 : decode b_MO_mergeAll 31 = .ok (.iload_n 1, 1) := by decide +kernel
theorem d_MO_mergeAll_32 : decode b_MO_mergeAll 32 = .ok (.istore_n 1, 1) := by decide +kernel
theorem d_MO_mergeAll_33 : decode b_MO_mergeAll 33 = .ok (.iinc 2 1, 3) := by decide +kernel
theorem d_MO_mergeAll_36 : decode b_MO_mergeAll 36 = .ok (.goto (-32), 3) := by decide +kernel
theorem d_MO_mergeAll_39 : decode b_MO_mergeAll 39 = .ok (.aload_n 0, 1) := by decide +kernel
theorem d_MO_mergeAll_40 : decode b_MO_mergeAll 40 = .ok (.iconst 1, 1) := by decide +kernel
theorem d_MO_mergeAll_41 : decode b_MO_mergeAll 41 = .ok (.iconst 0, 1) := by decide +kernel
theorem d_MO_mergeAll_42 : decode b_MO_mergeAll 42 = .ok (.iload_n 1, 1) := by decide +kernel
theorem d_MO_mergeAll_43 : decode b_MO_mergeAll 43 = .ok (.iconst 1, 1) := by decide +kernel
theorem d_MO_mergeAll_44 : decode b_MO_mergeAll 44 = .ok (.iadd, 1) := by decide +kernel
theorem d_MO_mergeAll_45 : decode b_MO_mergeAll 45 = .ok (.invokevirtual 134, 3) := by decide +kernel
theorem d_MO_mergeAll_48 : decode b_MO_mergeAll 48 = .ok (.ireturn, 1) := by decide +kernel
theorem d_MO_runsOf_0 : decode b_MO_runsOf 0 = .ok (.iconst 0, 1) := by decide +kernel
theorem d_MO_runsOf_1 : decode b_MO_runsOf 1 = .ok (.istore_n 2, 1) := by decide +kernel
theorem d_MO_runsOf_2 : decode b_MO_runsOf 2 = .ok (.iconst 0, 1) := by decide +kernel
theorem d_MO_runsOf_3 : decode b_MO_runsOf 3 = .ok (.istore_n 3, 1) := by decide +kernel
theorem d_MO_runsOf_4 : decode b_MO_runsOf 4 = .ok (.iload_n 3, 1) := by decide +kernel
theorem d_MO_runsOf_5 : decode b_MO_runsOf 5 = .ok (.aload_n 0, 1) := by decide +kernel
theorem d_MO_runsOf_6 : decode b_MO_runsOf 6 = .ok (.getfield 82, 3) := by decide +kernel
theorem d_MO_runsOf_9 : decode b_MO_runsOf 9 = .ok (.if_icmp .ge 27, 3) := by decide +kernel
theorem d_MO_runsOf_12 : decode b_MO_runsOf 12 = .ok (.aload_n 0, 1) := by decide +kernel
theorem d_MO_runsOf_13 : decode b_MO_runsOf 13 = .ok (.getfield 25, 3) := by decide +kernel
theorem d_MO_runsOf_16 : decode b_MO_runsOf 16 = .ok (.iload_n 3, 1) := by decide +kernel
theorem d_MO_runsOf_17 : decode b_MO_runsOf 17 = .ok (.iaload, 1) := by decide +kernel
theorem d_MO_runsOf_18 : decode b_MO_runsOf 18 = .ok (.iload_n 1, 1) := by decide +kernel
theorem d_MO_runsOf_19 : decode b_MO_runsOf 19 = .ok (.if_icmp .ne 9, 3) := by decide +kernel
theorem d_MO_runsOf_22 : decode b_MO_runsOf 22 = .ok (.iload_n 2, 1) := by decide +kernel
theorem d_MO_runsOf_23 : decode b_MO_runsOf 23 = .ok (.iconst 1, 1) := by decide +kernel
theorem d_MO_runsOf_24 : decode b_MO_runsOf 24 = .ok (.iadd, 1) := by decide +kernel
theorem d_MO_runsOf_25 : decode b_MO_runsOf 25 = .ok (.goto 4, 3) := by decide +kernel
theorem d_MO_runsOf_28 : decode b_MO_runsOf 28 = .ok (.iload_n 2, 1) := by decide +kernel
theorem d_MO_runsOf_29 : decode b_MO_runsOf 29 = .ok (.istore_n 2, 1) := by decide +kernel
theorem d_MO_runsOf_30 : decode b_MO_runsOf 30 = .ok (.iinc 3 1, 3) := by decide +kernel
theorem d_MO_runsOf_33 : decode b_MO_runsOf 33 = .ok (.goto (-29), 3) := by decide +kernel
theorem d_MO_runsOf_36 : decode b_MO_runsOf 36 = .ok (.iload_n 2, 1) := by decide +kernel
theorem d_MO_runsOf_37 : decode b_MO_runsOf 37 = .ok (.ireturn, 1) := by decide +kernel
theorem d_MO_crowded_0 : decode b_MO_crowded 0 = .ok (.iconst (-1), 1) := by decide +kernel
theorem d_MO_crowded_1 : decode b_MO_crowded 1 = .ok (.istore_n 1, 1) := by decide +kernel
theorem d_MO_crowded_2 : decode b_MO_crowded 2 = .ok (.iconst 0, 1) := by decide +kernel
theorem d_MO_crowded_3 : decode b_MO_crowded 3 = .ok (.istore_n 2, 1) := by decide +kernel
theorem d_MO_crowded_4 : decode b_MO_crowded 4 = .ok (.iload_n 2, 1) := by decide +kernel
theorem d_MO_crowded_5 : decode b_MO_crowded 5 = .ok (.aload_n 0, 1) := by decide +kernel
theorem d_MO_crowded_6 : decode b_MO_crowded 6 = .ok (.getfield 82, 3) := by decide +kernel
theorem d_MO_crowded_9 : decode b_MO_crowded 9 = .ok (.if_icmp .ge 51, 3) := by decide +kernel
theorem d_MO_crowded_12 : decode b_MO_crowded 12 = .ok (.aload_n 0, 1) := by decide +kernel
theorem d_MO_crowded_13 : decode b_MO_crowded 13 = .ok (.aload_n 0, 1) := by decide +kernel
theorem d_MO_crowded_14 : decode b_MO_crowded 14 = .ok (.getfield 25, 3) := by decide +kernel
theorem d_MO_crowded_17 : decode b_MO_crowded 17 = .ok (.iload_n 2, 1) := by decide +kernel
theorem d_MO_crowded_18 : decode b_MO_crowded 18 = .ok (.iaload, 1) := by decide +kernel
theorem d_MO_crowded_19 : decode b_MO_crowded 19 = .ok (.invokevirtual 138, 3) := by decide +kernel
theorem d_MO_crowded_22 : decode b_MO_crowded 22 = .ok (.aload_n 0, 1) := by decide +kernel
theorem d_MO_crowded_23 : decode b_MO_crowded 23 = .ok (.getfield 141, 3) := by decide +kernel
theorem d_MO_crowded_26 : decode b_MO_crowded 26 = .ok (.if_icmp .lt 26, 3) := by decide +kernel
theorem d_MO_crowded_29 : decode b_MO_crowded 29 = .ok (.iload_n 1, 1) := by decide +kernel
theorem d_MO_crowded_30 : decode b_MO_crowded 30 = .ok (.ifCond .lt 18, 3) := by decide +kernel
theorem d_MO_crowded_33 : decode b_MO_crowded 33 = .ok (.aload_n 0, 1) := by decide +kernel
theorem d_MO_crowded_34 : decode b_MO_crowded 34 = .ok (.getfield 25, 3) := by decide +kernel
theorem d_MO_crowded_37 : decode b_MO_crowded 37 = .ok (.iload_n 2, 1) := by decide +kernel
theorem d_MO_crowded_38 : decode b_MO_crowded 38 = .ok (.iaload, 1) := by decide +kernel
theorem d_MO_crowded_39 : decode b_MO_crowded 39 = .ok (.aload_n 0, 1) := by decide +kernel
theorem d_MO_crowded_40 : decode b_MO_crowded 40 = .ok (.getfield 25, 3) := by decide +kernel
theorem d_MO_crowded_43 : decode b_MO_crowded 43 = .ok (.iload_n 1, 1) := by decide +kernel
theorem d_MO_crowded_44 : decode b_MO_crowded 44 = .ok (.iaload, 1) := by decide +kernel
theorem d_MO_crowded_45 : decode b_MO_crowded 45 = .ok (.if_icmp .ge 7, 3) := by decide +kernel
theorem d_MO_crowded_48 : decode b_MO_crowded 48 = .ok (.iload_n 2, 1) := by decide +kernel
theorem d_MO_crowded_49 : decode b_MO_crowded 49 = .ok (.goto 4, 3) := by decide +kernel
theorem d_MO_crowded_52 : decode b_MO_crowded 52 = .ok (.iload_n 1, 1) := by decide +kernel
theorem d_MO_crowded_53 : decode b_MO_crowded 53 = .ok (.istore_n 1, 1) := by decide +kernel
theorem d_MO_crowded_54 : decode b_MO_crowded 54 = .ok (.iinc 2 1, 3) := by decide +kernel
theorem d_MO_crowded_57 : decode b_MO_crowded 57 = .ok (.goto (-53), 3) := by decide +kernel
theorem d_MO_crowded_60 : decode b_MO_crowded 60 = .ok (.iload_n 1, 1) := by decide +kernel
theorem d_MO_crowded_61 : decode b_MO_crowded 61 = .ok (.ireturn, 1) := by decide +kernel
theorem d_MO_spill_0 : decode b_MO_spill 0 = .ok (.aload_n 0, 1) := by decide +kernel
theorem d_MO_spill_1 : decode b_MO_spill 1 = .ok (.getfield 82, 3) := by decide +kernel
theorem d_MO_spill_4 : decode b_MO_spill 4 = .ok (.aload_n 0, 1) := by decide +kernel
theorem d_MO_spill_5 : decode b_MO_spill 5 = .ok (.invokevirtual 144, 3) := by decide +kernel
theorem d_MO_spill_8 : decode b_MO_spill 8 = .ok (.if_icmp .ne 12, 3) := by decide +kernel
theorem d_MO_spill_11 : decode b_MO_spill 11 = .ok (.aload_n 0, 1) := by decide +kernel
theorem d_MO_spill_12 : decode b_MO_spill 12 = .ok (.invokevirtual 147, 3) := by decide +kernel
theorem d_MO_spill_15 : decode b_MO_spill 15 = .ok (.ifCond .ne 5, 3) := by decide +kernel
theorem d_MO_spill_18 : decode b_MO_spill 18 = .ok (.iconst 0, 1) := by decide +kernel
theorem d_MO_spill_19 : decode b_MO_spill 19 = .ok (.ireturn, 1) := by decide +kernel
theorem d_MO_spill_20 : decode b_MO_spill 20 = .ok (.aload_n 0, 1) := by decide +kernel
theorem d_MO_spill_21 : decode b_MO_spill 21 = .ok (.getfield 64, 3) := by decide +kernel
theorem d_MO_spill_24 : decode b_MO_spill 24 = .ok (.ifCond .eq 5, 3) := by decide +kernel
theorem d_MO_spill_27 : decode b_MO_spill 27 = .ok (.iconst 1, 1) := by decide +kernel
theorem d_MO_spill_28 : decode b_MO_spill 28 = .ok (.ireturn, 1) := by decide +kernel
theorem d_MO_spill_29 : decode b_MO_spill 29 = .ok (.aload_n 0, 1) := by decide +kernel
theorem d_MO_spill_30 : decode b_MO_spill 30 = .ok (.getfield 101, 3) := by decide +kernel
theorem d_MO_spill_33 : decode b_MO_spill 33 = .ok (.istore_n 1, 1) := by decide +kernel
theorem d_MO_spill_34 : decode b_MO_spill 34 = .ok (.aload_n 0, 1) := by decide +kernel
theorem d_MO_spill_35 : decode b_MO_spill 35 = .ok (.iload_n 1, 1) := by decide +kernel
theorem d_MO_spill_36 : decode b_MO_spill 36 = .ok (.invokevirtual 120, 3) := by decide +kernel
theorem d_MO_spill_39 : decode b_MO_spill 39 = .ok (.ifCond .ne 5, 3) := by decide +kernel
theorem d_MO_spill_42 : decode b_MO_spill 42 = .ok (.iconst 0, 1) := by decide +kernel
theorem d_MO_spill_43 : decode b_MO_spill 43 = .ok (.ireturn, 1) := by decide +kernel
theorem d_MO_spill_44 : decode b_MO_spill 44 = .ok (.aload_n 0, 1) := by decide +kernel
theorem d_MO_spill_45 : decode b_MO_spill 45 = .ok (.iload_n 1, 1) := by decide +kernel
theorem d_MO_spill_46 : decode b_MO_spill 46 = .ok (.iconst 1, 1) := by decide +kernel
theorem d_MO_spill_47 : decode b_MO_spill 47 = .ok (.invokevirtual 123, 3) := by decide +kernel
theorem d_MO_spill_50 : decode b_MO_spill 50 = .ok (.aload_n 0, 1) := by decide +kernel
theorem d_MO_spill_51 : decode b_MO_spill 51 = .ok (.aload_n 0, 1) := by decide +kernel
theorem d_MO_spill_52 : decode b_MO_spill 52 = .ok (.getfield 38, 3) := by decide +kernel
theorem d_MO_spill_55 : decode b_MO_spill 55 = .ok (.iconst 0, 1) := by decide +kernel
theorem d_MO_spill_56 : decode b_MO_spill 56 = .ok (.iaload, 1) := by decide +kernel
theorem d_MO_spill_57 : decode b_MO_spill 57 = .ok (.iload_n 1, 1) := by decide +kernel
theorem d_MO_spill_58 : decode b_MO_spill 58 = .ok (.iconst 0, 1) := by decide +kernel
theorem d_MO_spill_59 : decode b_MO_spill 59 = .ok (.invokevirtual 130, 3) := by decide +kernel
theorem d_MO_spill_62 : decode b_MO_spill 62 = .ok (.aload_n 0, 1) := by decide +kernel
theorem d_MO_spill_63 : decode b_MO_spill 63 = .ok (.getfield 64, 3) := by decide +kernel
theorem d_MO_spill_66 : decode b_MO_spill 66 = .ok (.ifCond .ne 7, 3) := by decide +kernel
theorem d_MO_spill_69 : decode b_MO_spill 69 = .ok (.iconst 1, 1) := by decide +kernel
theorem d_MO_spill_70 : decode b_MO_spill 70 = .ok (.goto 4, 3) := by decide +kernel
theorem d_MO_spill_73 : decode b_MO_spill 73 = .ok (.iconst 0, 1) := by decide +kernel
theorem d_MO_spill_74 : decode b_MO_spill 74 = .ok (.istore_n 2, 1) := by decide +kernel
theorem d_MO_spill_75 : decode b_MO_spill 75 = .ok (.iload_n 2, 1) := by decide +kernel
theorem d_MO_spill_76 : decode b_MO_spill 76 = .ok (.ifCond .eq 50, 3) := by decide +kernel
theorem d_MO_spill_79 : decode b_MO_spill 79 = .ok (.aload_n 0, 1) := by decide +kernel
theorem d_MO_spill_80 : decode b_MO_spill 80 = .ok (.invokevirtual 151, 3) := by decide +kernel
theorem d_MO_spill_83 : decode b_MO_spill 83 = .ok (.istore_n 3, 1) := by decide +kernel
theorem d_MO_spill_84 : decode b_MO_spill 84 = .ok (.iload_n 3, 1) := by decide +kernel
theorem d_MO_spill_85 : decode b_MO_spill 85 = .ok (.ifCond .lt 36, 3) := by decide +kernel
theorem d_MO_spill_88 : decode b_MO_spill 88 = .ok (.aload_n 0, 1) := by decide +kernel
theorem d_MO_spill_89 : decode b_MO_spill 89 = .ok (.iconst 0, 1) := by decide +kernel
theorem d_MO_spill_90 : decode b_MO_spill 90 = .ok (.aload_n 0, 1) := by decide +kernel
theorem d_MO_spill_91 : decode b_MO_spill 91 = .ok (.getfield 25, 3) := by decide +kernel
theorem d_MO_spill_94 : decode b_MO_spill 94 = .ok (.iload_n 3, 1) := by decide +kernel
theorem d_MO_spill_95 : decode b_MO_spill 95 = .ok (.iaload, 1) := by decide +kernel
theorem d_MO_spill_96 : decode b_MO_spill 96 = .ok (.aload_n 0, 1) := by decide +kernel
theorem d_MO_spill_97 : decode b_MO_spill 97 = .ok (.getfield 25, 3) := by decide +kernel
theorem d_MO_spill_100 : decode b_MO_spill 100 = .ok (.iload_n 3, 1) := by decide +kernel
theorem d_MO_spill_101 : decode b_MO_spill 101 = .ok (.iaload, 1) := by decide +kernel
theorem d_MO_spill_102 : decode b_MO_spill 102 = .ok (.iconst 1, 1) := by decide +kernel
theorem d_MO_spill_103 : decode b_MO_spill 103 = .ok (.iadd, 1) := by decide +kernel
theorem d_MO_spill_104 : decode b_MO_spill 104 = .ok (.invokevirtual 134, 3) := by decide +kernel
theorem d_MO_spill_107 : decode b_MO_spill 107 = .ok (.ifCond .eq 14, 3) := by decide +kernel
theorem d_MO_spill_110 : decode b_MO_spill 110 = .ok (.aload_n 0, 1) := by decide +kernel
theorem d_MO_spill_111 : decode b_MO_spill 111 = .ok (.getfield 64, 3) := by decide +kernel
theorem d_MO_spill_114 : decode b_MO_spill 114 = .ok (.ifCond .ne 7, 3) := by decide +kernel
theorem d_MO_spill_117 : decode b_MO_spill 117 = .ok (.iconst 1, 1) := by decide +kernel
theorem d_MO_spill_118 : decode b_MO_spill 118 = .ok (.goto 4, 3) := by decide +kernel
theorem d_MO_spill_121 : decode b_MO_spill 121 = .ok (.iconst 0, 1) := by decide +kernel
theorem d_MO_spill_122 : decode b_MO_spill 122 = .ok (.istore_n 2, 1) := by decide +kernel
theorem d_MO_spill_123 : decode b_MO_spill 123 = .ok (.goto (-48), 3) := by decide +kernel
theorem d_MO_spill_126 : decode b_MO_spill 126 = .ok (.iconst 1, 1) := by decide +kernel
theorem d_MO_spill_127 : decode b_MO_spill 127 = .ok (.ireturn, 1) := by decide +kernel
theorem d_MO_writeSuper_0 : decode b_MO_writeSuper 0 = .ok (.aload_n 0, 1) := by decide +kernel
theorem d_MO_writeSuper_1 : decode b_MO_writeSuper 1 = .ok (.invokevirtual 107, 3) := by decide +kernel
theorem d_MO_writeSuper_4 : decode b_MO_writeSuper 4 = .ok (.aload_n 0, 1) := by decide +kernel
theorem d_MO_writeSuper_5 : decode b_MO_writeSuper 5 = .ok (.getfield 35, 3) := by decide +kernel
theorem d_MO_writeSuper_8 : decode b_MO_writeSuper 8 = .ok (.iconst 1, 1) := by decide +kernel
theorem d_MO_writeSuper_9 : decode b_MO_writeSuper 9 = .ok (.aload_n 0, 1) := by decide +kernel
theorem d_MO_writeSuper_10 : decode b_MO_writeSuper 10 = .ok (.getfield 154, 3) := by decide +kernel
theorem d_MO_writeSuper_13 : decode b_MO_writeSuper 13 = .ok (.iconst 1, 1) := by decide +kernel
theorem d_MO_writeSuper_14 : decode b_MO_writeSuper 14 = .ok (.iadd, 1) := by decide +kernel
theorem d_MO_writeSuper_15 : decode b_MO_writeSuper 15 = .ok (.iastore, 1) := by decide +kernel
theorem d_MO_writeSuper_16 : decode b_MO_writeSuper 16 = .ok (.aload_n 0, 1) := by decide +kernel
theorem d_MO_writeSuper_17 : decode b_MO_writeSuper 17 = .ok (.getfield 35, 3) := by decide +kernel
theorem d_MO_writeSuper_20 : decode b_MO_writeSuper 20 = .ok (.iconst 2, 1) := by decide +kernel
theorem d_MO_writeSuper_21 : decode b_MO_writeSuper 21 = .ok (.aload_n 0, 1) := by decide +kernel
theorem d_MO_writeSuper_22 : decode b_MO_writeSuper 22 = .ok (.getfield 82, 3) := by decide +kernel
theorem d_MO_writeSuper_25 : decode b_MO_writeSuper 25 = .ok (.iastore, 1) := by decide +kernel
theorem d_MO_writeSuper_26 : decode b_MO_writeSuper 26 = .ok (.iconst 0, 1) := by decide +kernel
theorem d_MO_writeSuper_27 : decode b_MO_writeSuper 27 = .ok (.istore_n 1, 1) := by decide +kernel
theorem d_MO_writeSuper_28 : decode b_MO_writeSuper 28 = .ok (.iload_n 1, 1) := by decide +kernel
theorem d_MO_writeSuper_29 : decode b_MO_writeSuper 29 = .ok (.aload_n 0, 1) := by decide +kernel
theorem d_MO_writeSuper_30 : decode b_MO_writeSuper 30 = .ok (.getfield 82, 3) := by decide +kernel
theorem d_MO_writeSuper_33 : decode b_MO_writeSuper 33 = .ok (.if_icmp .ge 74, 3) := by decide +kernel
theorem d_MO_writeSuper_36 : decode b_MO_writeSuper 36 = .ok (.aload_n 0, 1) := by decide +kernel
theorem d_MO_writeSuper_37 : decode b_MO_writeSuper 37 = .ok (.getfield 35, 3) := by decide +kernel
theorem d_MO_writeSuper_40 : decode b_MO_writeSuper 40 = .ok (.iconst 3, 1) := by decide +kernel
theorem d_MO_writeSuper_41 : decode b_MO_writeSuper 41 = .ok (.iconst 4, 1) := by decide +kernel
theorem d_MO_writeSuper_42 : decode b_MO_writeSuper 42 = .ok (.iload_n 1, 1) := by decide +kernel
theorem d_MO_writeSuper_43 : decode b_MO_writeSuper 43 = .ok (.imul, 1) := by decide +kernel
theorem d_MO_writeSuper_44 : decode b_MO_writeSuper 44 = .ok (.iadd, 1) := by decide +kernel
theorem d_MO_writeSuper_45 : decode b_MO_writeSuper 45 = .ok (.aload_n 0, 1) := by decide +kernel
theorem d_MO_writeSuper_46 : decode b_MO_writeSuper 46 = .ok (.getfield 16, 3) := by decide +kernel
theorem d_MO_writeSuper_49 : decode b_MO_writeSuper 49 = .ok (.iload_n 1, 1) := by decide +kernel
theorem d_MO_writeSuper_50 : decode b_MO_writeSuper 50 = .ok (.iaload, 1) := by decide +kernel
theorem d_MO_writeSuper_51 : decode b_MO_writeSuper 51 = .ok (.iastore, 1) := by decide +kernel
theorem d_MO_writeSuper_52 : decode b_MO_writeSuper 52 = .ok (.aload_n 0, 1) := by decide +kernel
theorem d_MO_writeSuper_53 : decode b_MO_writeSuper 53 = .ok (.getfield 35, 3) := by decide +kernel
theorem d_MO_writeSuper_56 : decode b_MO_writeSuper 56 = .ok (.iconst 4, 1) := by decide +kernel
theorem d_MO_writeSuper_57 : decode b_MO_writeSuper 57 = .ok (.iconst 4, 1) := by decide +kernel
theorem d_MO_writeSuper_58 : decode b_MO_writeSuper 58 = .ok (.iload_n 1, 1) := by decide +kernel
theorem d_MO_writeSuper_59 : decode b_MO_writeSuper 59 = .ok (.imul, 1) := by decide +kernel
theorem d_MO_writeSuper_60 : decode b_MO_writeSuper 60 = .ok (.iadd, 1) := by decide +kernel
theorem d_MO_writeSuper_61 : decode b_MO_writeSuper 61 = .ok (.aload_n 0, 1) := by decide +kernel
theorem d_MO_writeSuper_62 : decode b_MO_writeSuper 62 = .ok (.getfield 19, 3) := by decide +kernel
theorem d_MO_writeSuper_65 : decode b_MO_writeSuper 65 = .ok (.iload_n 1, 1) := by decide +kernel
theorem d_MO_writeSuper_66 : decode b_MO_writeSuper 66 = .ok (.iaload, 1) := by decide +kernel
theorem d_MO_writeSuper_67 : decode b_MO_writeSuper 67 = .ok (.iastore, 1) := by decide +kernel
theorem d_MO_writeSuper_68 : decode b_MO_writeSuper 68 = .ok (.aload_n 0, 1) := by decide +kernel
theorem d_MO_writeSuper_69 : decode b_MO_writeSuper 69 = .ok (.getfield 35, 3) := by decide +kernel
theorem d_MO_writeSuper_72 : decode b_MO_writeSuper 72 = .ok (.iconst 5, 1) := by decide +kernel
theorem d_MO_writeSuper_73 : decode b_MO_writeSuper 73 = .ok (.iconst 4, 1) := by decide +kernel
theorem d_MO_writeSuper_74 : decode b_MO_writeSuper 74 = .ok (.iload_n 1, 1) := by decide +kernel
theorem d_MO_writeSuper_75 : decode b_MO_writeSuper 75 = .ok (.imul, 1) := by decide +kernel
theorem d_MO_writeSuper_76 : decode b_MO_writeSuper 76 = .ok (.iadd, 1) := by decide +kernel
theorem d_MO_writeSuper_77 : decode b_MO_writeSuper 77 = .ok (.aload_n 0, 1) := by decide +kernel
theorem d_MO_writeSuper_78 : decode b_MO_writeSuper 78 = .ok (.getfield 22, 3) := by decide +kernel
theorem d_MO_writeSuper_81 : decode b_MO_writeSuper 81 = .ok (.iload_n 1, 1) := by decide +kernel
theorem d_MO_writeSuper_82 : decode b_MO_writeSuper 82 = .ok (.iaload, 1) := by decide +kernel
theorem d_MO_writeSuper_83 : decode b_MO_writeSuper 83 = .ok (.iastore, 1) := by decide +kernel
theorem d_MO_writeSuper_84 : decode b_MO_writeSuper 84 = .ok (.aload_n 0, 1) := by decide +kernel
theorem d_MO_writeSuper_85 : decode b_MO_writeSuper 85 = .ok (.getfield 35, 3) := by decide +kernel
theorem d_MO_writeSuper_88 : decode b_MO_writeSuper 88 = .ok (.bipush 6, 2) := by decide +kernel
theorem d_MO_writeSuper_90 : decode b_MO_writeSuper 90 = .ok (.iconst 4, 1) := by decide +kernel
theorem d_MO_writeSuper_91 : decode b_MO_writeSuper 91 = .ok (.iload_n 1, 1) := by decide +kernel
theorem d_MO_writeSuper_92 : decode b_MO_writeSuper 92 = .ok (.imul, 1) := by decide +kernel
theorem d_MO_writeSuper_93 : decode b_MO_writeSuper 93 = .ok (.iadd, 1) := by decide +kernel
theorem d_MO_writeSuper_94 : decode b_MO_writeSuper 94 = .ok (.aload_n 0, 1) := by decide +kernel
theorem d_MO_writeSuper_95 : decode b_MO_writeSuper 95 = .ok (.getfield 25, 3) := by decide +kernel
theorem d_MO_writeSuper_98 : decode b_MO_writeSuper 98 = .ok (.iload_n 1, 1) := by decide +kernel
theorem d_MO_writeSuper_99 : decode b_MO_writeSuper 99 = .ok (.iaload, 1) := by decide +kernel
theorem d_MO_writeSuper_100 : decode b_MO_writeSuper 100 = .ok (.iastore, 1) := by decide +kernel
theorem d_MO_writeSuper_101 : decode b_MO_writeSuper 101 = .ok (.iinc 1 1, 3) := by decide +kernel
theorem d_MO_writeSuper_104 : decode b_MO_writeSuper 104 = .ok (.goto (-76), 3) := by decide +kernel
theorem d_MO_writeSuper_107 : decode b_MO_writeSuper 107 = .ok (.aload_n 0, 1) := by decide +kernel
theorem d_MO_writeSuper_108 : decode b_MO_writeSuper 108 = .ok (.aload_n 0, 1) := by decide +kernel
theorem d_MO_writeSuper_109 : decode b_MO_writeSuper 109 = .ok (.getfield 154, 3) := by decide +kernel
theorem d_MO_writeSuper_112 : decode b_MO_writeSuper 112 = .ok (.iconst 1, 1) := by decide +kernel
theorem d_MO_writeSuper_113 : decode b_MO_writeSuper 113 = .ok (.iadd, 1) := by decide +kernel
theorem d_MO_writeSuper_114 : decode b_MO_writeSuper 114 = .ok (.iconst 1, 1) := by decide +kernel
theorem d_MO_writeSuper_115 : decode b_MO_writeSuper 115 = .ok (.iand, 1) := by decide +kernel
theorem d_MO_writeSuper_116 : decode b_MO_writeSuper 116 = .ok (.invokevirtual 116, 3) := by decide +kernel
theorem d_MO_writeSuper_119 : decode b_MO_writeSuper 119 = .ok (.aload_n 0, 1) := by decide +kernel
theorem d_MO_writeSuper_120 : decode b_MO_writeSuper 120 = .ok (.getfield 64, 3) := by decide +kernel
theorem d_MO_writeSuper_123 : decode b_MO_writeSuper 123 = .ok (.ifCond .eq 4, 3) := by decide +kernel
theorem d_MO_writeSuper_126 : decode b_MO_writeSuper 126 = .ok (.return_, 1) := by decide +kernel
theorem d_MO_writeSuper_127 : decode b_MO_writeSuper 127 = .ok (.aload_n 0, 1) := by decide +kernel
theorem d_MO_writeSuper_128 : decode b_MO_writeSuper 128 = .ok (.dup, 1) := by decide +kernel
theorem d_MO_writeSuper_129 : decode b_MO_writeSuper 129 = .ok (.getfield 154, 3) := by decide +kernel
theorem d_MO_writeSuper_132 : decode b_MO_writeSuper 132 = .ok (.iconst 1, 1) := by decide +kernel
theorem d_MO_writeSuper_133 : decode b_MO_writeSuper 133 = .ok (.iadd, 1) := by decide +kernel
theorem d_MO_writeSuper_134 : decode b_MO_writeSuper 134 = .ok (.putfield 154, 3) := by decide +kernel
theorem d_MO_writeSuper_137 : decode b_MO_writeSuper 137 = .ok (.aload_n 0, 1) := by decide +kernel
theorem d_MO_writeSuper_138 : decode b_MO_writeSuper 138 = .ok (.invokevirtual 88, 3) := by decide +kernel
theorem d_MO_writeSuper_141 : decode b_MO_writeSuper 141 = .ok (.iconst 0, 1) := by decide +kernel
theorem d_MO_writeSuper_142 : decode b_MO_writeSuper 142 = .ok (.istore_n 1, 1) := by decide +kernel
theorem d_MO_writeSuper_143 : decode b_MO_writeSuper 143 = .ok (.iload_n 1, 1) := by decide +kernel
theorem d_MO_writeSuper_144 : decode b_MO_writeSuper 144 = .ok (.sipush 200, 3) := by decide +kernel
theorem d_MO_writeSuper_147 : decode b_MO_writeSuper 147 = .ok (.if_icmp .ge 21, 3) := by decide +kernel
theorem d_MO_writeSuper_150 : decode b_MO_writeSuper 150 = .ok (.aload_n 0, 1) := by decide +kernel
theorem d_MO_writeSuper_151 : decode b_MO_writeSuper 151 = .ok (.getfield 28, 3) := by decide +kernel
theorem d_MO_writeSuper_154 : decode b_MO_writeSuper 154 = .ok (.iload_n 1, 1) := by decide +kernel
theorem d_MO_writeSuper_155 : decode b_MO_writeSuper 155 = .ok (.aload_n 0, 1) := by decide +kernel
theorem d_MO_writeSuper_156 : decode b_MO_writeSuper 156 = .ok (.getfield 32, 3) := by decide +kernel
theorem d_MO_writeSuper_159 : decode b_MO_writeSuper 159 = .ok (.iload_n 1, 1) := by decide +kernel
theorem d_MO_writeSuper_160 : decode b_MO_writeSuper 160 = .ok (.baload, 1) := by decide +kernel
theorem d_MO_writeSuper_161 : decode b_MO_writeSuper 161 = .ok (.bastore, 1) := by decide +kernel
theorem d_MO_writeSuper_162 : decode b_MO_writeSuper 162 = .ok (.iinc 1 1, 3) := by decide +kernel
theorem d_MO_writeSuper_165 : decode b_MO_writeSuper 165 = .ok (.goto (-22), 3) := by decide +kernel
theorem d_MO_writeSuper_168 : decode b_MO_writeSuper 168 = .ok (.return_, 1) := by decide +kernel
theorem d_MO_die_0 : decode b_MO_die 0 = .ok (.aload_n 0, 1) := by decide +kernel
theorem d_MO_die_1 : decode b_MO_die 1 = .ok (.iconst 0, 1) := by decide +kernel
theorem d_MO_die_2 : decode b_MO_die 2 = .ok (.putfield 157, 3) := by decide +kernel
theorem d_MO_die_5 : decode b_MO_die 5 = .ok (.aload_n 0, 1) := by decide +kernel
theorem d_MO_die_6 : decode b_MO_die 6 = .ok (.iconst 0, 1) := by decide +kernel
theorem d_MO_die_7 : decode b_MO_die 7 = .ok (.putfield 101, 3) := by decide +kernel
theorem d_MO_die_10 : decode b_MO_die 10 = .ok (.aload_n 0, 1) := by decide +kernel
theorem d_MO_die_11 : decode b_MO_die 11 = .ok (.iconst 0, 1) := by decide +kernel
theorem d_MO_die_12 : decode b_MO_die 12 = .ok (.putfield 82, 3) := by decide +kernel
theorem d_MO_die_15 : decode b_MO_die 15 = .ok (.return_, 1) := by decide +kernel
theorem d_MO_after_0 : decode b_MO_after 0 = .ok (.aload_n 0, 1) := by decide +kernel
theorem d_MO_after_1 : decode b_MO_after 1 = .ok (.getfield 64, 3) := by decide +kernel
theorem d_MO_after_4 : decode b_MO_after 4 = .ok (.ifCond .ne 5, 3) := by decide +kernel
theorem d_MO_after_7 : decode b_MO_after 7 = .ok (.iload_n 1, 1) := by decide +kernel
theorem d_MO_after_8 : decode b_MO_after 8 = .ok (.ireturn, 1) := by decide +kernel
theorem d_MO_after_9 : decode b_MO_after 9 = .ok (.aload_n 0, 1) := by decide +kernel
theorem d_MO_after_10 : decode b_MO_after 10 = .ok (.iconst 0, 1) := by decide +kernel
theorem d_MO_after_11 : decode b_MO_after 11 = .ok (.putfield 64, 3) := by decide +kernel
theorem d_MO_after_14 : decode b_MO_after 14 = .ok (.aload_n 0, 1) := by decide +kernel
theorem d_MO_after_15 : decode b_MO_after 15 = .ok (.invokevirtual 160, 3) := by decide +kernel
theorem d_MO_after_18 : decode b_MO_after 18 = .ok (.bipush (-9), 2) := by decide +kernel
theorem d_MO_after_20 : decode b_MO_after 20 = .ok (.ireturn, 1) := by decide +kernel
theorem d_MO_format_0 : decode b_MO_format 0 = .ok (.aload_n 0, 1) := by decide +kernel
theorem d_MO_format_1 : decode b_MO_format 1 = .ok (.iload_n 1, 1) := by decide +kernel
theorem d_MO_format_2 : decode b_MO_format 2 = .ok (.iconst 4, 1) := by decide +kernel
theorem d_MO_format_3 : decode b_MO_format 3 = .ok (.sipush 200, 3) := by decide +kernel
theorem d_MO_format_6 : decode b_MO_format 6 = .ok (.invokestatic 163, 3) := by decide +kernel
theorem d_MO_format_9 : decode b_MO_format 9 = .ok (.ifCond .eq 34, 3) := by decide +kernel
theorem d_MO_format_12 : decode b_MO_format 12 = .ok (.iload_n 2, 1) := by decide +kernel
theorem d_MO_format_13 : decode b_MO_format 13 = .ok (.bipush 11, 2) := by decide +kernel
theorem d_MO_format_15 : decode b_MO_format 15 = .ok (.bipush 40, 2) := by decide +kernel
theorem d_MO_format_17 : decode b_MO_format 17 = .ok (.invokestatic 163, 3) := by decide +kernel
theorem d_MO_format_20 : decode b_MO_format 20 = .ok (.ifCond .eq 23, 3) := by decide +kernel
theorem d_MO_format_23 : decode b_MO_format 23 = .ok (.iload_n 3, 1) := by decide +kernel
theorem d_MO_format_24 : decode b_MO_format 24 = .ok (.iconst 1, 1) := by decide +kernel
theorem d_MO_format_25 : decode b_MO_format 25 = .ok (.bipush 100, 2) := by decide +kernel
theorem d_MO_format_27 : decode b_MO_format 27 = .ok (.invokestatic 163, 3) := by decide +kernel
theorem d_MO_format_30 : decode b_MO_format 30 = .ok (.ifCond .eq 13, 3) := by decide +kernel
theorem d_MO_format_33 : decode b_MO_format 33 = .ok (.iload 4, 2) := by decide +kernel
theorem d_MO_format_35 : decode b_MO_format 35 = .ok (.iconst 2, 1) := by decide +kernel
theorem d_MO_format_36 : decode b_MO_format 36 = .ok (.iconst 5, 1) := by decide +kernel
theorem d_MO_format_37 : decode b_MO_format 37 = .ok (.invokestatic 163, 3) := by decide +kernel
theorem d_MO_format_40 : decode b_MO_format 40 = .ok (.ifCond .ne 7, 3) := by decide +kernel
theorem d_MO_format_43 : decode b_MO_format 43 = .ok (.iconst 1, 1) := by decide +kernel
theorem d_MO_format_44 : decode b_MO_format 44 = .ok (.goto 4, 3) := by decide +kernel
theorem d_MO_format_47 : decode b_MO_format 47 = .ok (.iconst 0, 1) := by decide +kernel
theorem d_MO_format_48 : decode b_MO_format 48 = .ok (.putfield 53, 3) := by decide +kernel
theorem d_MO_format_51 : decode b_MO_format 51 = .ok (.aload_n 0, 1) := by decide +kernel
theorem d_MO_format_52 : decode b_MO_format 52 = .ok (.getfield 53, 3) := by decide +kernel
theorem d_MO_format_55 : decode b_MO_format 55 = .ok (.ifCond .le 4, 3) := by decide +kernel
theorem d_MO_format_58 : decode b_MO_format 58 = .ok (.return_, 1) := by decide +kernel
theorem d_MO_format_59 : decode b_MO_format 59 = .ok (.aload_n 0, 1) := by decide +kernel
theorem d_MO_format_60 : decode b_MO_format 60 = .ok (.iconst 1, 1) := by decide +kernel
theorem d_MO_format_61 : decode b_MO_format 61 = .ok (.putfield 167, 3) := by decide +kernel
theorem d_MO_format_64 : decode b_MO_format 64 = .ok (.aload_n 0, 1) := by decide +kernel
theorem d_MO_format_65 : decode b_MO_format 65 = .ok (.iload_n 1, 1) := by decide +kernel
theorem d_MO_format_66 : decode b_MO_format 66 = .ok (.putfield 91, 3) := by decide +kernel
theorem d_MO_format_69 : decode b_MO_format 69 = .ok (.aload_n 0, 1) := by decide +kernel
theorem d_MO_format_70 : decode b_MO_format 70 = .ok (.iload_n 2, 1) := by decide +kernel
theorem d_MO_format_71 : decode b_MO_format 71 = .ok (.putfield 57, 3) := by decide +kernel
theorem d_MO_format_74 : decode b_MO_format 74 = .ok (.aload_n 0, 1) := by decide +kernel
theorem d_MO_format_75 : decode b_MO_format 75 = .ok (.iload_n 3, 1) := by decide +kernel
theorem d_MO_format_76 : decode b_MO_format 76 = .ok (.putfield 170, 3) := by decide +kernel
theorem d_MO_format_79 : decode b_MO_format 79 = .ok (.aload_n 0, 1) := by decide +kernel
theorem d_MO_format_80 : decode b_MO_format 80 = .ok (.iload 4, 2) := by decide +kernel
theorem d_MO_format_82 : decode b_MO_format 82 = .ok (.putfield 141, 3) := by decide +kernel
theorem d_MO_format_85 : decode b_MO_format 85 = .ok (.iconst 0, 1) := by decide +kernel
theorem d_MO_format_86 : decode b_MO_format 86 = .ok (.istore 5, 2) := by decide +kernel
theorem d_MO_format_88 : decode b_MO_format 88 = .ok (.iload 5, 2) := by decide +kernel
theorem d_MO_format_90 : decode b_MO_format 90 = .ok (.sipush 8000, 3) := by decide +kernel
theorem d_MO_format_93 : decode b_MO_format 93 = .ok (.if_icmp .ge 17, 3) := by decide +kernel
theorem d_MO_format_96 : decode b_MO_format 96 = .ok (.aload_n 0, 1) := by decide +kernel
theorem d_MO_format_97 : decode b_MO_format 97 = .ok (.getfield 7, 3) := by decide +kernel
theorem d_MO_format_100 : decode b_MO_format 100 = .ok (.iload 5, 2) := by decide +kernel
theorem d_MO_format_102 : decode b_MO_format 102 = .ok (.iconst 0, 1) := by decide +kernel
theorem d_MO_format_103 : decode b_MO_format 103 = .ok (.iastore, 1) := by decide +kernel
theorem d_MO_format_104 : decode b_MO_format 104 = .ok (.iinc 5 1, 3) := by decide +kernel
theorem d_MO_format_107 : decode b_MO_format 107 = .ok (.goto (-19), 3) := by decide +kernel
theorem d_MO_format_110 : decode b_MO_format 110 = .ok (.iconst 0, 1) := by decide +kernel
theorem d_MO_format_111 : decode b_MO_format 111 = .ok (.istore 5, 2) := by decide +kernel
theorem d_MO_format_113 : decode b_MO_format 113 = .ok (.iload 5, 2) := by decide +kernel
theorem d_MO_format_115 : decode b_MO_format 115 = .ok (.sipush 200, 3) := by decide +kernel
theorem d_MO_format_118 : decode b_MO_format 118 = .ok (.if_icmp .ge 17, 3) := by decide +kernel
theorem d_MO_format_121 : decode b_MO_format 121 = .ok (.aload_n 0, 1) := by decide +kernel
theorem d_MO_format_122 : decode b_MO_format 122 = .ok (.getfield 28, 3) := by decide +kernel
theorem d_MO_format_125 : decode b_MO_format 125 = .ok (.iload 5, 2) := by decide +kernel
theorem d_MO_format_127 : decode b_MO_format 127 = .ok (.iconst 0, 1) := by decide +kernel
theorem d_MO_format_128 : decode b_MO_format 128 = .ok (.bastore, 1) := by decide +kernel
theorem d_MO_format_129 : decode b_MO_format 129 = .ok (.iinc 5 1, 3) := by decide +kernel
theorem d_MO_format_132 : decode b_MO_format 132 = .ok (.goto (-19), 3) := by decide +kernel
theorem d_MO_format_135 : decode b_MO_format 135 = .ok (.aload_n 0, 1) := by decide +kernel
theorem d_MO_format_136 : decode b_MO_format 136 = .ok (.iconst 0, 1) := by decide +kernel
theorem d_MO_format_137 : decode b_MO_format 137 = .ok (.putfield 71, 3) := by decide +kernel
theorem d_MO_format_140 : decode b_MO_format 140 = .ok (.aload_n 0, 1) := by decide +kernel
theorem d_MO_format_141 : decode b_MO_format 141 = .ok (.iconst 0, 1) := by decide +kernel
theorem d_MO_format_142 : decode b_MO_format 142 = .ok (.putfield 68, 3) := by decide +kernel
theorem d_MO_format_145 : decode b_MO_format 145 = .ok (.aload_n 0, 1) := by decide +kernel
theorem d_MO_format_146 : decode b_MO_format 146 = .ok (.iconst 0, 1) := by decide +kernel
theorem d_MO_format_147 : decode b_MO_format 147 = .ok (.putfield 64, 3) := by decide +kernel
theorem d_MO_format_150 : decode b_MO_format 150 = .ok (.aload_n 0, 1) := by decide +kernel
theorem d_MO_format_151 : decode b_MO_format 151 = .ok (.iconst 0, 1) := by decide +kernel
theorem d_MO_format_152 : decode b_MO_format 152 = .ok (.putfield 101, 3) := by decide +kernel
theorem d_MO_format_155 : decode b_MO_format 155 = .ok (.aload_n 0, 1) := by decide +kernel
theorem d_MO_format_156 : decode b_MO_format 156 = .ok (.iconst 0, 1) := by decide +kernel
theorem d_MO_format_157 : decode b_MO_format 157 = .ok (.putfield 82, 3) := by decide +kernel
theorem d_MO_format_160 : decode b_MO_format 160 = .ok (.aload_n 0, 1) := by decide +kernel
theorem d_MO_format_161 : decode b_MO_format 161 = .ok (.iconst 0, 1) := by decide +kernel
theorem d_MO_format_162 : decode b_MO_format 162 = .ok (.putfield 154, 3) := by decide +kernel
theorem d_MO_format_165 : decode b_MO_format 165 = .ok (.aload_n 0, 1) := by decide +kernel
theorem d_MO_format_166 : decode b_MO_format 166 = .ok (.iconst 1, 1) := by decide +kernel
theorem d_MO_format_167 : decode b_MO_format 167 = .ok (.putfield 157, 3) := by decide +kernel
theorem d_MO_format_170 : decode b_MO_format 170 = .ok (.aload_n 0, 1) := by decide +kernel
theorem d_MO_format_171 : decode b_MO_format 171 = .ok (.invokevirtual 173, 3) := by decide +kernel
theorem d_MO_format_174 : decode b_MO_format 174 = .ok (.return_, 1) := by decide +kernel
theorem d_MO_insert_0 : decode b_MO_insert 0 = .ok (.aload_n 0, 1) := by decide +kernel
theorem d_MO_insert_1 : decode b_MO_insert 1 = .ok (.aload_n 0, 1) := by decide +kernel
theorem d_MO_insert_2 : decode b_MO_insert 2 = .ok (.getfield 157, 3) := by decide +kernel
theorem d_MO_insert_5 : decode b_MO_insert 5 = .ok (.ifCond .ne 7, 3) := by decide +kernel
theorem d_MO_insert_8 : decode b_MO_insert 8 = .ok (.iconst 1, 1) := by decide +kernel
theorem d_MO_insert_9 : decode b_MO_insert 9 = .ok (.goto 12, 3) := by decide +kernel
theorem d_MO_insert_12 : decode b_MO_insert 12 = .ok (.iload_n 1, 1) := by decide +kernel
theorem d_MO_insert_13 : decode b_MO_insert 13 = .ok (.ifCond .ge 7, 3) := by decide +kernel
theorem d_MO_insert_16 : decode b_MO_insert 16 = .ok (.iconst 2, 1) := by decide +kernel
theorem d_MO_insert_17 : decode b_MO_insert 17 = .ok (.goto 4, 3) := by decide +kernel
theorem d_MO_insert_20 : decode b_MO_insert 20 = .ok (.iconst 0, 1) := by decide +kernel
theorem d_MO_insert_21 : decode b_MO_insert 21 = .ok (.putfield 53, 3) := by decide +kernel
theorem d_MO_insert_24 : decode b_MO_insert 24 = .ok (.aload_n 0, 1) := by decide +kernel
theorem d_MO_insert_25 : decode b_MO_insert 25 = .ok (.getfield 53, 3) := by decide +kernel
theorem d_MO_insert_28 : decode b_MO_insert 28 = .ok (.ifCond .le 5, 3) := by decide +kernel
theorem d_MO_insert_31 : decode b_MO_insert 31 = .ok (.iconst 0, 1) := by decide +kernel
theorem d_MO_insert_32 : decode b_MO_insert 32 = .ok (.ireturn, 1) := by decide +kernel
theorem d_MO_insert_33 : decode b_MO_insert 33 = .ok (.aload_n 0, 1) := by decide +kernel
theorem d_MO_insert_34 : decode b_MO_insert 34 = .ok (.getfield 101, 3) := by decide +kernel
theorem d_MO_insert_37 : decode b_MO_insert 37 = .ok (.aload_n 0, 1) := by decide +kernel
theorem d_MO_insert_38 : decode b_MO_insert 38 = .ok (.getfield 170, 3) := by decide +kernel
theorem d_MO_insert_41 : decode b_MO_insert 41 = .ok (.if_icmp .ne 14, 3) := by decide +kernel
theorem d_MO_insert_44 : decode b_MO_insert 44 = .ok (.aload_n 0, 1) := by decide +kernel
theorem d_MO_insert_45 : decode b_MO_insert 45 = .ok (.invokevirtual 176, 3) := by decide +kernel
theorem d_MO_insert_48 : decode b_MO_insert 48 = .ok (.ifCond .ne 7, 3) := by decide +kernel
theorem d_MO_insert_51 : decode b_MO_insert 51 = .ok (.iconst 1, 1) := by decide +kernel
theorem d_MO_insert_52 : decode b_MO_insert 52 = .ok (.goto 4, 3) := by decide +kernel
theorem d_MO_insert_55 : decode b_MO_insert 55 = .ok (.iconst 0, 1) := by decide +kernel
theorem d_MO_insert_56 : decode b_MO_insert 56 = .ok (.istore_n 2, 1) := by decide +kernel
theorem d_MO_insert_57 : decode b_MO_insert 57 = .ok (.iload_n 2, 1) := by decide +kernel
theorem d_MO_insert_58 : decode b_MO_insert 58 = .ok (.ifCond .ne 30, 3) := by decide +kernel
theorem d_MO_insert_61 : decode b_MO_insert 61 = .ok (.aload_n 0, 1) := by decide +kernel
theorem d_MO_insert_62 : decode b_MO_insert 62 = .ok (.getfield 64, 3) := by decide +kernel
theorem d_MO_insert_65 : decode b_MO_insert 65 = .ok (.ifCond .ne 23, 3) := by decide +kernel
theorem d_MO_insert_68 : decode b_MO_insert 68 = .ok (.aload_n 0, 1) := by decide +kernel
theorem d_MO_insert_69 : decode b_MO_insert 69 = .ok (.getfield 13, 3) := by decide +kernel
theorem d_MO_insert_72 : decode b_MO_insert 72 = .ok (.aload_n 0, 1) := by decide +kernel
theorem d_MO_insert_73 : decode b_MO_insert 73 = .ok (.getfield 101, 3) := by decide +kernel
theorem d_MO_insert_76 : decode b_MO_insert 76 = .ok (.iload_n 1, 1) := by decide +kernel
theorem d_MO_insert_77 : decode b_MO_insert 77 = .ok (.iastore, 1) := by decide +kernel
theorem d_MO_insert_78 : decode b_MO_insert 78 = .ok (.aload_n 0, 1) := by decide +kernel
theorem d_MO_insert_79 : decode b_MO_insert 79 = .ok (.dup, 1) := by decide +kernel
theorem d_MO_insert_80 : decode b_MO_insert 80 = .ok (.getfield 101, 3) := by decide +kernel
theorem d_MO_insert_83 : decode b_MO_insert 83 = .ok (.iconst 1, 1) := by decide +kernel
theorem d_MO_insert_84 : decode b_MO_insert 84 = .ok (.iadd, 1) := by decide +kernel
theorem d_MO_insert_85 : decode b_MO_insert 85 = .ok (.putfield 101, 3) := by decide +kernel
theorem d_MO_insert_88 : decode b_MO_insert 88 = .ok (.aload_n 0, 1) := by decide +kernel
theorem d_MO_insert_89 : decode b_MO_insert 89 = .ok (.iload_n 2, 1) := by decide +kernel
theorem d_MO_insert_90 : decode b_MO_insert 90 = .ok (.ifCond .eq 8, 3) := by decide +kernel
theorem d_MO_insert_93 : decode b_MO_insert 93 = .ok (.bipush (-2), 2) := by decide +kernel
theorem d_MO_insert_95 : decode b_MO_insert 95 = .ok (.goto 4, 3) := by decide +kernel
theorem d_MO_insert_98 : decode b_MO_insert 98 = .ok (.iconst 0, 1) := by decide +kernel
theorem d_MO_insert_99 : decode b_MO_insert 99 = .ok (.invokevirtual 179, 3) := by decide +kernel
theorem d_MO_insert_102 : decode b_MO_insert 102 = .ok (.ireturn, 1) := by decide +kernel
theorem d_MO_leastRun_0 : decode b_MO_leastRun 0 = .ok (.iconst (-1), 1) := by decide +kernel
theorem d_MO_leastRun_1 : decode b_MO_leastRun 1 = .ok (.istore_n 1, 1) := by decide +kernel
theorem d_MO_leastRun_2 : decode b_MO_leastRun 2 = .ok (.iconst 0, 1) := by decide +kernel
theorem d_MO_leastRun_3 : decode b_MO_leastRun 3 = .ok (.istore_n 2, 1) := by decide +kernel
theorem d_MO_leastRun_4 : decode b_MO_leastRun 4 = .ok (.iload_n 2, 1) := by decide +kernel
theorem d_MO_leastRun_5 : decode b_MO_leastRun 5 = .ok (.aload_n 0, 1) := by decide +kernel
theorem d_MO_leastRun_6 : decode b_MO_leastRun 6 = .ok (.getfield 82, 3) := by decide +kernel
theorem d_MO_leastRun_9 : decode b_MO_leastRun 9 = .ok (.if_icmp .ge 32, 3) := by decide +kernel
theorem d_MO_leastRun_12 : decode b_MO_leastRun 12 = .ok (.iload_n 1, 1) := by decide +kernel
theorem d_MO_leastRun_13 : decode b_MO_leastRun 13 = .ok (.ifCond .lt 16, 3) := by decide +kernel
theorem d_MO_leastRun_16 : decode b_MO_leastRun 16 = .ok (.aload_n 0, 1) := by decide +kernel
theorem d_MO_leastRun_17 : decode b_MO_leastRun 17 = .ok (.iload_n 2, 1) := by decide +kernel
theorem d_MO_leastRun_18 : decode b_MO_leastRun 18 = .ok (.invokevirtual 182, 3) := by decide +kernel
theorem d_MO_leastRun_21 : decode b_MO_leastRun 21 = .ok (.aload_n 0, 1) := by decide +kernel
theorem d_MO_leastRun_22 : decode b_MO_leastRun 22 = .ok (.iload_n 1, 1) := by decide +kernel
theorem d_MO_leastRun_23 : decode b_MO_leastRun 23 = .ok (.invokevirtual 182, 3) := by decide +kernel
theorem d_MO_leastRun_26 : decode b_MO_leastRun 26 = .ok (.if_icmp .ge 7, 3) := by decide +kernel
theorem d_MO_leastRun_29 : decode b_MO_leastRun 29 = .ok (.iload_n 2, 1) := by decide +kernel
theorem d_MO_leastRun_30 : decode b_MO_leastRun 30 = .ok (.goto 4, 3) := by decide +kernel
theorem d_MO_leastRun_33 : decode b_MO_leastRun 33 = .ok (.iload_n 1, 1) := by decide +kernel
theorem d_MO_leastRun_34 : decode b_MO_leastRun 34 = .ok (.istore_n 1, 1) := by decide +kernel
theorem d_MO_leastRun_35 : decode b_MO_leastRun 35 = .ok (.iinc 2 1, 3) := by decide +kernel
theorem d_MO_leastRun_38 : decode b_MO_leastRun 38 = .ok (.goto (-34), 3) := by decide +kernel
theorem d_MO_leastRun_41 : decode b_MO_leastRun 41 = .ok (.iload_n 1, 1) := by decide +kernel
theorem d_MO_leastRun_42 : decode b_MO_leastRun 42 = .ok (.ireturn, 1) := by decide +kernel
theorem d_MO_leastInMemory_0 : decode b_MO_leastInMemory 0 = .ok (.iconst (-1), 1) := by decide +kernel
