theorem d_SQ_spill_66 : decode b_SQ_spill 66 = .ok (.goto 4, 3) := by decide +kernel
theorem d_SQ_spill_69 : decode b_SQ_spill 69 = .ok (.iload_n 1, 1) := by decide +kernel
theorem d_SQ_spill_70 : decode b_SQ_spill 70 = .ok (.ireturn, 1) := by decide +kernel
theorem d_SQ_mergeCrowdedLevels_0 : decode b_SQ_mergeCrowdedLevels 0 = .ok (.iconst 0, 1) := by decide +kernel
theorem d_SQ_mergeCrowdedLevels_1 : decode b_SQ_mergeCrowdedLevels 1 = .ok (.istore_n 1, 1) := by decide +kernel
theorem d_SQ_mergeCrowdedLevels_2 : decode b_SQ_mergeCrowdedLevels 2 = .ok (.iload_n 1, 1) := by decide +kernel
theorem d_SQ_mergeCrowdedLevels_3 : decode b_SQ_mergeCrowdedLevels 3 = .ok (.bipush 9, 2) := by decide +kernel
theorem d_SQ_mergeCrowdedLevels_5 : decode b_SQ_mergeCrowdedLevels 5 = .ok (.if_icmp .ge 77, 3) := by decide +kernel
theorem d_SQ_mergeCrowdedLevels_8 : decode b_SQ_mergeCrowdedLevels 8 = .ok (.aload_n 0, 1) := by decide +kernel
theorem d_SQ_mergeCrowdedLevels_9 : decode b_SQ_mergeCrowdedLevels 9 = .ok (.getfield 28, 3) := by decide +kernel
theorem d_SQ_mergeCrowdedLevels_12 : decode b_SQ_mergeCrowdedLevels 12 = .ok (.aload_n 0, 1) := by decide +kernel
theorem d_SQ_mergeCrowdedLevels_13 : decode b_SQ_mergeCrowdedLevels 13 = .ok (.getfield 77, 3) := by decide +kernel
theorem d_SQ_mergeCrowdedLevels_16 : decode b_SQ_mergeCrowdedLevels 16 = .ok (.invokevirtual 244, 3) := by decide +kernel
theorem d_SQ_mergeCrowdedLevels_19 : decode b_SQ_mergeCrowdedLevels 19 = .ok (.istore_n 2, 1) := by decide +kernel
theorem d_SQ_mergeCrowdedLevels_20 : decode b_SQ_mergeCrowdedLevels 20 = .ok (.iload_n 2, 1) := by decide +kernel
theorem d_SQ_mergeCrowdedLevels_21 : decode b_SQ_mergeCrowdedLevels 21 = .ok (.ifCond .ge 5, 3) := by decide +kernel
theorem d_SQ_mergeCrowdedLevels_24 : decode b_SQ_mergeCrowdedLevels 24 = .ok (.iconst 0, 1) := by decide +kernel
theorem d_SQ_mergeCrowdedLevels_25 : decode b_SQ_mergeCrowdedLevels 25 = .ok (.ireturn, 1) := by decide +kernel
theorem d_SQ_mergeCrowdedLevels_26 : decode b_SQ_mergeCrowdedLevels 26 = .ok (.aload_n 0, 1) := by decide +kernel
theorem d_SQ_mergeCrowdedLevels_27 : decode b_SQ_mergeCrowdedLevels 27 = .ok (.getfield 28, 3) := by decide +kernel
theorem d_SQ_mergeCrowdedLevels_30 : decode b_SQ_mergeCrowdedLevels 30 = .ok (.getfield 176, 3) := by decide +kernel
theorem d_SQ_mergeCrowdedLevels_33 : decode b_SQ_mergeCrowdedLevels 33 = .ok (.iload_n 2, 1) := by decide +kernel
theorem d_SQ_mergeCrowdedLevels_34 : decode b_SQ_mergeCrowdedLevels 34 = .ok (.iaload, 1) := by decide +kernel
theorem d_SQ_mergeCrowdedLevels_35 : decode b_SQ_mergeCrowdedLevels 35 = .ok (.istore_n 3, 1) := by decide +kernel
theorem d_SQ_mergeCrowdedLevels_36 : decode b_SQ_mergeCrowdedLevels 36 = .ok (.aload_n 0, 1) := by decide +kernel
theorem d_SQ_mergeCrowdedLevels_37 : decode b_SQ_mergeCrowdedLevels 37 = .ok (.getfield 28, 3) := by decide +kernel
theorem d_SQ_mergeCrowdedLevels_40 : decode b_SQ_mergeCrowdedLevels 40 = .ok (.iload_n 3, 1) := by decide +kernel
theorem d_SQ_mergeCrowdedLevels_41 : decode b_SQ_mergeCrowdedLevels 41 = .ok (.invokevirtual 247, 3) := by decide +kernel
theorem d_SQ_mergeCrowdedLevels_44 : decode b_SQ_mergeCrowdedLevels 44 = .ok (.aload_n 0, 1) := by decide +kernel
theorem d_SQ_mergeCrowdedLevels_45 : decode b_SQ_mergeCrowdedLevels 45 = .ok (.aload_n 0, 1) := by decide +kernel
theorem d_SQ_mergeCrowdedLevels_46 : decode b_SQ_mergeCrowdedLevels 46 = .ok (.getfield 28, 3) := by decide +kernel
theorem d_SQ_mergeCrowdedLevels_49 : decode b_SQ_mergeCrowdedLevels 49 = .ok (.iload_n 3, 1) := by decide +kernel
theorem d_SQ_mergeCrowdedLevels_50 : decode b_SQ_mergeCrowdedLevels 50 = .ok (.iconst 1, 1) := by decide +kernel
theorem d_SQ_mergeCrowdedLevels_51 : decode b_SQ_mergeCrowdedLevels 51 = .ok (.iadd, 1) := by decide +kernel
theorem d_SQ_mergeCrowdedLevels_52 : decode b_SQ_mergeCrowdedLevels 52 = .ok (.invokevirtual 237, 3) := by decide +kernel
theorem d_SQ_mergeCrowdedLevels_55 : decode b_SQ_mergeCrowdedLevels 55 = .ok (.istore 4, 2) := by decide +kernel
theorem d_SQ_mergeCrowdedLevels_57 : decode b_SQ_mergeCrowdedLevels 57 = .ok (.iload 4, 2) := by decide +kernel
theorem d_SQ_mergeCrowdedLevels_59 : decode b_SQ_mergeCrowdedLevels 59 = .ok (.ifCond .eq 17, 3) := by decide +kernel
theorem d_SQ_mergeCrowdedLevels_62 : decode b_SQ_mergeCrowdedLevels 62 = .ok (.iload 4, 2) := by decide +kernel
theorem d_SQ_mergeCrowdedLevels_64 : decode b_SQ_mergeCrowdedLevels 64 = .ok (.bipush (-2), 2) := by decide +kernel
theorem d_SQ_mergeCrowdedLevels_66 : decode b_SQ_mergeCrowdedLevels 66 = .ok (.if_icmp .ne 7, 3) := by decide +kernel
theorem d_SQ_mergeCrowdedLevels_69 : decode b_SQ_mergeCrowdedLevels 69 = .ok (.iconst 0, 1) := by decide +kernel
theorem d_SQ_mergeCrowdedLevels_70 : decode b_SQ_mergeCrowdedLevels 70 = .ok (.goto 5, 3) := by decide +kernel
theorem d_SQ_mergeCrowdedLevels_73 : decode b_SQ_mergeCrowdedLevels 73 = .ok (.iload 4, 2) := by decide +kernel
theorem d_SQ_mergeCrowdedLevels_75 : decode b_SQ_mergeCrowdedLevels 75 = .ok (.ireturn, 1) := by decide +kernel
theorem d_SQ_mergeCrowdedLevels_76 : decode b_SQ_mergeCrowdedLevels 76 = .ok (.iinc 1 1, 3) := by decide +kernel
theorem d_SQ_mergeCrowdedLevels_79 : decode b_SQ_mergeCrowdedLevels 79 = .ok (.goto (-77), 3) := by decide +kernel
theorem d_SQ_mergeCrowdedLevels_82 : decode b_SQ_mergeCrowdedLevels 82 = .ok (.iconst 0, 1) := by decide +kernel
theorem d_SQ_mergeCrowdedLevels_83 : decode b_SQ_mergeCrowdedLevels 83 = .ok (.ireturn, 1) := by decide +kernel
theorem d_SQ_makeRun_0 : decode b_SQ_makeRun 0 = .ok (.aload_n 1, 1) := by decide +kernel
theorem d_SQ_makeRun_1 : decode b_SQ_makeRun 1 = .ok (.invokevirtual 250, 3) := by decide +kernel
theorem d_SQ_makeRun_4 : decode b_SQ_makeRun 4 = .ok (.istore_n 3, 1) := by decide +kernel
theorem d_SQ_makeRun_5 : decode b_SQ_makeRun 5 = .ok (.aload_n 0, 1) := by decide +kernel
theorem d_SQ_makeRun_6 : decode b_SQ_makeRun 6 = .ok (.getfield 12, 3) := by decide +kernel
theorem d_SQ_makeRun_9 : decode b_SQ_makeRun 9 = .ok (.iload_n 3, 1) := by decide +kernel
theorem d_SQ_makeRun_10 : decode b_SQ_makeRun 10 = .ok (.invokevirtual 179, 3) := by decide +kernel
theorem d_SQ_makeRun_13 : decode b_SQ_makeRun 13 = .ok (.istore 4, 2) := by decide +kernel
theorem d_SQ_makeRun_15 : decode b_SQ_makeRun 15 = .ok (.iload 4, 2) := by decide +kernel
theorem d_SQ_makeRun_17 : decode b_SQ_makeRun 17 = .ok (.iconst 1, 1) := by decide +kernel
theorem d_SQ_makeRun_18 : decode b_SQ_makeRun 18 = .ok (.if_icmp .lt 12, 3) := by decide +kernel
theorem d_SQ_makeRun_21 : decode b_SQ_makeRun 21 = .ok (.aload_n 0, 1) := by decide +kernel
theorem d_SQ_makeRun_22 : decode b_SQ_makeRun 22 = .ok (.invokevirtual 187, 3) := by decide +kernel
theorem d_SQ_makeRun_25 : decode b_SQ_makeRun 25 = .ok (.iload 4, 2) := by decide +kernel
theorem d_SQ_makeRun_27 : decode b_SQ_makeRun 27 = .ok (.if_icmp .ge 6, 3) := by decide +kernel
theorem d_SQ_makeRun_30 : decode b_SQ_makeRun 30 = .ok (.bipush (-2), 2) := by decide +kernel
theorem d_SQ_makeRun_32 : decode b_SQ_makeRun 32 = .ok (.ireturn, 1) := by decide +kernel
theorem d_SQ_makeRun_33 : decode b_SQ_makeRun 33 = .ok (.aload_n 0, 1) := by decide +kernel
theorem d_SQ_makeRun_34 : decode b_SQ_makeRun 34 = .ok (.getfield 12, 3) := by decide +kernel
theorem d_SQ_makeRun_37 : decode b_SQ_makeRun 37 = .ok (.invokevirtual 253, 3) := by decide +kernel
theorem d_SQ_makeRun_40 : decode b_SQ_makeRun 40 = .ok (.istore 5, 2) := by decide +kernel
theorem d_SQ_makeRun_42 : decode b_SQ_makeRun 42 = .ok (.iconst 0, 1) := by decide +kernel
theorem d_SQ_makeRun_43 : decode b_SQ_makeRun 43 = .ok (.istore 6, 2) := by decide +kernel
theorem d_SQ_makeRun_45 : decode b_SQ_makeRun 45 = .ok (.iload 6, 2) := by decide +kernel
theorem d_SQ_makeRun_47 : decode b_SQ_makeRun 47 = .ok (.iload 4, 2) := by decide +kernel
theorem d_SQ_makeRun_49 : decode b_SQ_makeRun 49 = .ok (.if_icmp .ge 115, 3) := by decide +kernel
theorem d_SQ_makeRun_52 : decode b_SQ_makeRun 52 = .ok (.aload_n 0, 1) := by decide +kernel
theorem d_SQ_makeRun_53 : decode b_SQ_makeRun 53 = .ok (.getfield 12, 3) := by decide +kernel
theorem d_SQ_makeRun_56 : decode b_SQ_makeRun 56 = .ok (.invokevirtual 256, 3) := by decide +kernel
theorem d_SQ_makeRun_59 : decode b_SQ_makeRun 59 = .ok (.aload_n 0, 1) := by decide +kernel
theorem d_SQ_makeRun_60 : decode b_SQ_makeRun 60 = .ok (.getfield 12, 3) := by decide +kernel
theorem d_SQ_makeRun_63 : decode b_SQ_makeRun 63 = .ok (.iconst 1, 1) := by decide +kernel
theorem d_SQ_makeRun_64 : decode b_SQ_makeRun 64 = .ok (.iload 6, 2) := by decide +kernel
theorem d_SQ_makeRun_66 : decode b_SQ_makeRun 66 = .ok (.iconst 1, 1) := by decide +kernel
theorem d_SQ_makeRun_67 : decode b_SQ_makeRun 67 = .ok (.iadd, 1) := by decide +kernel
theorem d_SQ_makeRun_68 : decode b_SQ_makeRun 68 = .ok (.iload 4, 2) := by decide +kernel
theorem d_SQ_makeRun_70 : decode b_SQ_makeRun 70 = .ok (.if_icmp .ge 15, 3) := by decide +kernel
theorem d_SQ_makeRun_73 : decode b_SQ_makeRun 73 = .ok (.aload_n 0, 1) := by decide +kernel
theorem d_SQ_makeRun_74 : decode b_SQ_makeRun 74 = .ok (.getfield 49, 3) := by decide +kernel
theorem d_SQ_makeRun_77 : decode b_SQ_makeRun 77 = .ok (.iload 6, 2) := by decide +kernel
theorem d_SQ_makeRun_79 : decode b_SQ_makeRun 79 = .ok (.iconst 1, 1) := by decide +kernel
theorem d_SQ_makeRun_80 : decode b_SQ_makeRun 80 = .ok (.iadd, 1) := by decide +kernel
theorem d_SQ_makeRun_81 : decode b_SQ_makeRun 81 = .ok (.iaload, 1) := by decide +kernel
theorem d_SQ_makeRun_82 : decode b_SQ_makeRun 82 = .ok (.goto 4, 3) := by decide +kernel
theorem d_SQ_makeRun_85 : decode b_SQ_makeRun 85 = .ok (.iconst 0, 1) := by decide +kernel
theorem d_SQ_makeRun_86 : decode b_SQ_makeRun 86 = .ok (.invokevirtual 259, 3) := by decide +kernel
theorem d_SQ_makeRun_89 : decode b_SQ_makeRun 89 = .ok (.iload 5, 2) := by decide +kernel
theorem d_SQ_makeRun_91 : decode b_SQ_makeRun 91 = .ok (.iload_n 3, 1) := by decide +kernel
theorem d_SQ_makeRun_92 : decode b_SQ_makeRun 92 = .ok (.iload 6, 2) := by decide +kernel
theorem d_SQ_makeRun_94 : decode b_SQ_makeRun 94 = .ok (.iload 5, 2) := by decide +kernel
theorem d_SQ_makeRun_96 : decode b_SQ_makeRun 96 = .ok (.imul, 1) := by decide +kernel
theorem d_SQ_makeRun_97 : decode b_SQ_makeRun 97 = .ok (.isub, 1) := by decide +kernel
theorem d_SQ_makeRun_98 : decode b_SQ_makeRun 98 = .ok (.invokestatic 262, 3) := by decide +kernel
theorem d_SQ_makeRun_101 : decode b_SQ_makeRun 101 = .ok (.istore 7, 2) := by decide +kernel
theorem d_SQ_makeRun_103 : decode b_SQ_makeRun 103 = .ok (.iconst 0, 1) := by decide +kernel
theorem d_SQ_makeRun_104 : decode b_SQ_makeRun 104 = .ok (.istore 8, 2) := by decide +kernel
theorem d_SQ_makeRun_106 : decode b_SQ_makeRun 106 = .ok (.iload 8, 2) := by decide +kernel
theorem d_SQ_makeRun_108 : decode b_SQ_makeRun 108 = .ok (.iload 7, 2) := by decide +kernel
theorem d_SQ_makeRun_110 : decode b_SQ_makeRun 110 = .ok (.if_icmp .ge 24, 3) := by decide +kernel
theorem d_SQ_makeRun_113 : decode b_SQ_makeRun 113 = .ok (.aload_n 0, 1) := by decide +kernel
theorem d_SQ_makeRun_114 : decode b_SQ_makeRun 114 = .ok (.getfield 12, 3) := by decide +kernel
theorem d_SQ_makeRun_117 : decode b_SQ_makeRun 117 = .ok (.iconst 2, 1) := by decide +kernel
theorem d_SQ_makeRun_118 : decode b_SQ_makeRun 118 = .ok (.iload 8, 2) := by decide +kernel
theorem d_SQ_makeRun_120 : decode b_SQ_makeRun 120 = .ok (.iadd, 1) := by decide +kernel
theorem d_SQ_makeRun_121 : decode b_SQ_makeRun 121 = .ok (.aload_n 1, 1) := by decide +kernel
theorem d_SQ_makeRun_122 : decode b_SQ_makeRun 122 = .ok (.invokevirtual 267, 3) := by decide +kernel
theorem d_SQ_makeRun_125 : decode b_SQ_makeRun 125 = .ok (.invokevirtual 259, 3) := by decide +kernel
theorem d_SQ_makeRun_128 : decode b_SQ_makeRun 128 = .ok (.iinc 8 1, 3) := by decide +kernel
theorem d_SQ_makeRun_131 : decode b_SQ_makeRun 131 = .ok (.goto (-25), 3) := by decide +kernel
theorem d_SQ_makeRun_134 : decode b_SQ_makeRun 134 = .ok (.aload_n 0, 1) := by decide +kernel
theorem d_SQ_makeRun_135 : decode b_SQ_makeRun 135 = .ok (.getfield 12, 3) := by decide +kernel
theorem d_SQ_makeRun_138 : decode b_SQ_makeRun 138 = .ok (.aload_n 0, 1) := by decide +kernel
theorem d_SQ_makeRun_139 : decode b_SQ_makeRun 139 = .ok (.getfield 49, 3) := by decide +kernel
theorem d_SQ_makeRun_142 : decode b_SQ_makeRun 142 = .ok (.iload 6, 2) := by decide +kernel
theorem d_SQ_makeRun_144 : decode b_SQ_makeRun 144 = .ok (.iaload, 1) := by decide +kernel
theorem d_SQ_makeRun_145 : decode b_SQ_makeRun 145 = .ok (.invokevirtual 268, 3) := by decide +kernel
theorem d_SQ_makeRun_148 : decode b_SQ_makeRun 148 = .ok (.ifCond .ne 10, 3) := by decide +kernel
theorem d_SQ_makeRun_151 : decode b_SQ_makeRun 151 = .ok (.aload_n 0, 1) := by decide +kernel
theorem d_SQ_makeRun_152 : decode b_SQ_makeRun 152 = .ok (.invokevirtual 66, 3) := by decide +kernel
theorem d_SQ_makeRun_155 : decode b_SQ_makeRun 155 = .ok (.bipush (-9), 2) := by decide +kernel
theorem d_SQ_makeRun_157 : decode b_SQ_makeRun 157 = .ok (.ireturn, 1) := by decide +kernel
theorem d_SQ_makeRun_158 : decode b_SQ_makeRun 158 = .ok (.iinc 6 1, 3) := by decide +kernel
theorem d_SQ_makeRun_161 : decode b_SQ_makeRun 161 = .ok (.goto (-116), 3) := by decide +kernel
theorem d_SQ_makeRun_164 : decode b_SQ_makeRun 164 = .ok (.aload_n 0, 1) := by decide +kernel
theorem d_SQ_makeRun_165 : decode b_SQ_makeRun 165 = .ok (.getfield 28, 3) := by decide +kernel
theorem d_SQ_makeRun_168 : decode b_SQ_makeRun 168 = .ok (.invokevirtual 125, 3) := by decide +kernel
theorem d_SQ_makeRun_171 : decode b_SQ_makeRun 171 = .ok (.aload_n 0, 1) := by decide +kernel
theorem d_SQ_makeRun_172 : decode b_SQ_makeRun 172 = .ok (.getfield 28, 3) := by decide +kernel
theorem d_SQ_makeRun_175 : decode b_SQ_makeRun 175 = .ok (.aload_n 0, 1) := by decide +kernel
theorem d_SQ_makeRun_176 : decode b_SQ_makeRun 176 = .ok (.getfield 49, 3) := by decide +kernel
theorem d_SQ_makeRun_179 : decode b_SQ_makeRun 179 = .ok (.iconst 0, 1) := by decide +kernel
theorem d_SQ_makeRun_180 : decode b_SQ_makeRun 180 = .ok (.iaload, 1) := by decide +kernel
theorem d_SQ_makeRun_181 : decode b_SQ_makeRun 181 = .ok (.iconst 0, 1) := by decide +kernel
theorem d_SQ_makeRun_182 : decode b_SQ_makeRun 182 = .ok (.iload_n 3, 1) := by decide +kernel
theorem d_SQ_makeRun_183 : decode b_SQ_makeRun 183 = .ok (.iload_n 2, 1) := by decide +kernel
theorem d_SQ_makeRun_184 : decode b_SQ_makeRun 184 = .ok (.invokevirtual 271, 3) := by decide +kernel
theorem d_SQ_makeRun_187 : decode b_SQ_makeRun 187 = .ok (.iconst 0, 1) := by decide +kernel
theorem d_SQ_makeRun_188 : decode b_SQ_makeRun 188 = .ok (.ireturn, 1) := by decide +kernel
theorem d_SQ_gatherFree_0 : decode b_SQ_gatherFree 0 = .ok (.aload_n 0, 1) := by decide +kernel
theorem d_SQ_gatherFree_1 : decode b_SQ_gatherFree 1 = .ok (.getfield 46, 3) := by decide +kernel
theorem d_SQ_gatherFree_4 : decode b_SQ_gatherFree 4 = .ok (.aload_n 0, 1) := by decide +kernel
theorem d_SQ_gatherFree_5 : decode b_SQ_gatherFree 5 = .ok (.getfield 42, 3) := by decide +kernel
theorem d_SQ_gatherFree_8 : decode b_SQ_gatherFree 8 = .ok (.invokevirtual 274, 3) := by decide +kernel
theorem d_SQ_gatherFree_11 : decode b_SQ_gatherFree 11 = .ok (.aload_n 0, 1) := by decide +kernel
theorem d_SQ_gatherFree_12 : decode b_SQ_gatherFree 12 = .ok (.getfield 28, 3) := by decide +kernel
theorem d_SQ_gatherFree_15 : decode b_SQ_gatherFree 15 = .ok (.aload_n 0, 1) := by decide +kernel
theorem d_SQ_gatherFree_16 : decode b_SQ_gatherFree 16 = .ok (.getfield 46, 3) := by decide +kernel
theorem d_SQ_gatherFree_19 : decode b_SQ_gatherFree 19 = .ok (.invokevirtual 152, 3) := by decide +kernel
theorem d_SQ_gatherFree_22 : decode b_SQ_gatherFree 22 = .ok (.iconst 0, 1) := by decide +kernel
theorem d_SQ_gatherFree_23 : decode b_SQ_gatherFree 23 = .ok (.istore_n 1, 1) := by decide +kernel
theorem d_SQ_gatherFree_24 : decode b_SQ_gatherFree 24 = .ok (.iconst 2, 1) := by decide +kernel
theorem d_SQ_gatherFree_25 : decode b_SQ_gatherFree 25 = .ok (.istore_n 2, 1) := by decide +kernel
theorem d_SQ_gatherFree_26 : decode b_SQ_gatherFree 26 = .ok (.iload_n 2, 1) := by decide +kernel
theorem d_SQ_gatherFree_27 : decode b_SQ_gatherFree 27 = .ok (.aload_n 0, 1) := by decide +kernel
theorem d_SQ_gatherFree_28 : decode b_SQ_gatherFree 28 = .ok (.getfield 12, 3) := by decide +kernel
theorem d_SQ_gatherFree_31 : decode b_SQ_gatherFree 31 = .ok (.getfield 216, 3) := by decide +kernel
theorem d_SQ_gatherFree_34 : decode b_SQ_gatherFree 34 = .ok (.if_icmp .ge 39, 3) := by decide +kernel
theorem d_SQ_gatherFree_37 : decode b_SQ_gatherFree 37 = .ok (.iload_n 1, 1) := by decide +kernel
theorem d_SQ_gatherFree_38 : decode b_SQ_gatherFree 38 = .ok (.aload_n 0, 1) := by decide +kernel
theorem d_SQ_gatherFree_39 : decode b_SQ_gatherFree 39 = .ok (.getfield 49, 3) := by decide +kernel
theorem d_SQ_gatherFree_42 : decode b_SQ_gatherFree 42 = .ok (.arraylength, 1) := by decide +kernel
theorem d_SQ_gatherFree_43 : decode b_SQ_gatherFree 43 = .ok (.if_icmp .ge 30, 3) := by decide +kernel
theorem d_SQ_gatherFree_46 : decode b_SQ_gatherFree 46 = .ok (.aload_n 0, 1) := by decide +kernel
theorem d_SQ_gatherFree_47 : decode b_SQ_gatherFree 47 = .ok (.getfield 46, 3) := by decide +kernel
theorem d_SQ_gatherFree_50 : decode b_SQ_gatherFree 50 = .ok (.iload_n 2, 1) := by decide +kernel
theorem d_SQ_gatherFree_51 : decode b_SQ_gatherFree 51 = .ok (.invokevirtual 277, 3) := by decide +kernel
theorem d_SQ_gatherFree_54 : decode b_SQ_gatherFree 54 = .ok (.ifCond .ne 13, 3) := by decide +kernel
theorem d_SQ_gatherFree_57 : decode b_SQ_gatherFree 57 = .ok (.aload_n 0, 1) := by decide +kernel
theorem d_SQ_gatherFree_58 : decode b_SQ_gatherFree 58 = .ok (.getfield 49, 3) := by decide +kernel
theorem d_SQ_gatherFree_61 : decode b_SQ_gatherFree 61 = .ok (.iload_n 1, 1) := by decide +kernel
theorem d_SQ_gatherFree_62 : decode b_SQ_gatherFree 62 = .ok (.iload_n 2, 1) := by decide +kernel
theorem d_SQ_gatherFree_63 : decode b_SQ_gatherFree 63 = .ok (.iastore, 1) := by decide +kernel
theorem d_SQ_gatherFree_64 : decode b_SQ_gatherFree 64 = .ok (.iinc 1 1, 3) := by decide +kernel
theorem d_SQ_gatherFree_67 : decode b_SQ_gatherFree 67 = .ok (.iinc 2 1, 3) := by decide +kernel
theorem d_SQ_gatherFree_70 : decode b_SQ_gatherFree 70 = .ok (.goto (-44), 3) := by decide +kernel
theorem d_SQ_gatherFree_73 : decode b_SQ_gatherFree 73 = .ok (.iload_n 1, 1) := by decide +kernel
theorem d_SQ_gatherFree_74 : decode b_SQ_gatherFree 74 = .ok (.ireturn, 1) := by decide +kernel
theorem d_SQ_writeNextEpoch_0 : decode b_SQ_writeNextEpoch 0 = .ok (.aload_n 0, 1) := by decide +kernel
theorem d_SQ_writeNextEpoch_1 : decode b_SQ_writeNextEpoch 1 = .ok (.dup, 1) := by decide +kernel
theorem d_SQ_writeNextEpoch_2 : decode b_SQ_writeNextEpoch 2 = .ok (.getfield 149, 3) := by decide +kernel
theorem d_SQ_writeNextEpoch_5 : decode b_SQ_writeNextEpoch 5 = .ok (.iconst 1, 1) := by decide +kernel
theorem d_SQ_writeNextEpoch_6 : decode b_SQ_writeNextEpoch 6 = .ok (.iadd, 1) := by decide +kernel
theorem d_SQ_writeNextEpoch_7 : decode b_SQ_writeNextEpoch 7 = .ok (.putfield 149, 3) := by decide +kernel
theorem d_SQ_writeNextEpoch_10 : decode b_SQ_writeNextEpoch 10 = .ok (.aload_n 0, 1) := by decide +kernel
theorem d_SQ_writeNextEpoch_11 : decode b_SQ_writeNextEpoch 11 = .ok (.getfield 35, 3) := by decide +kernel
theorem d_SQ_writeNextEpoch_14 : decode b_SQ_writeNextEpoch 14 = .ok (.aload_n 0, 1) := by decide +kernel
theorem d_SQ_writeNextEpoch_15 : decode b_SQ_writeNextEpoch 15 = .ok (.getfield 149, 3) := by decide +kernel
theorem d_SQ_writeNextEpoch_18 : decode b_SQ_writeNextEpoch 18 = .ok (.aload_n 0, 1) := by decide +kernel
theorem d_SQ_writeNextEpoch_19 : decode b_SQ_writeNextEpoch 19 = .ok (.getfield 28, 3) := by decide +kernel
theorem d_SQ_writeNextEpoch_22 : decode b_SQ_writeNextEpoch 22 = .ok (.invokevirtual 278, 3) := by decide +kernel
theorem d_SQ_writeNextEpoch_25 : decode b_SQ_writeNextEpoch 25 = .ok (.ifCond .ne 10, 3) := by decide +kernel
theorem d_SQ_writeNextEpoch_28 : decode b_SQ_writeNextEpoch 28 = .ok (.aload_n 0, 1) := by decide +kernel
theorem d_SQ_writeNextEpoch_29 : decode b_SQ_writeNextEpoch 29 = .ok (.invokevirtual 66, 3) := by decide +kernel
theorem d_SQ_writeNextEpoch_32 : decode b_SQ_writeNextEpoch 32 = .ok (.bipush (-9), 2) := by decide +kernel
theorem d_SQ_writeNextEpoch_34 : decode b_SQ_writeNextEpoch 34 = .ok (.ireturn, 1) := by decide +kernel
theorem d_SQ_writeNextEpoch_35 : decode b_SQ_writeNextEpoch 35 = .ok (.aload_n 0, 1) := by decide +kernel
theorem d_SQ_writeNextEpoch_36 : decode b_SQ_writeNextEpoch 36 = .ok (.getfield 42, 3) := by decide +kernel
theorem d_SQ_writeNextEpoch_39 : decode b_SQ_writeNextEpoch 39 = .ok (.invokevirtual 230, 3) := by decide +kernel
theorem d_SQ_writeNextEpoch_42 : decode b_SQ_writeNextEpoch 42 = .ok (.aload_n 0, 1) := by decide +kernel
theorem d_SQ_writeNextEpoch_43 : decode b_SQ_writeNextEpoch 43 = .ok (.getfield 28, 3) := by decide +kernel
theorem d_SQ_writeNextEpoch_46 : decode b_SQ_writeNextEpoch 46 = .ok (.aload_n 0, 1) := by decide +kernel
theorem d_SQ_writeNextEpoch_47 : decode b_SQ_writeNextEpoch 47 = .ok (.getfield 42, 3) := by decide +kernel
theorem d_SQ_writeNextEpoch_50 : decode b_SQ_writeNextEpoch 50 = .ok (.invokevirtual 152, 3) := by decide +kernel
theorem d_SQ_writeNextEpoch_53 : decode b_SQ_writeNextEpoch 53 = .ok (.iconst 0, 1) := by decide +kernel
theorem d_SQ_writeNextEpoch_54 : decode b_SQ_writeNextEpoch 54 = .ok (.ireturn, 1) := by decide +kernel
theorem d_AR_fill_0 : decode b_AR_fill 0 = .ok (.iconst 0, 1) := by decide +kernel
theorem d_AR_fill_1 : decode b_AR_fill 1 = .ok (.istore_n 2, 1) := by decide +kernel
theorem d_AR_fill_2 : decode b_AR_fill 2 = .ok (.aload_n 0, 1) := by decide +kernel
theorem d_AR_fill_3 : decode b_AR_fill 3 = .ok (.arraylength, 1) := by decide +kernel
theorem d_AR_fill_4 : decode b_AR_fill 4 = .ok (.istore_n 3, 1) := by decide +kernel
theorem d_AR_fill_5 : decode b_AR_fill 5 = .ok (.iload_n 2, 1) := by decide +kernel
theorem d_AR_fill_6 : decode b_AR_fill 6 = .ok (.iload_n 3, 1) := by decide +kernel
theorem d_AR_fill_7 : decode b_AR_fill 7 = .ok (.if_icmp .ge 13, 3) := by decide +kernel
theorem d_AR_fill_10 : decode b_AR_fill 10 = .ok (.aload_n 0, 1) := by decide +kernel
theorem d_AR_fill_11 : decode b_AR_fill 11 = .ok (.iload_n 2, 1) := by decide +kernel
theorem d_AR_fill_12 : decode b_AR_fill 12 = .ok (.iload_n 1, 1) := by decide +kernel
theorem d_AR_fill_13 : decode b_AR_fill 13 = .ok (.iastore, 1) := by decide +kernel
theorem d_AR_fill_14 : decode b_AR_fill 14 = .ok (.iinc 2 1, 3) := by decide +kernel
theorem d_AR_fill_17 : decode b_AR_fill 17 = .ok (.goto (-12), 3) := by decide +kernel
theorem d_AR_fill_20 : decode b_AR_fill 20 = .ok (.return_, 1) := by decide +kernel
