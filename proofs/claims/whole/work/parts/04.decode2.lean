theorem d_SB_isChainRight_75 : decode b_SB_isChainRight 75 = .ok (.iload 7, 2) := by decide +kernel
theorem d_SB_isChainRight_77 : decode b_SB_isChainRight 77 = .ok (.invokevirtual 104, 3) := by decide +kernel
theorem d_SB_isChainRight_80 : decode b_SB_isChainRight 80 = .ok (.istore 7, 2) := by decide +kernel
theorem d_SB_isChainRight_82 : decode b_SB_isChainRight 82 = .ok (.iload 7, 2) := by decide +kernel
theorem d_SB_isChainRight_84 : decode b_SB_isChainRight 84 = .ok (.ifCond .ge 5, 3) := by decide +kernel
theorem d_SB_isChainRight_87 : decode b_SB_isChainRight 87 = .ok (.iconst 0, 1) := by decide +kernel
theorem d_SB_isChainRight_88 : decode b_SB_isChainRight 88 = .ok (.ireturn, 1) := by decide +kernel
theorem d_SB_isChainRight_89 : decode b_SB_isChainRight 89 = .ok (.aload_n 0, 1) := by decide +kernel
theorem d_SB_isChainRight_90 : decode b_SB_isChainRight 90 = .ok (.getfield 18, 3) := by decide +kernel
theorem d_SB_isChainRight_93 : decode b_SB_isChainRight 93 = .ok (.iload 6, 2) := by decide +kernel
theorem d_SB_isChainRight_95 : decode b_SB_isChainRight 95 = .ok (.iconst 1, 1) := by decide +kernel
theorem d_SB_isChainRight_96 : decode b_SB_isChainRight 96 = .ok (.invokevirtual 54, 3) := by decide +kernel
theorem d_SB_isChainRight_99 : decode b_SB_isChainRight 99 = .ok (.istore 6, 2) := by decide +kernel
theorem d_SB_isChainRight_101 : decode b_SB_isChainRight 101 = .ok (.iinc 8 1, 3) := by decide +kernel
theorem d_SB_isChainRight_104 : decode b_SB_isChainRight 104 = .ok (.goto (-76), 3) := by decide +kernel
theorem d_SB_isChainRight_107 : decode b_SB_isChainRight 107 = .ok (.iload 6, 2) := by decide +kernel
theorem d_SB_isChainRight_109 : decode b_SB_isChainRight 109 = .ok (.ifCond .ne 7, 3) := by decide +kernel
theorem d_SB_isChainRight_112 : decode b_SB_isChainRight 112 = .ok (.iconst 1, 1) := by decide +kernel
theorem d_SB_isChainRight_113 : decode b_SB_isChainRight 113 = .ok (.goto 4, 3) := by decide +kernel
theorem d_SB_isChainRight_116 : decode b_SB_isChainRight 116 = .ok (.iconst 0, 1) := by decide +kernel
theorem d_SB_isChainRight_117 : decode b_SB_isChainRight 117 = .ok (.ireturn, 1) := by decide +kernel
theorem d_SB_isNewRightBlock_0 : decode b_SB_isNewRightBlock 0 = .ok (.iload_n 1, 1) := by decide +kernel
theorem d_SB_isNewRightBlock_1 : decode b_SB_isNewRightBlock 1 = .ok (.iconst 2, 1) := by decide +kernel
theorem d_SB_isNewRightBlock_2 : decode b_SB_isNewRightBlock 2 = .ok (.if_icmp .lt 25, 3) := by decide +kernel
theorem d_SB_isNewRightBlock_5 : decode b_SB_isNewRightBlock 5 = .ok (.iload_n 1, 1) := by decide +kernel
theorem d_SB_isNewRightBlock_6 : decode b_SB_isNewRightBlock 6 = .ok (.aload_n 0, 1) := by decide +kernel
theorem d_SB_isNewRightBlock_7 : decode b_SB_isNewRightBlock 7 = .ok (.getfield 18, 3) := by decide +kernel
theorem d_SB_isNewRightBlock_10 : decode b_SB_isNewRightBlock 10 = .ok (.getfield 91, 3) := by decide +kernel
theorem d_SB_isNewRightBlock_13 : decode b_SB_isNewRightBlock 13 = .ok (.if_icmp .ge 14, 3) := by decide +kernel
theorem d_SB_isNewRightBlock_16 : decode b_SB_isNewRightBlock 16 = .ok (.aload_n 0, 1) := by decide +kernel
theorem d_SB_isNewRightBlock_17 : decode b_SB_isNewRightBlock 17 = .ok (.getfield 12, 3) := by decide +kernel
theorem d_SB_isNewRightBlock_20 : decode b_SB_isNewRightBlock 20 = .ok (.iload_n 1, 1) := by decide +kernel
theorem d_SB_isNewRightBlock_21 : decode b_SB_isNewRightBlock 21 = .ok (.invokevirtual 108, 3) := by decide +kernel
theorem d_SB_isNewRightBlock_24 : decode b_SB_isNewRightBlock 24 = .ok (.ifCond .eq 5, 3) := by decide +kernel
theorem d_SB_isNewRightBlock_27 : decode b_SB_isNewRightBlock 27 = .ok (.iconst 0, 1) := by decide +kernel
theorem d_SB_isNewRightBlock_28 : decode b_SB_isNewRightBlock 28 = .ok (.ireturn, 1) := by decide +kernel
theorem d_SB_isNewRightBlock_29 : decode b_SB_isNewRightBlock 29 = .ok (.aload_n 0, 1) := by decide +kernel
theorem d_SB_isNewRightBlock_30 : decode b_SB_isNewRightBlock 30 = .ok (.getfield 12, 3) := by decide +kernel
theorem d_SB_isNewRightBlock_33 : decode b_SB_isNewRightBlock 33 = .ok (.iload_n 1, 1) := by decide +kernel
theorem d_SB_isNewRightBlock_34 : decode b_SB_isNewRightBlock 34 = .ok (.invokevirtual 111, 3) := by decide +kernel
theorem d_SB_isNewRightBlock_37 : decode b_SB_isNewRightBlock 37 = .ok (.aload_n 0, 1) := by decide +kernel
theorem d_SB_isNewRightBlock_38 : decode b_SB_isNewRightBlock 38 = .ok (.getfield 18, 3) := by decide +kernel
theorem d_SB_isNewRightBlock_41 : decode b_SB_isNewRightBlock 41 = .ok (.iload_n 1, 1) := by decide +kernel
theorem d_SB_isNewRightBlock_42 : decode b_SB_isNewRightBlock 42 = .ok (.iconst 0, 1) := by decide +kernel
theorem d_SB_isNewRightBlock_43 : decode b_SB_isNewRightBlock 43 = .ok (.invokevirtual 54, 3) := by decide +kernel
theorem d_SB_isNewRightBlock_46 : decode b_SB_isNewRightBlock 46 = .ok (.aload_n 0, 1) := by decide +kernel
theorem d_SB_isNewRightBlock_47 : decode b_SB_isNewRightBlock 47 = .ok (.getfield 18, 3) := by decide +kernel
theorem d_SB_isNewRightBlock_50 : decode b_SB_isNewRightBlock 50 = .ok (.iload_n 1, 1) := by decide +kernel
theorem d_SB_isNewRightBlock_51 : decode b_SB_isNewRightBlock 51 = .ok (.invokevirtual 74, 3) := by decide +kernel
theorem d_SB_isNewRightBlock_54 : decode b_SB_isNewRightBlock 54 = .ok (.if_icmp .ne 7, 3) := by decide +kernel
theorem d_SB_isNewRightBlock_57 : decode b_SB_isNewRightBlock 57 = .ok (.iconst 1, 1) := by decide +kernel
theorem d_SB_isNewRightBlock_58 : decode b_SB_isNewRightBlock 58 = .ok (.goto 4, 3) := by decide +kernel
theorem d_SB_isNewRightBlock_61 : decode b_SB_isNewRightBlock 61 = .ok (.iconst 0, 1) := by decide +kernel
theorem d_SB_isNewRightBlock_62 : decode b_SB_isNewRightBlock 62 = .ok (.ireturn, 1) := by decide +kernel
theorem d_SB_lastOfRising_0 : decode b_SB_lastOfRising 0 = .ok (.iload 4, 2) := by decide +kernel
theorem d_SB_lastOfRising_2 : decode b_SB_lastOfRising 2 = .ok (.istore 5, 2) := by decide +kernel
theorem d_SB_lastOfRising_4 : decode b_SB_lastOfRising 4 = .ok (.iload_n 2, 1) := by decide +kernel
theorem d_SB_lastOfRising_5 : decode b_SB_lastOfRising 5 = .ok (.istore 6, 2) := by decide +kernel
theorem d_SB_lastOfRising_7 : decode b_SB_lastOfRising 7 = .ok (.iload 6, 2) := by decide +kernel
theorem d_SB_lastOfRising_9 : decode b_SB_lastOfRising 9 = .ok (.iload_n 3, 1) := by decide +kernel
theorem d_SB_lastOfRising_10 : decode b_SB_lastOfRising 10 = .ok (.if_icmp .ge 36, 3) := by decide +kernel
theorem d_SB_lastOfRising_13 : decode b_SB_lastOfRising 13 = .ok (.aload_n 0, 1) := by decide +kernel
theorem d_SB_lastOfRising_14 : decode b_SB_lastOfRising 14 = .ok (.getfield 18, 3) := by decide +kernel
theorem d_SB_lastOfRising_17 : decode b_SB_lastOfRising 17 = .ok (.iload_n 1, 1) := by decide +kernel
theorem d_SB_lastOfRising_18 : decode b_SB_lastOfRising 18 = .ok (.iconst 2, 1) := by decide +kernel
theorem d_SB_lastOfRising_19 : decode b_SB_lastOfRising 19 = .ok (.iload 6, 2) := by decide +kernel
theorem d_SB_lastOfRising_21 : decode b_SB_lastOfRising 21 = .ok (.iadd, 1) := by decide +kernel
theorem d_SB_lastOfRising_22 : decode b_SB_lastOfRising 22 = .ok (.invokevirtual 54, 3) := by decide +kernel
theorem d_SB_lastOfRising_25 : decode b_SB_lastOfRising 25 = .ok (.istore 7, 2) := by decide +kernel
theorem d_SB_lastOfRising_27 : decode b_SB_lastOfRising 27 = .ok (.iload 7, 2) := by decide +kernel
theorem d_SB_lastOfRising_29 : decode b_SB_lastOfRising 29 = .ok (.iload 5, 2) := by decide +kernel
theorem d_SB_lastOfRising_31 : decode b_SB_lastOfRising 31 = .ok (.if_icmp .ge 5, 3) := by decide +kernel
theorem d_SB_lastOfRising_34 : decode b_SB_lastOfRising 34 = .ok (.iconst (-1), 1) := by decide +kernel
theorem d_SB_lastOfRising_35 : decode b_SB_lastOfRising 35 = .ok (.ireturn, 1) := by decide +kernel
theorem d_SB_lastOfRising_36 : decode b_SB_lastOfRising 36 = .ok (.iload 7, 2) := by decide +kernel
theorem d_SB_lastOfRising_38 : decode b_SB_lastOfRising 38 = .ok (.istore 5, 2) := by decide +kernel
theorem d_SB_lastOfRising_40 : decode b_SB_lastOfRising 40 = .ok (.iinc 6 1, 3) := by decide +kernel
theorem d_SB_lastOfRising_43 : decode b_SB_lastOfRising 43 = .ok (.goto (-36), 3) := by decide +kernel
theorem d_SB_lastOfRising_46 : decode b_SB_lastOfRising 46 = .ok (.iload 5, 2) := by decide +kernel
theorem d_SB_lastOfRising_48 : decode b_SB_lastOfRising 48 = .ok (.ireturn, 1) := by decide +kernel
theorem d_SQ_init_0 : decode b_SQ_init 0 = .ok (.aload_n 0, 1) := by decide +kernel
theorem d_SQ_init_1 : decode b_SQ_init 1 = .ok (.invokespecial 3, 3) := by decide +kernel
theorem d_SQ_init_4 : decode b_SQ_init 4 = .ok (.aload_n 0, 1) := by decide +kernel
theorem d_SQ_init_5 : decode b_SQ_init 5 = .ok (.new 9, 3) := by decide +kernel
theorem d_SQ_init_8 : decode b_SQ_init 8 = .ok (.dup, 1) := by decide +kernel
theorem d_SQ_init_9 : decode b_SQ_init 9 = .ok (.invokespecial 11, 3) := by decide +kernel
theorem d_SQ_init_12 : decode b_SQ_init 12 = .ok (.putfield 12, 3) := by decide +kernel
theorem d_SQ_init_15 : decode b_SQ_init 15 = .ok (.aload_n 0, 1) := by decide +kernel
theorem d_SQ_init_16 : decode b_SQ_init 16 = .ok (.new 16, 3) := by decide +kernel
theorem d_SQ_init_19 : decode b_SQ_init 19 = .ok (.dup, 1) := by decide +kernel
theorem d_SQ_init_20 : decode b_SQ_init 20 = .ok (.invokespecial 18, 3) := by decide +kernel
theorem d_SQ_init_23 : decode b_SQ_init 23 = .ok (.putfield 19, 3) := by decide +kernel
theorem d_SQ_init_26 : decode b_SQ_init 26 = .ok (.aload_n 0, 1) := by decide +kernel
theorem d_SQ_init_27 : decode b_SQ_init 27 = .ok (.new 23, 3) := by decide +kernel
theorem d_SQ_init_30 : decode b_SQ_init 30 = .ok (.dup, 1) := by decide +kernel
theorem d_SQ_init_31 : decode b_SQ_init 31 = .ok (.aload_n 0, 1) := by decide +kernel
theorem d_SQ_init_32 : decode b_SQ_init 32 = .ok (.getfield 12, 3) := by decide +kernel
theorem d_SQ_init_35 : decode b_SQ_init 35 = .ok (.invokespecial 25, 3) := by decide +kernel
theorem d_SQ_init_38 : decode b_SQ_init 38 = .ok (.putfield 28, 3) := by decide +kernel
theorem d_SQ_init_41 : decode b_SQ_init 41 = .ok (.aload_n 0, 1) := by decide +kernel
theorem d_SQ_init_42 : decode b_SQ_init 42 = .ok (.new 32, 3) := by decide +kernel
theorem d_SQ_init_45 : decode b_SQ_init 45 = .ok (.dup, 1) := by decide +kernel
theorem d_SQ_init_46 : decode b_SQ_init 46 = .ok (.aload_n 0, 1) := by decide +kernel
theorem d_SQ_init_47 : decode b_SQ_init 47 = .ok (.getfield 12, 3) := by decide +kernel
theorem d_SQ_init_50 : decode b_SQ_init 50 = .ok (.invokespecial 34, 3) := by decide +kernel
theorem d_SQ_init_53 : decode b_SQ_init 53 = .ok (.putfield 35, 3) := by decide +kernel
theorem d_SQ_init_56 : decode b_SQ_init 56 = .ok (.aload_n 0, 1) := by decide +kernel
theorem d_SQ_init_57 : decode b_SQ_init 57 = .ok (.new 39, 3) := by decide +kernel
theorem d_SQ_init_60 : decode b_SQ_init 60 = .ok (.dup, 1) := by decide +kernel
theorem d_SQ_init_61 : decode b_SQ_init 61 = .ok (.invokespecial 41, 3) := by decide +kernel
theorem d_SQ_init_64 : decode b_SQ_init 64 = .ok (.putfield 42, 3) := by decide +kernel
theorem d_SQ_init_67 : decode b_SQ_init 67 = .ok (.aload_n 0, 1) := by decide +kernel
theorem d_SQ_init_68 : decode b_SQ_init 68 = .ok (.new 39, 3) := by decide +kernel
theorem d_SQ_init_71 : decode b_SQ_init 71 = .ok (.dup, 1) := by decide +kernel
theorem d_SQ_init_72 : decode b_SQ_init 72 = .ok (.invokespecial 41, 3) := by decide +kernel
theorem d_SQ_init_75 : decode b_SQ_init 75 = .ok (.putfield 46, 3) := by decide +kernel
theorem d_SQ_init_78 : decode b_SQ_init 78 = .ok (.aload_n 0, 1) := by decide +kernel
theorem d_SQ_init_79 : decode b_SQ_init 79 = .ok (.sipush 200, 3) := by decide +kernel
theorem d_SQ_init_82 : decode b_SQ_init 82 = .ok (.newarray .int, 2) := by decide +kernel
theorem d_SQ_init_84 : decode b_SQ_init 84 = .ok (.putfield 49, 3) := by decide +kernel
theorem d_SQ_init_87 : decode b_SQ_init 87 = .ok (.return_, 1) := by decide +kernel
theorem d_SQ_format_0 : decode b_SQ_format 0 = .ok (.iload_n 1, 1) := by decide +kernel
theorem d_SQ_format_1 : decode b_SQ_format 1 = .ok (.iconst 4, 1) := by decide +kernel
theorem d_SQ_format_2 : decode b_SQ_format 2 = .ok (.if_icmp .lt 10, 3) := by decide +kernel
theorem d_SQ_format_5 : decode b_SQ_format 5 = .ok (.iload_n 1, 1) := by decide +kernel
theorem d_SQ_format_6 : decode b_SQ_format 6 = .ok (.sipush 200, 3) := by decide +kernel
theorem d_SQ_format_9 : decode b_SQ_format 9 = .ok (.if_icmp .le 13, 3) := by decide +kernel
theorem d_SQ_format_12 : decode b_SQ_format 12 = .ok (.new 53, 3) := by decide +kernel
theorem d_SQ_format_15 : decode b_SQ_format 15 = .ok (.dup, 1) := by decide +kernel
theorem d_SQ_format_16 : decode b_SQ_format 16 = .ok (.ldc 55, 2) := by decide +kernel
theorem d_SQ_format_18 : decode b_SQ_format 18 = .ok (.invokespecial 57, 3) := by decide +kernel
theorem d_SQ_format_21 : decode b_SQ_format 21 = .ok (.athrow, 1) := by decide +kernel
theorem d_SQ_format_22 : decode b_SQ_format 22 = .ok (.iload_n 2, 1) := by decide +kernel
theorem d_SQ_format_23 : decode b_SQ_format 23 = .ok (.bipush 11, 2) := by decide +kernel
theorem d_SQ_format_25 : decode b_SQ_format 25 = .ok (.if_icmp .lt 9, 3) := by decide +kernel
theorem d_SQ_format_28 : decode b_SQ_format 28 = .ok (.iload_n 2, 1) := by decide +kernel
theorem d_SQ_format_29 : decode b_SQ_format 29 = .ok (.bipush 40, 2) := by decide +kernel
theorem d_SQ_format_31 : decode b_SQ_format 31 = .ok (.if_icmp .le 13, 3) := by decide +kernel
theorem d_SQ_format_34 : decode b_SQ_format 34 = .ok (.new 53, 3) := by decide +kernel
theorem d_SQ_format_37 : decode b_SQ_format 37 = .ok (.dup, 1) := by decide +kernel
theorem d_SQ_format_38 : decode b_SQ_format 38 = .ok (.ldc 60, 2) := by decide +kernel
theorem d_SQ_format_40 : decode b_SQ_format 40 = .ok (.invokespecial 57, 3) := by decide +kernel
theorem d_SQ_format_43 : decode b_SQ_format 43 = .ok (.athrow, 1) := by decide +kernel
theorem d_SQ_format_44 : decode b_SQ_format 44 = .ok (.iload_n 3, 1) := by decide +kernel
theorem d_SQ_format_45 : decode b_SQ_format 45 = .ok (.iconst 1, 1) := by decide +kernel
theorem d_SQ_format_46 : decode b_SQ_format 46 = .ok (.if_icmp .lt 9, 3) := by decide +kernel
theorem d_SQ_format_49 : decode b_SQ_format 49 = .ok (.iload_n 3, 1) := by decide +kernel
theorem d_SQ_format_50 : decode b_SQ_format 50 = .ok (.bipush 100, 2) := by decide +kernel
theorem d_SQ_format_52 : decode b_SQ_format 52 = .ok (.if_icmp .le 13, 3) := by decide +kernel
theorem d_SQ_format_55 : decode b_SQ_format 55 = .ok (.new 53, 3) := by decide +kernel
theorem d_SQ_format_58 : decode b_SQ_format 58 = .ok (.dup, 1) := by decide +kernel
theorem d_SQ_format_59 : decode b_SQ_format 59 = .ok (.ldc 62, 2) := by decide +kernel
theorem d_SQ_format_61 : decode b_SQ_format 61 = .ok (.invokespecial 57, 3) := by decide +kernel
theorem d_SQ_format_64 : decode b_SQ_format 64 = .ok (.athrow, 1) := by decide +kernel
theorem d_SQ_format_65 : decode b_SQ_format 65 = .ok (.iload 4, 2) := by decide +kernel
theorem d_SQ_format_67 : decode b_SQ_format 67 = .ok (.iconst 2, 1) := by decide +kernel
theorem d_SQ_format_68 : decode b_SQ_format 68 = .ok (.if_icmp .lt 9, 3) := by decide +kernel
theorem d_SQ_format_71 : decode b_SQ_format 71 = .ok (.iload 4, 2) := by decide +kernel
theorem d_SQ_format_73 : decode b_SQ_format 73 = .ok (.iconst 5, 1) := by decide +kernel
theorem d_SQ_format_74 : decode b_SQ_format 74 = .ok (.if_icmp .le 13, 3) := by decide +kernel
theorem d_SQ_format_77 : decode b_SQ_format 77 = .ok (.new 53, 3) := by decide +kernel
theorem d_SQ_format_80 : decode b_SQ_format 80 = .ok (.dup, 1) := by decide +kernel
theorem d_SQ_format_81 : decode b_SQ_format 81 = .ok (.ldc 64, 2) := by decide +kernel
theorem d_SQ_format_83 : decode b_SQ_format 83 = .ok (.invokespecial 57, 3) := by decide +kernel
theorem d_SQ_format_86 : decode b_SQ_format 86 = .ok (.athrow, 1) := by decide +kernel
theorem d_SQ_format_87 : decode b_SQ_format 87 = .ok (.aload_n 0, 1) := by decide +kernel
theorem d_SQ_format_88 : decode b_SQ_format 88 = .ok (.invokevirtual 66, 3) := by decide +kernel
theorem d_SQ_format_91 : decode b_SQ_format 91 = .ok (.aload_n 0, 1) := by decide +kernel
theorem d_SQ_format_92 : decode b_SQ_format 92 = .ok (.getfield 12, 3) := by decide +kernel
theorem d_SQ_format_95 : decode b_SQ_format 95 = .ok (.iload_n 1, 1) := by decide +kernel
theorem d_SQ_format_96 : decode b_SQ_format 96 = .ok (.iload_n 2, 1) := by decide +kernel
theorem d_SQ_format_97 : decode b_SQ_format 97 = .ok (.invokevirtual 69, 3) := by decide +kernel
theorem d_SQ_format_100 : decode b_SQ_format 100 = .ok (.aload_n 0, 1) := by decide +kernel
theorem d_SQ_format_101 : decode b_SQ_format 101 = .ok (.getfield 19, 3) := by decide +kernel
theorem d_SQ_format_104 : decode b_SQ_format 104 = .ok (.iload_n 3, 1) := by decide +kernel
theorem d_SQ_format_105 : decode b_SQ_format 105 = .ok (.putfield 73, 3) := by decide +kernel
theorem d_SQ_format_108 : decode b_SQ_format 108 = .ok (.aload_n 0, 1) := by decide +kernel
theorem d_SQ_format_109 : decode b_SQ_format 109 = .ok (.iload 4, 2) := by decide +kernel
theorem d_SQ_format_111 : decode b_SQ_format 111 = .ok (.putfield 77, 3) := by decide +kernel
theorem d_SQ_format_114 : decode b_SQ_format 114 = .ok (.aload_n 0, 1) := by decide +kernel
theorem d_SQ_format_115 : decode b_SQ_format 115 = .ok (.iconst 1, 1) := by decide +kernel
theorem d_SQ_format_116 : decode b_SQ_format 116 = .ok (.putfield 80, 3) := by decide +kernel
theorem d_SQ_format_119 : decode b_SQ_format 119 = .ok (.aload_n 0, 1) := by decide +kernel
theorem d_SQ_format_120 : decode b_SQ_format 120 = .ok (.invokevirtual 84, 3) := by decide +kernel
theorem d_SQ_format_123 : decode b_SQ_format 123 = .ok (.pop, 1) := by decide +kernel
theorem d_SQ_format_124 : decode b_SQ_format 124 = .ok (.return_, 1) := by decide +kernel
theorem d_SQ_insert_0 : decode b_SQ_insert 0 = .ok (.aload_n 0, 1) := by decide +kernel
theorem d_SQ_insert_1 : decode b_SQ_insert 1 = .ok (.invokevirtual 88, 3) := by decide +kernel
theorem d_SQ_insert_4 : decode b_SQ_insert 4 = .ok (.iload_n 1, 1) := by decide +kernel
theorem d_SQ_insert_5 : decode b_SQ_insert 5 = .ok (.ifCond .ge 13, 3) := by decide +kernel
theorem d_SQ_insert_8 : decode b_SQ_insert 8 = .ok (.new 53, 3) := by decide +kernel
theorem d_SQ_insert_11 : decode b_SQ_insert 11 = .ok (.dup, 1) := by decide +kernel
theorem d_SQ_insert_12 : decode b_SQ_insert 12 = .ok (.ldc 91, 2) := by decide +kernel
theorem d_SQ_insert_14 : decode b_SQ_insert 14 = .ok (.invokespecial 57, 3) := by decide +kernel
theorem d_SQ_insert_17 : decode b_SQ_insert 17 = .ok (.athrow, 1) := by decide +kernel
theorem d_SQ_insert_18 : decode b_SQ_insert 18 = .ok (.aload_n 0, 1) := by decide +kernel
theorem d_SQ_insert_19 : decode b_SQ_insert 19 = .ok (.getfield 19, 3) := by decide +kernel
theorem d_SQ_insert_22 : decode b_SQ_insert 22 = .ok (.invokevirtual 93, 3) := by decide +kernel
theorem d_SQ_insert_25 : decode b_SQ_insert 25 = .ok (.ifCond .eq 14, 3) := by decide +kernel
theorem d_SQ_insert_28 : decode b_SQ_insert 28 = .ok (.aload_n 0, 1) := by decide +kernel
theorem d_SQ_insert_29 : decode b_SQ_insert 29 = .ok (.invokevirtual 97, 3) := by decide +kernel
theorem d_SQ_insert_32 : decode b_SQ_insert 32 = .ok (.istore_n 2, 1) := by decide +kernel
theorem d_SQ_insert_33 : decode b_SQ_insert 33 = .ok (.iload_n 2, 1) := by decide +kernel
theorem d_SQ_insert_34 : decode b_SQ_insert 34 = .ok (.ifCond .eq 5, 3) := by decide +kernel
theorem d_SQ_insert_37 : decode b_SQ_insert 37 = .ok (.iload_n 2, 1) := by decide +kernel
theorem d_SQ_insert_38 : decode b_SQ_insert 38 = .ok (.ireturn, 1) := by decide +kernel
theorem d_SQ_insert_39 : decode b_SQ_insert 39 = .ok (.aload_n 0, 1) := by decide +kernel
theorem d_SQ_insert_40 : decode b_SQ_insert 40 = .ok (.getfield 19, 3) := by decide +kernel
theorem d_SQ_insert_43 : decode b_SQ_insert 43 = .ok (.iload_n 1, 1) := by decide +kernel
theorem d_SQ_insert_44 : decode b_SQ_insert 44 = .ok (.invokevirtual 100, 3) := by decide +kernel
theorem d_SQ_insert_47 : decode b_SQ_insert 47 = .ok (.iconst 0, 1) := by decide +kernel
theorem d_SQ_insert_48 : decode b_SQ_insert 48 = .ok (.ireturn, 1) := by decide +kernel
theorem d_SQ_min_0 : decode b_SQ_min 0 = .ok (.aload_n 0, 1) := by decide +kernel
theorem d_SQ_min_1 : decode b_SQ_min 1 = .ok (.invokevirtual 88, 3) := by decide +kernel
theorem d_SQ_min_4 : decode b_SQ_min 4 = .ok (.aload_n 0, 1) := by decide +kernel
theorem d_SQ_min_5 : decode b_SQ_min 5 = .ok (.getfield 28, 3) := by decide +kernel
theorem d_SQ_min_8 : decode b_SQ_min 8 = .ok (.iconst 0, 1) := by decide +kernel
theorem d_SQ_min_9 : decode b_SQ_min 9 = .ok (.invokevirtual 104, 3) := by decide +kernel
theorem d_SQ_min_12 : decode b_SQ_min 12 = .ok (.istore_n 1, 1) := by decide +kernel
theorem d_SQ_min_13 : decode b_SQ_min 13 = .ok (.aload_n 0, 1) := by decide +kernel
theorem d_SQ_min_14 : decode b_SQ_min 14 = .ok (.iload_n 1, 1) := by decide +kernel
theorem d_SQ_min_15 : decode b_SQ_min 15 = .ok (.invokevirtual 108, 3) := by decide +kernel
theorem d_SQ_min_18 : decode b_SQ_min 18 = .ok (.ifCond .eq 13, 3) := by decide +kernel
theorem d_SQ_min_21 : decode b_SQ_min 21 = .ok (.aload_n 0, 1) := by decide +kernel
theorem d_SQ_min_22 : decode b_SQ_min 22 = .ok (.getfield 19, 3) := by decide +kernel
theorem d_SQ_min_25 : decode b_SQ_min 25 = .ok (.invokevirtual 112, 3) := by decide +kernel
theorem d_SQ_min_28 : decode b_SQ_min 28 = .ok (.goto 11, 3) := by decide +kernel
theorem d_SQ_min_31 : decode b_SQ_min 31 = .ok (.aload_n 0, 1) := by decide +kernel
theorem d_SQ_min_32 : decode b_SQ_min 32 = .ok (.getfield 28, 3) := by decide +kernel
theorem d_SQ_min_35 : decode b_SQ_min 35 = .ok (.iload_n 1, 1) := by decide +kernel
theorem d_SQ_min_36 : decode b_SQ_min 36 = .ok (.invokevirtual 115, 3) := by decide +kernel
theorem d_SQ_min_39 : decode b_SQ_min 39 = .ok (.ireturn, 1) := by decide +kernel
theorem d_SQ_take_0 : decode b_SQ_take 0 = .ok (.aload_n 0, 1) := by decide +kernel
theorem d_SQ_take_1 : decode b_SQ_take 1 = .ok (.invokevirtual 88, 3) := by decide +kernel
theorem d_SQ_take_4 : decode b_SQ_take 4 = .ok (.aload_n 0, 1) := by decide +kernel
theorem d_SQ_take_5 : decode b_SQ_take 5 = .ok (.getfield 28, 3) := by decide +kernel
theorem d_SQ_take_8 : decode b_SQ_take 8 = .ok (.iconst 0, 1) := by decide +kernel
theorem d_SQ_take_9 : decode b_SQ_take 9 = .ok (.invokevirtual 104, 3) := by decide +kernel
theorem d_SQ_take_12 : decode b_SQ_take 12 = .ok (.istore_n 1, 1) := by decide +kernel
theorem d_SQ_take_13 : decode b_SQ_take 13 = .ok (.aload_n 0, 1) := by decide +kernel
theorem d_SQ_take_14 : decode b_SQ_take 14 = .ok (.iload_n 1, 1) := by decide +kernel
theorem d_SQ_take_15 : decode b_SQ_take 15 = .ok (.invokevirtual 108, 3) := by decide +kernel
theorem d_SQ_take_18 : decode b_SQ_take 18 = .ok (.ifCond .eq 11, 3) := by decide +kernel
theorem d_SQ_take_21 : decode b_SQ_take 21 = .ok (.aload_n 0, 1) := by decide +kernel
theorem d_SQ_take_22 : decode b_SQ_take 22 = .ok (.getfield 19, 3) := by decide +kernel
theorem d_SQ_take_25 : decode b_SQ_take 25 = .ok (.invokevirtual 119, 3) := by decide +kernel
theorem d_SQ_take_28 : decode b_SQ_take 28 = .ok (.ireturn, 1) := by decide +kernel
theorem d_SQ_take_29 : decode b_SQ_take 29 = .ok (.aload_n 0, 1) := by decide +kernel
theorem d_SQ_take_30 : decode b_SQ_take 30 = .ok (.getfield 28, 3) := by decide +kernel
theorem d_SQ_take_33 : decode b_SQ_take 33 = .ok (.iload_n 1, 1) := by decide +kernel
theorem d_SQ_take_34 : decode b_SQ_take 34 = .ok (.invokevirtual 122, 3) := by decide +kernel
theorem d_SQ_take_37 : decode b_SQ_take 37 = .ok (.istore_n 2, 1) := by decide +kernel
theorem d_SQ_take_38 : decode b_SQ_take 38 = .ok (.aload_n 0, 1) := by decide +kernel
theorem d_SQ_take_39 : decode b_SQ_take 39 = .ok (.getfield 28, 3) := by decide +kernel
theorem d_SQ_take_42 : decode b_SQ_take 42 = .ok (.invokevirtual 125, 3) := by decide +kernel
theorem d_SQ_take_45 : decode b_SQ_take 45 = .ok (.iload_n 2, 1) := by decide +kernel
theorem d_SQ_take_46 : decode b_SQ_take 46 = .ok (.ireturn, 1) := by decide +kernel
theorem d_SQ_sync_0 : decode b_SQ_sync 0 = .ok (.aload_n 0, 1) := by decide +kernel
theorem d_SQ_sync_1 : decode b_SQ_sync 1 = .ok (.invokevirtual 88, 3) := by decide +kernel
theorem d_SQ_sync_4 : decode b_SQ_sync 4 = .ok (.aload_n 0, 1) := by decide +kernel
theorem d_SQ_sync_5 : decode b_SQ_sync 5 = .ok (.getfield 19, 3) := by decide +kernel
theorem d_SQ_sync_8 : decode b_SQ_sync 8 = .ok (.invokevirtual 128, 3) := by decide +kernel
theorem d_SQ_sync_11 : decode b_SQ_sync 11 = .ok (.ifCond .le 14, 3) := by decide +kernel
theorem d_SQ_sync_14 : decode b_SQ_sync 14 = .ok (.aload_n 0, 1) := by decide +kernel
theorem d_SQ_sync_15 : decode b_SQ_sync 15 = .ok (.invokevirtual 97, 3) := by decide +kernel
theorem d_SQ_sync_18 : decode b_SQ_sync 18 = .ok (.istore_n 1, 1) := by decide +kernel
theorem d_SQ_sync_19 : decode b_SQ_sync 19 = .ok (.iload_n 1, 1) := by decide +kernel
theorem d_SQ_sync_20 : decode b_SQ_sync 20 = .ok (.ifCond .eq 5, 3) := by decide +kernel
theorem d_SQ_sync_23 : decode b_SQ_sync 23 = .ok (.iload_n 1, 1) := by decide +kernel
theorem d_SQ_sync_24 : decode b_SQ_sync 24 = .ok (.ireturn, 1) := by decide +kernel
theorem d_SQ_sync_25 : decode b_SQ_sync 25 = .ok (.aload_n 0, 1) := by decide +kernel
theorem d_SQ_sync_26 : decode b_SQ_sync 26 = .ok (.invokevirtual 84, 3) := by decide +kernel
theorem d_SQ_sync_29 : decode b_SQ_sync 29 = .ok (.ireturn, 1) := by decide +kernel
theorem d_SQ_cutAt_0 : decode b_SQ_cutAt 0 = .ok (.aload_n 0, 1) := by decide +kernel
theorem d_SQ_cutAt_1 : decode b_SQ_cutAt 1 = .ok (.invokevirtual 88, 3) := by decide +kernel
theorem d_SQ_cutAt_4 : decode b_SQ_cutAt 4 = .ok (.iload_n 1, 1) := by decide +kernel
theorem d_SQ_cutAt_5 : decode b_SQ_cutAt 5 = .ok (.ifCond .lt 10, 3) := by decide +kernel
theorem d_SQ_cutAt_8 : decode b_SQ_cutAt 8 = .ok (.iload_n 1, 1) := by decide +kernel
theorem d_SQ_cutAt_9 : decode b_SQ_cutAt 9 = .ok (.sipush 10000, 3) := by decide +kernel
theorem d_SQ_cutAt_12 : decode b_SQ_cutAt 12 = .ok (.if_icmp .le 13, 3) := by decide +kernel
theorem d_SQ_cutAt_15 : decode b_SQ_cutAt 15 = .ok (.new 53, 3) := by decide +kernel
theorem d_SQ_cutAt_18 : decode b_SQ_cutAt 18 = .ok (.dup, 1) := by decide +kernel
theorem d_SQ_cutAt_19 : decode b_SQ_cutAt 19 = .ok (.ldc 131, 2) := by decide +kernel
theorem d_SQ_cutAt_21 : decode b_SQ_cutAt 21 = .ok (.invokespecial 57, 3) := by decide +kernel
theorem d_SQ_cutAt_24 : decode b_SQ_cutAt 24 = .ok (.athrow, 1) := by decide +kernel
theorem d_SQ_cutAt_25 : decode b_SQ_cutAt 25 = .ok (.aload_n 0, 1) := by decide +kernel
theorem d_SQ_cutAt_26 : decode b_SQ_cutAt 26 = .ok (.getfield 12, 3) := by decide +kernel
theorem d_SQ_cutAt_29 : decode b_SQ_cutAt 29 = .ok (.iload_n 1, 1) := by decide +kernel
theorem d_SQ_cutAt_30 : decode b_SQ_cutAt 30 = .ok (.putfield 133, 3) := by decide +kernel
theorem d_SQ_cutAt_33 : decode b_SQ_cutAt 33 = .ok (.return_, 1) := by decide +kernel
theorem d_SQ_cut_0 : decode b_SQ_cut 0 = .ok (.aload_n 0, 1) := by decide +kernel
theorem d_SQ_cut_1 : decode b_SQ_cut 1 = .ok (.invokevirtual 136, 3) := by decide +kernel
theorem d_SQ_cut_4 : decode b_SQ_cut 4 = .ok (.aload_n 0, 1) := by decide +kernel
theorem d_SQ_cut_5 : decode b_SQ_cut 5 = .ok (.invokevirtual 66, 3) := by decide +kernel
theorem d_SQ_cut_8 : decode b_SQ_cut 8 = .ok (.return_, 1) := by decide +kernel
theorem d_SQ_recover_0 : decode b_SQ_recover 0 = .ok (.aload_n 0, 1) := by decide +kernel
theorem d_SQ_recover_1 : decode b_SQ_recover 1 = .ok (.invokevirtual 136, 3) := by decide +kernel
theorem d_SQ_recover_4 : decode b_SQ_recover 4 = .ok (.aload_n 0, 1) := by decide +kernel
theorem d_SQ_recover_5 : decode b_SQ_recover 5 = .ok (.invokevirtual 66, 3) := by decide +kernel
theorem d_SQ_recover_8 : decode b_SQ_recover 8 = .ok (.aload_n 0, 1) := by decide +kernel
theorem d_SQ_recover_9 : decode b_SQ_recover 9 = .ok (.getfield 35, 3) := by decide +kernel
theorem d_SQ_recover_12 : decode b_SQ_recover 12 = .ok (.invokevirtual 139, 3) := by decide +kernel
theorem d_SQ_recover_15 : decode b_SQ_recover 15 = .ok (.istore_n 1, 1) := by decide +kernel
theorem d_SQ_recover_16 : decode b_SQ_recover 16 = .ok (.iload_n 1, 1) := by decide +kernel
theorem d_SQ_recover_17 : decode b_SQ_recover 17 = .ok (.ifCond .ge 6, 3) := by decide +kernel
theorem d_SQ_recover_20 : decode b_SQ_recover 20 = .ok (.bipush (-3), 2) := by decide +kernel
theorem d_SQ_recover_22 : decode b_SQ_recover 22 = .ok (.ireturn, 1) := by decide +kernel
theorem d_SQ_recover_23 : decode b_SQ_recover 23 = .ok (.aload_n 0, 1) := by decide +kernel
theorem d_SQ_recover_24 : decode b_SQ_recover 24 = .ok (.getfield 35, 3) := by decide +kernel
theorem d_SQ_recover_27 : decode b_SQ_recover 27 = .ok (.iload_n 1, 1) := by decide +kernel
theorem d_SQ_recover_28 : decode b_SQ_recover 28 = .ok (.aload_n 0, 1) := by decide +kernel
theorem d_SQ_recover_29 : decode b_SQ_recover 29 = .ok (.getfield 28, 3) := by decide +kernel
theorem d_SQ_recover_32 : decode b_SQ_recover 32 = .ok (.invokevirtual 142, 3) := by decide +kernel
theorem d_SQ_recover_35 : decode b_SQ_recover 35 = .ok (.aload_n 0, 1) := by decide +kernel
theorem d_SQ_recover_36 : decode b_SQ_recover 36 = .ok (.aload_n 0, 1) := by decide +kernel
theorem d_SQ_recover_37 : decode b_SQ_recover 37 = .ok (.getfield 35, 3) := by decide +kernel
theorem d_SQ_recover_40 : decode b_SQ_recover 40 = .ok (.iload_n 1, 1) := by decide +kernel
theorem d_SQ_recover_41 : decode b_SQ_recover 41 = .ok (.invokevirtual 146, 3) := by decide +kernel
theorem d_SQ_recover_44 : decode b_SQ_recover 44 = .ok (.putfield 149, 3) := by decide +kernel
theorem d_SQ_recover_47 : decode b_SQ_recover 47 = .ok (.aload_n 0, 1) := by decide +kernel
theorem d_SQ_recover_48 : decode b_SQ_recover 48 = .ok (.getfield 28, 3) := by decide +kernel
theorem d_SQ_recover_51 : decode b_SQ_recover 51 = .ok (.aload_n 0, 1) := by decide +kernel
theorem d_SQ_recover_52 : decode b_SQ_recover 52 = .ok (.getfield 42, 3) := by decide +kernel
theorem d_SQ_recover_55 : decode b_SQ_recover 55 = .ok (.invokevirtual 152, 3) := by decide +kernel
theorem d_SQ_recover_58 : decode b_SQ_recover 58 = .ok (.aload_n 0, 1) := by decide +kernel
theorem d_SQ_recover_59 : decode b_SQ_recover 59 = .ok (.iconst 1, 1) := by decide +kernel
theorem d_SQ_recover_60 : decode b_SQ_recover 60 = .ok (.putfield 80, 3) := by decide +kernel
theorem d_SQ_recover_63 : decode b_SQ_recover 63 = .ok (.aload_n 0, 1) := by decide +kernel
theorem d_SQ_recover_64 : decode b_SQ_recover 64 = .ok (.getfield 28, 3) := by decide +kernel
theorem d_SQ_recover_67 : decode b_SQ_recover 67 = .ok (.invokevirtual 156, 3) := by decide +kernel
theorem d_SQ_recover_70 : decode b_SQ_recover 70 = .ok (.ireturn, 1) := by decide +kernel
theorem d_SQ_size_0 : decode b_SQ_size 0 = .ok (.aload_n 0, 1) := by decide +kernel
theorem d_SQ_size_1 : decode b_SQ_size 1 = .ok (.getfield 80, 3) := by decide +kernel
theorem d_SQ_size_4 : decode b_SQ_size 4 = .ok (.ifCond .eq 21, 3) := by decide +kernel
theorem d_SQ_size_7 : decode b_SQ_size 7 = .ok (.aload_n 0, 1) := by decide +kernel
theorem d_SQ_size_8 : decode b_SQ_size 8 = .ok (.getfield 19, 3) := by decide +kernel
theorem d_SQ_size_11 : decode b_SQ_size 11 = .ok (.invokevirtual 128, 3) := by decide +kernel
theorem d_SQ_size_14 : decode b_SQ_size 14 = .ok (.aload_n 0, 1) := by decide +kernel
theorem d_SQ_size_15 : decode b_SQ_size 15 = .ok (.getfield 28, 3) := by decide +kernel
theorem d_SQ_size_18 : decode b_SQ_size 18 = .ok (.invokevirtual 156, 3) := by decide +kernel
theorem d_SQ_size_21 : decode b_SQ_size 21 = .ok (.iadd, 1) := by decide +kernel
theorem d_SQ_size_22 : decode b_SQ_size 22 = .ok (.goto 4, 3) := by decide +kernel
theorem d_SQ_size_25 : decode b_SQ_size 25 = .ok (.iconst 0, 1) := by decide +kernel
theorem d_SQ_size_26 : decode b_SQ_size 26 = .ok (.ireturn, 1) := by decide +kernel
theorem d_SQ_run_0 : decode b_SQ_run 0 = .ok (.aload_n 0, 1) := by decide +kernel
theorem d_SQ_run_1 : decode b_SQ_run 1 = .ok (.invokevirtual 88, 3) := by decide +kernel
theorem d_SQ_run_4 : decode b_SQ_run 4 = .ok (.aload_n 0, 1) := by decide +kernel
theorem d_SQ_run_5 : decode b_SQ_run 5 = .ok (.getfield 28, 3) := by decide +kernel
theorem d_SQ_run_8 : decode b_SQ_run 8 = .ok (.iload_n 1, 1) := by decide +kernel
theorem d_SQ_run_9 : decode b_SQ_run 9 = .ok (.invokevirtual 159, 3) := by decide +kernel
theorem d_SQ_run_12 : decode b_SQ_run 12 = .ok (.ifCond .ne 13, 3) := by decide +kernel
theorem d_SQ_run_15 : decode b_SQ_run 15 = .ok (.new 162, 3) := by decide +kernel
theorem d_SQ_run_18 : decode b_SQ_run 18 = .ok (.dup, 1) := by decide +kernel
theorem d_SQ_run_19 : decode b_SQ_run 19 = .ok (.ldc 164, 2) := by decide +kernel
theorem d_SQ_run_21 : decode b_SQ_run 21 = .ok (.invokespecial 166, 3) := by decide +kernel
theorem d_SQ_run_24 : decode b_SQ_run 24 = .ok (.athrow, 1) := by decide +kernel
theorem d_SQ_run_25 : decode b_SQ_run 25 = .ok (.iload_n 2, 1) := by decide +kernel
theorem d_SQ_run_26 : decode b_SQ_run 26 = .ok (.tableswitch 114 0 5 #[38, 48, 58, 68, 78, 105], 38) := by decide +kernel
theorem d_SQ_run_64 : decode b_SQ_run 64 = .ok (.aload_n 0, 1) := by decide +kernel
theorem d_SQ_run_65 : decode b_SQ_run 65 = .ok (.getfield 28, 3) := by decide +kernel
theorem d_SQ_run_68 : decode b_SQ_run 68 = .ok (.getfield 167, 3) := by decide +kernel
theorem d_SQ_run_71 : decode b_SQ_run 71 = .ok (.iload_n 1, 1) := by decide +kernel
theorem d_SQ_run_72 : decode b_SQ_run 72 = .ok (.iaload, 1) := by decide +kernel
theorem d_SQ_run_73 : decode b_SQ_run 73 = .ok (.ireturn, 1) := by decide +kernel
theorem d_SQ_run_74 : decode b_SQ_run 74 = .ok (.aload_n 0, 1) := by decide +kernel
theorem d_SQ_run_75 : decode b_SQ_run 75 = .ok (.getfield 28, 3) := by decide +kernel
theorem d_SQ_run_78 : decode b_SQ_run 78 = .ok (.getfield 170, 3) := by decide +kernel
theorem d_SQ_run_81 : decode b_SQ_run 81 = .ok (.iload_n 1, 1) := by decide +kernel
theorem d_SQ_run_82 : decode b_SQ_run 82 = .ok (.iaload, 1) := by decide +kernel
theorem d_SQ_run_83 : decode b_SQ_run 83 = .ok (.ireturn, 1) := by decide +kernel
theorem d_SQ_run_84 : decode b_SQ_run 84 = .ok (.aload_n 0, 1) := by decide +kernel
theorem d_SQ_run_85 : decode b_SQ_run 85 = .ok (.getfield 28, 3) := by decide +kernel
theorem d_SQ_run_88 : decode b_SQ_run 88 = .ok (.getfield 173, 3) := by decide +kernel
theorem d_SQ_run_91 : decode b_SQ_run 91 = .ok (.iload_n 1, 1) := by decide +kernel
theorem d_SQ_run_92 : decode b_SQ_run 92 = .ok (.iaload, 1) := by decide +kernel
theorem d_SQ_run_93 : decode b_SQ_run 93 = .ok (.ireturn, 1) := by decide +kernel
theorem d_SQ_run_94 : decode b_SQ_run 94 = .ok (.aload_n 0, 1) := by decide +kernel
theorem d_SQ_run_95 : decode b_SQ_run 95 = .ok (.getfield 28, 3) := by decide +kernel
theorem d_SQ_run_98 : decode b_SQ_run 98 = .ok (.getfield 176, 3) := by decide +kernel
theorem d_SQ_run_101 : decode b_SQ_run 101 = .ok (.iload_n 1, 1) := by decide +kernel
theorem d_SQ_run_102 : decode b_SQ_run 102 = .ok (.iaload, 1) := by decide +kernel
theorem d_SQ_run_103 : decode b_SQ_run 103 = .ok (.ireturn, 1) := by decide +kernel
theorem d_SQ_run_104 : decode b_SQ_run 104 = .ok (.aload_n 0, 1) := by decide +kernel
theorem d_SQ_run_105 : decode b_SQ_run 105 = .ok (.getfield 12, 3) := by decide +kernel
theorem d_SQ_run_108 : decode b_SQ_run 108 = .ok (.aload_n 0, 1) := by decide +kernel
theorem d_SQ_run_109 : decode b_SQ_run 109 = .ok (.getfield 28, 3) := by decide +kernel
theorem d_SQ_run_112 : decode b_SQ_run 112 = .ok (.getfield 170, 3) := by decide +kernel
theorem d_SQ_run_115 : decode b_SQ_run 115 = .ok (.iload_n 1, 1) := by decide +kernel
theorem d_SQ_run_116 : decode b_SQ_run 116 = .ok (.iaload, 1) := by decide +kernel
theorem d_SQ_run_117 : decode b_SQ_run 117 = .ok (.aload_n 0, 1) := by decide +kernel
theorem d_SQ_run_118 : decode b_SQ_run 118 = .ok (.getfield 28, 3) := by decide +kernel
theorem d_SQ_run_121 : decode b_SQ_run 121 = .ok (.getfield 173, 3) := by decide +kernel
theorem d_SQ_run_124 : decode b_SQ_run 124 = .ok (.iload_n 1, 1) := by decide +kernel
theorem d_SQ_run_125 : decode b_SQ_run 125 = .ok (.iaload, 1) := by decide +kernel
theorem d_SQ_run_126 : decode b_SQ_run 126 = .ok (.iadd, 1) := by decide +kernel
theorem d_SQ_run_127 : decode b_SQ_run 127 = .ok (.invokevirtual 179, 3) := by decide +kernel
theorem d_SQ_run_130 : decode b_SQ_run 130 = .ok (.ireturn, 1) := by decide +kernel
theorem d_SQ_run_131 : decode b_SQ_run 131 = .ok (.aload_n 0, 1) := by decide +kernel
theorem d_SQ_run_132 : decode b_SQ_run 132 = .ok (.getfield 28, 3) := by decide +kernel
theorem d_SQ_run_135 : decode b_SQ_run 135 = .ok (.iload_n 1, 1) := by decide +kernel
theorem d_SQ_run_136 : decode b_SQ_run 136 = .ok (.invokevirtual 115, 3) := by decide +kernel
theorem d_SQ_run_139 : decode b_SQ_run 139 = .ok (.ireturn, 1) := by decide +kernel
theorem d_SQ_run_140 : decode b_SQ_run 140 = .ok (.new 162, 3) := by decide +kernel
theorem d_SQ_run_143 : decode b_SQ_run 143 = .ok (.dup, 1) := by decide +kernel
theorem d_SQ_run_144 : decode b_SQ_run 144 = .ok (.ldc 182, 2) := by decide +kernel
theorem d_SQ_run_146 : decode b_SQ_run 146 = .ok (.invokespecial 166, 3) := by decide +kernel
theorem d_SQ_run_149 : decode b_SQ_run 149 = .ok (.athrow, 1) := by decide +kernel
theorem d_SQ_about_0 : decode b_SQ_about 0 = .ok (.iload_n 1, 1) := by decide +kernel
theorem d_SQ_about_1 : decode b_SQ_about 1 = .ok (.tableswitch 153 0 6 #[43, 62, 81, 97, 113, 132, 140], 43) := by decide +kernel
theorem d_SQ_about_44 : decode b_SQ_about 44 = .ok (.aload_n 0, 1) := by decide +kernel
theorem d_SQ_about_45 : decode b_SQ_about 45 = .ok (.getfield 80, 3) := by decide +kernel
theorem d_SQ_about_48 : decode b_SQ_about 48 = .ok (.ifCond .eq 13, 3) := by decide +kernel
theorem d_SQ_about_51 : decode b_SQ_about 51 = .ok (.aload_n 0, 1) := by decide +kernel
theorem d_SQ_about_52 : decode b_SQ_about 52 = .ok (.getfield 28, 3) := by decide +kernel
theorem d_SQ_about_55 : decode b_SQ_about 55 = .ok (.getfield 184, 3) := by decide +kernel
theorem d_SQ_about_58 : decode b_SQ_about 58 = .ok (.goto 4, 3) := by decide +kernel
theorem d_SQ_about_61 : decode b_SQ_about 61 = .ok (.iconst 0, 1) := by decide +kernel
theorem d_SQ_about_62 : decode b_SQ_about 62 = .ok (.ireturn, 1) := by decide +kernel
theorem d_SQ_about_63 : decode b_SQ_about 63 = .ok (.aload_n 0, 1) := by decide +kernel
theorem d_SQ_about_64 : decode b_SQ_about 64 = .ok (.getfield 80, 3) := by decide +kernel
theorem d_SQ_about_67 : decode b_SQ_about 67 = .ok (.ifCond .eq 13, 3) := by decide +kernel
theorem d_SQ_about_70 : decode b_SQ_about 70 = .ok (.aload_n 0, 1) := by decide +kernel
theorem d_SQ_about_71 : decode b_SQ_about 71 = .ok (.getfield 19, 3) := by decide +kernel
theorem d_SQ_about_74 : decode b_SQ_about 74 = .ok (.invokevirtual 128, 3) := by decide +kernel
theorem d_SQ_about_77 : decode b_SQ_about 77 = .ok (.goto 4, 3) := by decide +kernel
theorem d_SQ_about_80 : decode b_SQ_about 80 = .ok (.iconst 0, 1) := by decide +kernel
theorem d_SQ_about_81 : decode b_SQ_about 81 = .ok (.ireturn, 1) := by decide +kernel
theorem d_SQ_about_82 : decode b_SQ_about 82 = .ok (.aload_n 0, 1) := by decide +kernel
theorem d_SQ_about_83 : decode b_SQ_about 83 = .ok (.getfield 80, 3) := by decide +kernel
theorem d_SQ_about_86 : decode b_SQ_about 86 = .ok (.ifCond .eq 10, 3) := by decide +kernel
theorem d_SQ_about_89 : decode b_SQ_about 89 = .ok (.aload_n 0, 1) := by decide +kernel
theorem d_SQ_about_90 : decode b_SQ_about 90 = .ok (.invokevirtual 187, 3) := by decide +kernel
theorem d_SQ_about_93 : decode b_SQ_about 93 = .ok (.goto 4, 3) := by decide +kernel
theorem d_SQ_about_96 : decode b_SQ_about 96 = .ok (.iconst 0, 1) := by decide +kernel
theorem d_SQ_about_97 : decode b_SQ_about 97 = .ok (.ireturn, 1) := by decide +kernel
theorem d_SQ_about_98 : decode b_SQ_about 98 = .ok (.aload_n 0, 1) := by decide +kernel
theorem d_SQ_about_99 : decode b_SQ_about 99 = .ok (.getfield 80, 3) := by decide +kernel
theorem d_SQ_about_102 : decode b_SQ_about 102 = .ok (.ifCond .eq 10, 3) := by decide +kernel
theorem d_SQ_about_105 : decode b_SQ_about 105 = .ok (.aload_n 0, 1) := by decide +kernel
theorem d_SQ_about_106 : decode b_SQ_about 106 = .ok (.getfield 149, 3) := by decide +kernel
theorem d_SQ_about_109 : decode b_SQ_about 109 = .ok (.goto 4, 3) := by decide +kernel
theorem d_SQ_about_112 : decode b_SQ_about 112 = .ok (.iconst 0, 1) := by decide +kernel
theorem d_SQ_about_113 : decode b_SQ_about 113 = .ok (.ireturn, 1) := by decide +kernel
theorem d_SQ_about_114 : decode b_SQ_about 114 = .ok (.aload_n 0, 1) := by decide +kernel
theorem d_SQ_about_115 : decode b_SQ_about 115 = .ok (.getfield 80, 3) := by decide +kernel
theorem d_SQ_about_118 : decode b_SQ_about 118 = .ok (.ifCond .eq 13, 3) := by decide +kernel
theorem d_SQ_about_121 : decode b_SQ_about 121 = .ok (.aload_n 0, 1) := by decide +kernel
theorem d_SQ_about_122 : decode b_SQ_about 122 = .ok (.getfield 12, 3) := by decide +kernel
theorem d_SQ_about_125 : decode b_SQ_about 125 = .ok (.invokevirtual 190, 3) := by decide +kernel
theorem d_SQ_about_128 : decode b_SQ_about 128 = .ok (.goto 4, 3) := by decide +kernel
theorem d_SQ_about_131 : decode b_SQ_about 131 = .ok (.iconst 0, 1) := by decide +kernel
theorem d_SQ_about_132 : decode b_SQ_about 132 = .ok (.ireturn, 1) := by decide +kernel
theorem d_SQ_about_133 : decode b_SQ_about 133 = .ok (.aload_n 0, 1) := by decide +kernel
theorem d_SQ_about_134 : decode b_SQ_about 134 = .ok (.getfield 12, 3) := by decide +kernel
theorem d_SQ_about_137 : decode b_SQ_about 137 = .ok (.getfield 193, 3) := by decide +kernel
theorem d_SQ_about_140 : decode b_SQ_about 140 = .ok (.ireturn, 1) := by decide +kernel
theorem d_SQ_about_141 : decode b_SQ_about 141 = .ok (.aload_n 0, 1) := by decide +kernel
theorem d_SQ_about_142 : decode b_SQ_about 142 = .ok (.getfield 80, 3) := by decide +kernel
theorem d_SQ_about_145 : decode b_SQ_about 145 = .ok (.ifCond .eq 7, 3) := by decide +kernel
theorem d_SQ_about_148 : decode b_SQ_about 148 = .ok (.iconst 0, 1) := by decide +kernel
theorem d_SQ_about_149 : decode b_SQ_about 149 = .ok (.goto 4, 3) := by decide +kernel
theorem d_SQ_about_152 : decode b_SQ_about 152 = .ok (.iconst 1, 1) := by decide +kernel
theorem d_SQ_about_153 : decode b_SQ_about 153 = .ok (.ireturn, 1) := by decide +kernel
theorem d_SQ_about_154 : decode b_SQ_about 154 = .ok (.new 162, 3) := by decide +kernel
theorem d_SQ_about_157 : decode b_SQ_about 157 = .ok (.dup, 1) := by decide +kernel
theorem d_SQ_about_158 : decode b_SQ_about 158 = .ok (.ldc 196, 2) := by decide +kernel
theorem d_SQ_about_160 : decode b_SQ_about 160 = .ok (.invokespecial 166, 3) := by decide +kernel
theorem d_SQ_about_163 : decode b_SQ_about 163 = .ok (.athrow, 1) := by decide +kernel
theorem d_SQ_word_0 : decode b_SQ_word 0 = .ok (.aload_n 0, 1) := by decide +kernel
theorem d_SQ_word_1 : decode b_SQ_word 1 = .ok (.iload_n 1, 1) := by decide +kernel
theorem d_SQ_word_2 : decode b_SQ_word 2 = .ok (.iload_n 2, 1) := by decide +kernel
theorem d_SQ_word_3 : decode b_SQ_word 3 = .ok (.invokevirtual 198, 3) := by decide +kernel
theorem d_SQ_word_6 : decode b_SQ_word 6 = .ok (.aload_n 0, 1) := by decide +kernel
theorem d_SQ_word_7 : decode b_SQ_word 7 = .ok (.getfield 12, 3) := by decide +kernel
theorem d_SQ_word_10 : decode b_SQ_word 10 = .ok (.iload_n 1, 1) := by decide +kernel
theorem d_SQ_word_11 : decode b_SQ_word 11 = .ok (.iload_n 2, 1) := by decide +kernel
theorem d_SQ_word_12 : decode b_SQ_word 12 = .ok (.invokevirtual 201, 3) := by decide +kernel
theorem d_SQ_word_15 : decode b_SQ_word 15 = .ok (.ireturn, 1) := by decide +kernel
theorem d_SQ_spoil_0 : decode b_SQ_spoil 0 = .ok (.aload_n 0, 1) := by decide +kernel
theorem d_SQ_spoil_1 : decode b_SQ_spoil 1 = .ok (.getfield 80, 3) := by decide +kernel
theorem d_SQ_spoil_4 : decode b_SQ_spoil 4 = .ok (.ifCond .eq 13, 3) := by decide +kernel
theorem d_SQ_spoil_7 : decode b_SQ_spoil 7 = .ok (.new 205, 3) := by decide +kernel
theorem d_SQ_spoil_10 : decode b_SQ_spoil 10 = .ok (.dup, 1) := by decide +kernel
theorem d_SQ_spoil_11 : decode b_SQ_spoil 11 = .ok (.ldc 207, 2) := by decide +kernel
theorem d_SQ_spoil_13 : decode b_SQ_spoil 13 = .ok (.invokespecial 209, 3) := by decide +kernel
theorem d_SQ_spoil_16 : decode b_SQ_spoil 16 = .ok (.athrow, 1) := by decide +kernel
theorem d_SQ_spoil_17 : decode b_SQ_spoil 17 = .ok (.aload_n 0, 1) := by decide +kernel
theorem d_SQ_spoil_18 : decode b_SQ_spoil 18 = .ok (.iload_n 1, 1) := by decide +kernel
theorem d_SQ_spoil_19 : decode b_SQ_spoil 19 = .ok (.iload_n 2, 1) := by decide +kernel
theorem d_SQ_spoil_20 : decode b_SQ_spoil 20 = .ok (.invokevirtual 198, 3) := by decide +kernel
theorem d_SQ_spoil_23 : decode b_SQ_spoil 23 = .ok (.aload_n 0, 1) := by decide +kernel
theorem d_SQ_spoil_24 : decode b_SQ_spoil 24 = .ok (.getfield 12, 3) := by decide +kernel
theorem d_SQ_spoil_27 : decode b_SQ_spoil 27 = .ok (.iload_n 1, 1) := by decide +kernel
theorem d_SQ_spoil_28 : decode b_SQ_spoil 28 = .ok (.iload_n 2, 1) := by decide +kernel
theorem d_SQ_spoil_29 : decode b_SQ_spoil 29 = .ok (.iload_n 3, 1) := by decide +kernel
theorem d_SQ_spoil_30 : decode b_SQ_spoil 30 = .ok (.invokevirtual 210, 3) := by decide +kernel
theorem d_SQ_spoil_33 : decode b_SQ_spoil 33 = .ok (.return_, 1) := by decide +kernel
theorem d_SQ_requireLive_0 : decode b_SQ_requireLive 0 = .ok (.aload_n 0, 1) := by decide +kernel
theorem d_SQ_requireLive_1 : decode b_SQ_requireLive 1 = .ok (.getfield 80, 3) := by decide +kernel
theorem d_SQ_requireLive_4 : decode b_SQ_requireLive 4 = .ok (.ifCond .ne 13, 3) := by decide +kernel
theorem d_SQ_requireLive_7 : decode b_SQ_requireLive 7 = .ok (.new 205, 3) := by decide +kernel
theorem d_SQ_requireLive_10 : decode b_SQ_requireLive 10 = .ok (.dup, 1) := by decide +kernel
theorem d_SQ_requireLive_11 : decode b_SQ_requireLive 11 = .ok (.ldc 214, 2) := by decide +kernel
theorem d_SQ_requireLive_13 : decode b_SQ_requireLive 13 = .ok (.invokespecial 209, 3) := by decide +kernel
theorem d_SQ_requireLive_16 : decode b_SQ_requireLive 16 = .ok (.athrow, 1) := by decide +kernel
theorem d_SQ_requireLive_17 : decode b_SQ_requireLive 17 = .ok (.return_, 1) := by decide +kernel
theorem d_SQ_requireDisk_0 : decode b_SQ_requireDisk 0 = .ok (.aload_n 0, 1) := by decide +kernel
theorem d_SQ_requireDisk_1 : decode b_SQ_requireDisk 1 = .ok (.getfield 12, 3) := by decide +kernel
theorem d_SQ_requireDisk_4 : decode b_SQ_requireDisk 4 = .ok (.getfield 216, 3) := by decide +kernel
theorem d_SQ_requireDisk_7 : decode b_SQ_requireDisk 7 = .ok (.ifCond .ne 13, 3) := by decide +kernel
theorem d_SQ_requireDisk_10 : decode b_SQ_requireDisk 10 = .ok (.new 205, 3) := by decide +kernel
theorem d_SQ_requireDisk_13 : decode b_SQ_requireDisk 13 = .ok (.dup, 1) := by decide +kernel
theorem d_SQ_requireDisk_14 : decode b_SQ_requireDisk 14 = .ok (.ldc 219, 2) := by decide +kernel
theorem d_SQ_requireDisk_16 : decode b_SQ_requireDisk 16 = .ok (.invokespecial 209, 3) := by decide +kernel
theorem d_SQ_requireDisk_19 : decode b_SQ_requireDisk 19 = .ok (.athrow, 1) := by decide +kernel
theorem d_SQ_requireDisk_20 : decode b_SQ_requireDisk 20 = .ok (.return_, 1) := by decide +kernel
theorem d_SQ_requireWord_0 : decode b_SQ_requireWord 0 = .ok (.aload_n 0, 1) := by decide +kernel
theorem d_SQ_requireWord_1 : decode b_SQ_requireWord 1 = .ok (.getfield 12, 3) := by decide +kernel
theorem d_SQ_requireWord_4 : decode b_SQ_requireWord 4 = .ok (.iload_n 1, 1) := by decide +kernel
theorem d_SQ_requireWord_5 : decode b_SQ_requireWord 5 = .ok (.iload_n 2, 1) := by decide +kernel
theorem d_SQ_requireWord_6 : decode b_SQ_requireWord 6 = .ok (.invokevirtual 221, 3) := by decide +kernel
theorem d_SQ_requireWord_9 : decode b_SQ_requireWord 9 = .ok (.ifCond .ne 13, 3) := by decide +kernel
theorem d_SQ_requireWord_12 : decode b_SQ_requireWord 12 = .ok (.new 162, 3) := by decide +kernel
theorem d_SQ_requireWord_15 : decode b_SQ_requireWord 15 = .ok (.dup, 1) := by decide +kernel
theorem d_SQ_requireWord_16 : decode b_SQ_requireWord 16 = .ok (.ldc 224, 2) := by decide +kernel
theorem d_SQ_requireWord_18 : decode b_SQ_requireWord 18 = .ok (.invokespecial 166, 3) := by decide +kernel
theorem d_SQ_requireWord_21 : decode b_SQ_requireWord 21 = .ok (.athrow, 1) := by decide +kernel
theorem d_SQ_requireWord_22 : decode b_SQ_requireWord 22 = .ok (.return_, 1) := by decide +kernel
theorem d_SQ_powerOff_0 : decode b_SQ_powerOff 0 = .ok (.aload_n 0, 1) := by decide +kernel
theorem d_SQ_powerOff_1 : decode b_SQ_powerOff 1 = .ok (.iconst 0, 1) := by decide +kernel
theorem d_SQ_powerOff_2 : decode b_SQ_powerOff 2 = .ok (.putfield 80, 3) := by decide +kernel
theorem d_SQ_powerOff_5 : decode b_SQ_powerOff 5 = .ok (.aload_n 0, 1) := by decide +kernel
theorem d_SQ_powerOff_6 : decode b_SQ_powerOff 6 = .ok (.iconst 0, 1) := by decide +kernel
theorem d_SQ_powerOff_7 : decode b_SQ_powerOff 7 = .ok (.putfield 149, 3) := by decide +kernel
theorem d_SQ_powerOff_10 : decode b_SQ_powerOff 10 = .ok (.aload_n 0, 1) := by decide +kernel
theorem d_SQ_powerOff_11 : decode b_SQ_powerOff 11 = .ok (.getfield 19, 3) := by decide +kernel
theorem d_SQ_powerOff_14 : decode b_SQ_powerOff 14 = .ok (.invokevirtual 226, 3) := by decide +kernel
theorem d_SQ_powerOff_17 : decode b_SQ_powerOff 17 = .ok (.aload_n 0, 1) := by decide +kernel
theorem d_SQ_powerOff_18 : decode b_SQ_powerOff 18 = .ok (.getfield 28, 3) := by decide +kernel
theorem d_SQ_powerOff_21 : decode b_SQ_powerOff 21 = .ok (.invokevirtual 229, 3) := by decide +kernel
theorem d_SQ_powerOff_24 : decode b_SQ_powerOff 24 = .ok (.aload_n 0, 1) := by decide +kernel
theorem d_SQ_powerOff_25 : decode b_SQ_powerOff 25 = .ok (.getfield 42, 3) := by decide +kernel
theorem d_SQ_powerOff_28 : decode b_SQ_powerOff 28 = .ok (.invokevirtual 230, 3) := by decide +kernel
theorem d_SQ_powerOff_31 : decode b_SQ_powerOff 31 = .ok (.aload_n 0, 1) := by decide +kernel
theorem d_SQ_powerOff_32 : decode b_SQ_powerOff 32 = .ok (.getfield 12, 3) := by decide +kernel
theorem d_SQ_powerOff_35 : decode b_SQ_powerOff 35 = .ok (.iconst 0, 1) := by decide +kernel
theorem d_SQ_powerOff_36 : decode b_SQ_powerOff 36 = .ok (.putfield 133, 3) := by decide +kernel
theorem d_SQ_powerOff_39 : decode b_SQ_powerOff 39 = .ok (.return_, 1) := by decide +kernel
theorem d_SQ_isLeastInMemory_0 : decode b_SQ_isLeastInMemory 0 = .ok (.aload_n 0, 1) := by decide +kernel
theorem d_SQ_isLeastInMemory_1 : decode b_SQ_isLeastInMemory 1 = .ok (.getfield 19, 3) := by decide +kernel
theorem d_SQ_isLeastInMemory_4 : decode b_SQ_isLeastInMemory 4 = .ok (.invokevirtual 128, 3) := by decide +kernel
theorem d_SQ_isLeastInMemory_7 : decode b_SQ_isLeastInMemory 7 = .ok (.ifCond .le 29, 3) := by decide +kernel
theorem d_SQ_isLeastInMemory_10 : decode b_SQ_isLeastInMemory 10 = .ok (.iload_n 1, 1) := by decide +kernel
theorem d_SQ_isLeastInMemory_11 : decode b_SQ_isLeastInMemory 11 = .ok (.ifCond .lt 21, 3) := by decide +kernel
theorem d_SQ_isLeastInMemory_14 : decode b_SQ_isLeastInMemory 14 = .ok (.aload_n 0, 1) := by decide +kernel
theorem d_SQ_isLeastInMemory_15 : decode b_SQ_isLeastInMemory 15 = .ok (.getfield 19, 3) := by decide +kernel
theorem d_SQ_isLeastInMemory_18 : decode b_SQ_isLeastInMemory 18 = .ok (.invokevirtual 112, 3) := by decide +kernel
theorem d_SQ_isLeastInMemory_21 : decode b_SQ_isLeastInMemory 21 = .ok (.aload_n 0, 1) := by decide +kernel
theorem d_SQ_isLeastInMemory_22 : decode b_SQ_isLeastInMemory 22 = .ok (.getfield 28, 3) := by decide +kernel
theorem d_SQ_isLeastInMemory_25 : decode b_SQ_isLeastInMemory 25 = .ok (.iload_n 1, 1) := by decide +kernel
theorem d_SQ_isLeastInMemory_26 : decode b_SQ_isLeastInMemory 26 = .ok (.invokevirtual 115, 3) := by decide +kernel
theorem d_SQ_isLeastInMemory_29 : decode b_SQ_isLeastInMemory 29 = .ok (.if_icmp .gt 7, 3) := by decide +kernel
theorem d_SQ_isLeastInMemory_32 : decode b_SQ_isLeastInMemory 32 = .ok (.iconst 1, 1) := by decide +kernel
theorem d_SQ_isLeastInMemory_33 : decode b_SQ_isLeastInMemory 33 = .ok (.goto 4, 3) := by decide +kernel
theorem d_SQ_isLeastInMemory_36 : decode b_SQ_isLeastInMemory 36 = .ok (.iconst 0, 1) := by decide +kernel
theorem d_SQ_isLeastInMemory_37 : decode b_SQ_isLeastInMemory 37 = .ok (.ireturn, 1) := by decide +kernel
theorem d_SQ_spill_0 : decode b_SQ_spill 0 = .ok (.aload_n 0, 1) := by decide +kernel
theorem d_SQ_spill_1 : decode b_SQ_spill 1 = .ok (.getfield 28, 3) := by decide +kernel
theorem d_SQ_spill_4 : decode b_SQ_spill 4 = .ok (.getfield 184, 3) := by decide +kernel
theorem d_SQ_spill_7 : decode b_SQ_spill 7 = .ok (.aload_n 0, 1) := by decide +kernel
theorem d_SQ_spill_8 : decode b_SQ_spill 8 = .ok (.getfield 12, 3) := by decide +kernel
theorem d_SQ_spill_11 : decode b_SQ_spill 11 = .ok (.invokevirtual 190, 3) := by decide +kernel
theorem d_SQ_spill_14 : decode b_SQ_spill 14 = .ok (.if_icmp .lt 34, 3) := by decide +kernel
theorem d_SQ_spill_17 : decode b_SQ_spill 17 = .ok (.aload_n 0, 1) := by decide +kernel
theorem d_SQ_spill_18 : decode b_SQ_spill 18 = .ok (.getfield 28, 3) := by decide +kernel
theorem d_SQ_spill_21 : decode b_SQ_spill 21 = .ok (.invokevirtual 231, 3) := by decide +kernel
theorem d_SQ_spill_24 : decode b_SQ_spill 24 = .ok (.aload_n 0, 1) := by decide +kernel
theorem d_SQ_spill_25 : decode b_SQ_spill 25 = .ok (.aload_n 0, 1) := by decide +kernel
theorem d_SQ_spill_26 : decode b_SQ_spill 26 = .ok (.getfield 28, 3) := by decide +kernel
theorem d_SQ_spill_29 : decode b_SQ_spill 29 = .ok (.aload_n 0, 1) := by decide +kernel
theorem d_SQ_spill_30 : decode b_SQ_spill 30 = .ok (.getfield 28, 3) := by decide +kernel
theorem d_SQ_spill_33 : decode b_SQ_spill 33 = .ok (.invokevirtual 234, 3) := by decide +kernel
theorem d_SQ_spill_36 : decode b_SQ_spill 36 = .ok (.iconst 1, 1) := by decide +kernel
theorem d_SQ_spill_37 : decode b_SQ_spill 37 = .ok (.iadd, 1) := by decide +kernel
theorem d_SQ_spill_38 : decode b_SQ_spill 38 = .ok (.invokevirtual 237, 3) := by decide +kernel
theorem d_SQ_spill_41 : decode b_SQ_spill 41 = .ok (.istore_n 1, 1) := by decide +kernel
theorem d_SQ_spill_42 : decode b_SQ_spill 42 = .ok (.iload_n 1, 1) := by decide +kernel
theorem d_SQ_spill_43 : decode b_SQ_spill 43 = .ok (.ifCond .eq 5, 3) := by decide +kernel
theorem d_SQ_spill_46 : decode b_SQ_spill 46 = .ok (.iload_n 1, 1) := by decide +kernel
theorem d_SQ_spill_47 : decode b_SQ_spill 47 = .ok (.ireturn, 1) := by decide +kernel
theorem d_SQ_spill_48 : decode b_SQ_spill 48 = .ok (.aload_n 0, 1) := by decide +kernel
theorem d_SQ_spill_49 : decode b_SQ_spill 49 = .ok (.aload_n 0, 1) := by decide +kernel
theorem d_SQ_spill_50 : decode b_SQ_spill 50 = .ok (.getfield 19, 3) := by decide +kernel
theorem d_SQ_spill_53 : decode b_SQ_spill 53 = .ok (.iconst 0, 1) := by decide +kernel
theorem d_SQ_spill_54 : decode b_SQ_spill 54 = .ok (.invokevirtual 237, 3) := by decide +kernel
theorem d_SQ_spill_57 : decode b_SQ_spill 57 = .ok (.istore_n 1, 1) := by decide +kernel
theorem d_SQ_spill_58 : decode b_SQ_spill 58 = .ok (.iload_n 1, 1) := by decide +kernel
theorem d_SQ_spill_59 : decode b_SQ_spill 59 = .ok (.ifCond .ne 10, 3) := by decide +kernel
theorem d_SQ_spill_62 : decode b_SQ_spill 62 = .ok (.aload_n 0, 1) := by decide +kernel
theorem d_SQ_spill_63 : decode b_SQ_spill 63 = .ok (.invokevirtual 241, 3) := by decide +kernel
