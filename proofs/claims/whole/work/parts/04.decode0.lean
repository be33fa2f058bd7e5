theorem d_BS_init_0 : decode b_BS_init 0 = .ok (.aload_n 0, 1) := by decide +kernel
theorem d_BS_init_1 : decode b_BS_init 1 = .ok (.invokespecial 3, 3) := by decide +kernel
theorem d_BS_init_4 : decode b_BS_init 4 = .ok (.aload_n 0, 1) := by decide +kernel
theorem d_BS_init_5 : decode b_BS_init 5 = .ok (.sipush 200, 3) := by decide +kernel
theorem d_BS_init_8 : decode b_BS_init 8 = .ok (.newarray .boolean, 2) := by decide +kernel
theorem d_BS_init_10 : decode b_BS_init 10 = .ok (.putfield 9, 3) := by decide +kernel
theorem d_BS_init_13 : decode b_BS_init 13 = .ok (.return_, 1) := by decide +kernel
theorem d_BS_clear_0 : decode b_BS_clear 0 = .ok (.iconst 0, 1) := by decide +kernel
theorem d_BS_clear_1 : decode b_BS_clear 1 = .ok (.istore_n 1, 1) := by decide +kernel
theorem d_BS_clear_2 : decode b_BS_clear 2 = .ok (.iload_n 1, 1) := by decide +kernel
theorem d_BS_clear_3 : decode b_BS_clear 3 = .ok (.aload_n 0, 1) := by decide +kernel
theorem d_BS_clear_4 : decode b_BS_clear 4 = .ok (.getfield 9, 3) := by decide +kernel
theorem d_BS_clear_7 : decode b_BS_clear 7 = .ok (.arraylength, 1) := by decide +kernel
theorem d_BS_clear_8 : decode b_BS_clear 8 = .ok (.if_icmp .ge 16, 3) := by decide +kernel
theorem d_BS_clear_11 : decode b_BS_clear 11 = .ok (.aload_n 0, 1) := by decide +kernel
theorem d_BS_clear_12 : decode b_BS_clear 12 = .ok (.getfield 9, 3) := by decide +kernel
theorem d_BS_clear_15 : decode b_BS_clear 15 = .ok (.iload_n 1, 1) := by decide +kernel
theorem d_BS_clear_16 : decode b_BS_clear 16 = .ok (.iconst 0, 1) := by decide +kernel
theorem d_BS_clear_17 : decode b_BS_clear 17 = .ok (.bastore, 1) := by decide +kernel
theorem d_BS_clear_18 : decode b_BS_clear 18 = .ok (.iinc 1 1, 3) := by decide +kernel
theorem d_BS_clear_21 : decode b_BS_clear 21 = .ok (.goto (-19), 3) := by decide +kernel
theorem d_BS_clear_24 : decode b_BS_clear 24 = .ok (.return_, 1) := by decide +kernel
theorem d_BS_copyOf_0 : decode b_BS_copyOf 0 = .ok (.iconst 0, 1) := by decide +kernel
theorem d_BS_copyOf_1 : decode b_BS_copyOf 1 = .ok (.istore_n 2, 1) := by decide +kernel
theorem d_BS_copyOf_2 : decode b_BS_copyOf 2 = .ok (.iload_n 2, 1) := by decide +kernel
theorem d_BS_copyOf_3 : decode b_BS_copyOf 3 = .ok (.aload_n 0, 1) := by decide +kernel
theorem d_BS_copyOf_4 : decode b_BS_copyOf 4 = .ok (.getfield 9, 3) := by decide +kernel
theorem d_BS_copyOf_7 : decode b_BS_copyOf 7 = .ok (.arraylength, 1) := by decide +kernel
theorem d_BS_copyOf_8 : decode b_BS_copyOf 8 = .ok (.if_icmp .ge 20, 3) := by decide +kernel
theorem d_BS_copyOf_11 : decode b_BS_copyOf 11 = .ok (.aload_n 0, 1) := by decide +kernel
theorem d_BS_copyOf_12 : decode b_BS_copyOf 12 = .ok (.getfield 9, 3) := by decide +kernel
theorem d_BS_copyOf_15 : decode b_BS_copyOf 15 = .ok (.iload_n 2, 1) := by decide +kernel
theorem d_BS_copyOf_16 : decode b_BS_copyOf 16 = .ok (.aload_n 1, 1) := by decide +kernel
theorem d_BS_copyOf_17 : decode b_BS_copyOf 17 = .ok (.iload_n 2, 1) := by decide +kernel
theorem d_BS_copyOf_18 : decode b_BS_copyOf 18 = .ok (.invokevirtual 15, 3) := by decide +kernel
theorem d_BS_copyOf_21 : decode b_BS_copyOf 21 = .ok (.bastore, 1) := by decide +kernel
theorem d_BS_copyOf_22 : decode b_BS_copyOf 22 = .ok (.iinc 2 1, 3) := by decide +kernel
theorem d_BS_copyOf_25 : decode b_BS_copyOf 25 = .ok (.goto (-23), 3) := by decide +kernel
theorem d_BS_copyOf_28 : decode b_BS_copyOf 28 = .ok (.return_, 1) := by decide +kernel
theorem d_BS_add_0 : decode b_BS_add 0 = .ok (.iload_n 1, 1) := by decide +kernel
theorem d_BS_add_1 : decode b_BS_add 1 = .ok (.ifCond .lt 19, 3) := by decide +kernel
theorem d_BS_add_4 : decode b_BS_add 4 = .ok (.iload_n 1, 1) := by decide +kernel
theorem d_BS_add_5 : decode b_BS_add 5 = .ok (.aload_n 0, 1) := by decide +kernel
theorem d_BS_add_6 : decode b_BS_add 6 = .ok (.getfield 9, 3) := by decide +kernel
theorem d_BS_add_9 : decode b_BS_add 9 = .ok (.arraylength, 1) := by decide +kernel
theorem d_BS_add_10 : decode b_BS_add 10 = .ok (.if_icmp .ge 10, 3) := by decide +kernel
theorem d_BS_add_13 : decode b_BS_add 13 = .ok (.aload_n 0, 1) := by decide +kernel
theorem d_BS_add_14 : decode b_BS_add 14 = .ok (.getfield 9, 3) := by decide +kernel
theorem d_BS_add_17 : decode b_BS_add 17 = .ok (.iload_n 1, 1) := by decide +kernel
theorem d_BS_add_18 : decode b_BS_add 18 = .ok (.iconst 1, 1) := by decide +kernel
theorem d_BS_add_19 : decode b_BS_add 19 = .ok (.bastore, 1) := by decide +kernel
theorem d_BS_add_20 : decode b_BS_add 20 = .ok (.return_, 1) := by decide +kernel
theorem d_BS_has_0 : decode b_BS_has 0 = .ok (.iload_n 1, 1) := by decide +kernel
theorem d_BS_has_1 : decode b_BS_has 1 = .ok (.ifCond .lt 25, 3) := by decide +kernel
theorem d_BS_has_4 : decode b_BS_has 4 = .ok (.iload_n 1, 1) := by decide +kernel
theorem d_BS_has_5 : decode b_BS_has 5 = .ok (.aload_n 0, 1) := by decide +kernel
theorem d_BS_has_6 : decode b_BS_has 6 = .ok (.getfield 9, 3) := by decide +kernel
theorem d_BS_has_9 : decode b_BS_has 9 = .ok (.arraylength, 1) := by decide +kernel
theorem d_BS_has_10 : decode b_BS_has 10 = .ok (.if_icmp .ge 16, 3) := by decide +kernel
theorem d_BS_has_13 : decode b_BS_has 13 = .ok (.aload_n 0, 1) := by decide +kernel
theorem d_BS_has_14 : decode b_BS_has 14 = .ok (.getfield 9, 3) := by decide +kernel
theorem d_BS_has_17 : decode b_BS_has 17 = .ok (.iload_n 1, 1) := by decide +kernel
theorem d_BS_has_18 : decode b_BS_has 18 = .ok (.baload, 1) := by decide +kernel
theorem d_BS_has_19 : decode b_BS_has 19 = .ok (.ifCond .eq 7, 3) := by decide +kernel
theorem d_BS_has_22 : decode b_BS_has 22 = .ok (.iconst 1, 1) := by decide +kernel
theorem d_BS_has_23 : decode b_BS_has 23 = .ok (.goto 4, 3) := by decide +kernel
theorem d_BS_has_26 : decode b_BS_has 26 = .ok (.iconst 0, 1) := by decide +kernel
theorem d_BS_has_27 : decode b_BS_has 27 = .ok (.ireturn, 1) := by decide +kernel
theorem d_DK_init_0 : decode b_DK_init 0 = .ok (.aload_n 0, 1) := by decide +kernel
theorem d_DK_init_1 : decode b_DK_init 1 = .ok (.invokespecial 3, 3) := by decide +kernel
theorem d_DK_init_4 : decode b_DK_init 4 = .ok (.aload_n 0, 1) := by decide +kernel
theorem d_DK_init_5 : decode b_DK_init 5 = .ok (.sipush 8000, 3) := by decide +kernel
theorem d_DK_init_8 : decode b_DK_init 8 = .ok (.newarray .int, 2) := by decide +kernel
theorem d_DK_init_10 : decode b_DK_init 10 = .ok (.putfield 9, 3) := by decide +kernel
theorem d_DK_init_13 : decode b_DK_init 13 = .ok (.aload_n 0, 1) := by decide +kernel
theorem d_DK_init_14 : decode b_DK_init 14 = .ok (.bipush 40, 2) := by decide +kernel
theorem d_DK_init_16 : decode b_DK_init 16 = .ok (.newarray .int, 2) := by decide +kernel
theorem d_DK_init_18 : decode b_DK_init 18 = .ok (.putfield 15, 3) := by decide +kernel
theorem d_DK_init_21 : decode b_DK_init 21 = .ok (.return_, 1) := by decide +kernel
theorem d_DK_renew_0 : decode b_DK_renew 0 = .ok (.aload_n 0, 1) := by decide +kernel
theorem d_DK_renew_1 : decode b_DK_renew 1 = .ok (.iload_n 1, 1) := by decide +kernel
theorem d_DK_renew_2 : decode b_DK_renew 2 = .ok (.putfield 18, 3) := by decide +kernel
theorem d_DK_renew_5 : decode b_DK_renew 5 = .ok (.aload_n 0, 1) := by decide +kernel
theorem d_DK_renew_6 : decode b_DK_renew 6 = .ok (.iload_n 2, 1) := by decide +kernel
theorem d_DK_renew_7 : decode b_DK_renew 7 = .ok (.putfield 22, 3) := by decide +kernel
theorem d_DK_renew_10 : decode b_DK_renew 10 = .ok (.aload_n 0, 1) := by decide +kernel
theorem d_DK_renew_11 : decode b_DK_renew 11 = .ok (.iconst 0, 1) := by decide +kernel
theorem d_DK_renew_12 : decode b_DK_renew 12 = .ok (.putfield 25, 3) := by decide +kernel
theorem d_DK_renew_15 : decode b_DK_renew 15 = .ok (.aload_n 0, 1) := by decide +kernel
theorem d_DK_renew_16 : decode b_DK_renew 16 = .ok (.iconst 0, 1) := by decide +kernel
theorem d_DK_renew_17 : decode b_DK_renew 17 = .ok (.putfield 28, 3) := by decide +kernel
theorem d_DK_renew_20 : decode b_DK_renew 20 = .ok (.aload_n 0, 1) := by decide +kernel
theorem d_DK_renew_21 : decode b_DK_renew 21 = .ok (.getfield 9, 3) := by decide +kernel
theorem d_DK_renew_24 : decode b_DK_renew 24 = .ok (.iconst 0, 1) := by decide +kernel
theorem d_DK_renew_25 : decode b_DK_renew 25 = .ok (.invokestatic 31, 3) := by decide +kernel
theorem d_DK_renew_28 : decode b_DK_renew 28 = .ok (.return_, 1) := by decide +kernel
theorem d_DK_has_0 : decode b_DK_has 0 = .ok (.iload_n 1, 1) := by decide +kernel
theorem d_DK_has_1 : decode b_DK_has 1 = .ok (.ifCond .lt 27, 3) := by decide +kernel
theorem d_DK_has_4 : decode b_DK_has 4 = .ok (.iload_n 1, 1) := by decide +kernel
theorem d_DK_has_5 : decode b_DK_has 5 = .ok (.aload_n 0, 1) := by decide +kernel
theorem d_DK_has_6 : decode b_DK_has 6 = .ok (.getfield 18, 3) := by decide +kernel
theorem d_DK_has_9 : decode b_DK_has 9 = .ok (.if_icmp .ge 19, 3) := by decide +kernel
theorem d_DK_has_12 : decode b_DK_has 12 = .ok (.iload_n 2, 1) := by decide +kernel
theorem d_DK_has_13 : decode b_DK_has 13 = .ok (.ifCond .lt 15, 3) := by decide +kernel
theorem d_DK_has_16 : decode b_DK_has 16 = .ok (.iload_n 2, 1) := by decide +kernel
theorem d_DK_has_17 : decode b_DK_has 17 = .ok (.aload_n 0, 1) := by decide +kernel
theorem d_DK_has_18 : decode b_DK_has 18 = .ok (.getfield 22, 3) := by decide +kernel
theorem d_DK_has_21 : decode b_DK_has 21 = .ok (.if_icmp .ge 7, 3) := by decide +kernel
theorem d_DK_has_24 : decode b_DK_has 24 = .ok (.iconst 1, 1) := by decide +kernel
theorem d_DK_has_25 : decode b_DK_has 25 = .ok (.goto 4, 3) := by decide +kernel
theorem d_DK_has_28 : decode b_DK_has 28 = .ok (.iconst 0, 1) := by decide +kernel
theorem d_DK_has_29 : decode b_DK_has 29 = .ok (.ireturn, 1) := by decide +kernel
theorem d_DK_get_0 : decode b_DK_get 0 = .ok (.iload_n 1, 1) := by decide +kernel
theorem d_DK_get_1 : decode b_DK_get 1 = .ok (.ifCond .lt 23, 3) := by decide +kernel
theorem d_DK_get_4 : decode b_DK_get 4 = .ok (.iload_n 1, 1) := by decide +kernel
theorem d_DK_get_5 : decode b_DK_get 5 = .ok (.aload_n 0, 1) := by decide +kernel
theorem d_DK_get_6 : decode b_DK_get 6 = .ok (.getfield 18, 3) := by decide +kernel
theorem d_DK_get_9 : decode b_DK_get 9 = .ok (.if_icmp .ge 15, 3) := by decide +kernel
theorem d_DK_get_12 : decode b_DK_get 12 = .ok (.iload_n 2, 1) := by decide +kernel
theorem d_DK_get_13 : decode b_DK_get 13 = .ok (.ifCond .lt 11, 3) := by decide +kernel
theorem d_DK_get_16 : decode b_DK_get 16 = .ok (.iload_n 2, 1) := by decide +kernel
theorem d_DK_get_17 : decode b_DK_get 17 = .ok (.aload_n 0, 1) := by decide +kernel
theorem d_DK_get_18 : decode b_DK_get 18 = .ok (.getfield 22, 3) := by decide +kernel
theorem d_DK_get_21 : decode b_DK_get 21 = .ok (.if_icmp .lt 5, 3) := by decide +kernel
theorem d_DK_get_24 : decode b_DK_get 24 = .ok (.iconst 0, 1) := by decide +kernel
theorem d_DK_get_25 : decode b_DK_get 25 = .ok (.ireturn, 1) := by decide +kernel
theorem d_DK_get_26 : decode b_DK_get 26 = .ok (.aload_n 0, 1) := by decide +kernel
theorem d_DK_get_27 : decode b_DK_get 27 = .ok (.getfield 9, 3) := by decide +kernel
theorem d_DK_get_30 : decode b_DK_get 30 = .ok (.iload_n 1, 1) := by decide +kernel
theorem d_DK_get_31 : decode b_DK_get 31 = .ok (.aload_n 0, 1) := by decide +kernel
theorem d_DK_get_32 : decode b_DK_get 32 = .ok (.getfield 22, 3) := by decide +kernel
theorem d_DK_get_35 : decode b_DK_get 35 = .ok (.imul, 1) := by decide +kernel
theorem d_DK_get_36 : decode b_DK_get 36 = .ok (.iload_n 2, 1) := by decide +kernel
theorem d_DK_get_37 : decode b_DK_get 37 = .ok (.iadd, 1) := by decide +kernel
theorem d_DK_get_38 : decode b_DK_get 38 = .ok (.iaload, 1) := by decide +kernel
theorem d_DK_get_39 : decode b_DK_get 39 = .ok (.ireturn, 1) := by decide +kernel
theorem d_DK_turnOver_0 : decode b_DK_turnOver 0 = .ok (.aload_n 0, 1) := by decide +kernel
theorem d_DK_turnOver_1 : decode b_DK_turnOver 1 = .ok (.iload_n 1, 1) := by decide +kernel
theorem d_DK_turnOver_2 : decode b_DK_turnOver 2 = .ok (.iload_n 2, 1) := by decide +kernel
theorem d_DK_turnOver_3 : decode b_DK_turnOver 3 = .ok (.invokevirtual 37, 3) := by decide +kernel
theorem d_DK_turnOver_6 : decode b_DK_turnOver 6 = .ok (.ifCond .eq 20, 3) := by decide +kernel
theorem d_DK_turnOver_9 : decode b_DK_turnOver 9 = .ok (.aload_n 0, 1) := by decide +kernel
theorem d_DK_turnOver_10 : decode b_DK_turnOver 10 = .ok (.getfield 9, 3) := by decide +kernel
theorem d_DK_turnOver_13 : decode b_DK_turnOver 13 = .ok (.iload_n 1, 1) := by decide +kernel
theorem d_DK_turnOver_14 : decode b_DK_turnOver 14 = .ok (.aload_n 0, 1) := by decide +kernel
theorem d_DK_turnOver_15 : decode b_DK_turnOver 15 = .ok (.getfield 22, 3) := by decide +kernel
theorem d_DK_turnOver_18 : decode b_DK_turnOver 18 = .ok (.imul, 1) := by decide +kernel
theorem d_DK_turnOver_19 : decode b_DK_turnOver 19 = .ok (.iload_n 2, 1) := by decide +kernel
theorem d_DK_turnOver_20 : decode b_DK_turnOver 20 = .ok (.iadd, 1) := by decide +kernel
theorem d_DK_turnOver_21 : decode b_DK_turnOver 21 = .ok (.dup2, 1) := by decide +kernel
theorem d_DK_turnOver_22 : decode b_DK_turnOver 22 = .ok (.iaload, 1) := by decide +kernel
theorem d_DK_turnOver_23 : decode b_DK_turnOver 23 = .ok (.iload_n 3, 1) := by decide +kernel
theorem d_DK_turnOver_24 : decode b_DK_turnOver 24 = .ok (.ixor, 1) := by decide +kernel
theorem d_DK_turnOver_25 : decode b_DK_turnOver 25 = .ok (.iastore, 1) := by decide +kernel
theorem d_DK_turnOver_26 : decode b_DK_turnOver 26 = .ok (.return_, 1) := by decide +kernel
theorem d_DK_keysPerBlock_0 : decode b_DK_keysPerBlock 0 = .ok (.aload_n 0, 1) := by decide +kernel
theorem d_DK_keysPerBlock_1 : decode b_DK_keysPerBlock 1 = .ok (.getfield 22, 3) := by decide +kernel
theorem d_DK_keysPerBlock_4 : decode b_DK_keysPerBlock 4 = .ok (.iconst 2, 1) := by decide +kernel
theorem d_DK_keysPerBlock_5 : decode b_DK_keysPerBlock 5 = .ok (.isub, 1) := by decide +kernel
theorem d_DK_keysPerBlock_6 : decode b_DK_keysPerBlock 6 = .ok (.ireturn, 1) := by decide +kernel
theorem d_DK_mostRuns_0 : decode b_DK_mostRuns 0 = .ok (.aload_n 0, 1) := by decide +kernel
theorem d_DK_mostRuns_1 : decode b_DK_mostRuns 1 = .ok (.getfield 22, 3) := by decide +kernel
theorem d_DK_mostRuns_4 : decode b_DK_mostRuns 4 = .ok (.iconst 3, 1) := by decide +kernel
theorem d_DK_mostRuns_5 : decode b_DK_mostRuns 5 = .ok (.isub, 1) := by decide +kernel
theorem d_DK_mostRuns_6 : decode b_DK_mostRuns 6 = .ok (.iconst 4, 1) := by decide +kernel
theorem d_DK_mostRuns_7 : decode b_DK_mostRuns 7 = .ok (.idiv, 1) := by decide +kernel
theorem d_DK_mostRuns_8 : decode b_DK_mostRuns 8 = .ok (.ireturn, 1) := by decide +kernel
theorem d_DK_blocksFor_0 : decode b_DK_blocksFor 0 = .ok (.aload_n 0, 1) := by decide +kernel
theorem d_DK_blocksFor_1 : decode b_DK_blocksFor 1 = .ok (.invokevirtual 41, 3) := by decide +kernel
theorem d_DK_blocksFor_4 : decode b_DK_blocksFor 4 = .ok (.istore_n 2, 1) := by decide +kernel
theorem d_DK_blocksFor_5 : decode b_DK_blocksFor 5 = .ok (.iload_n 2, 1) := by decide +kernel
theorem d_DK_blocksFor_6 : decode b_DK_blocksFor 6 = .ok (.ifCond .le 13, 3) := by decide +kernel
theorem d_DK_blocksFor_9 : decode b_DK_blocksFor 9 = .ok (.iload_n 1, 1) := by decide +kernel
theorem d_DK_blocksFor_10 : decode b_DK_blocksFor 10 = .ok (.iload_n 2, 1) := by decide +kernel
theorem d_DK_blocksFor_11 : decode b_DK_blocksFor 11 = .ok (.iadd, 1) := by decide +kernel
theorem d_DK_blocksFor_12 : decode b_DK_blocksFor 12 = .ok (.iconst 1, 1) := by decide +kernel
theorem d_DK_blocksFor_13 : decode b_DK_blocksFor 13 = .ok (.isub, 1) := by decide +kernel
theorem d_DK_blocksFor_14 : decode b_DK_blocksFor 14 = .ok (.iload_n 2, 1) := by decide +kernel
theorem d_DK_blocksFor_15 : decode b_DK_blocksFor 15 = .ok (.idiv, 1) := by decide +kernel
theorem d_DK_blocksFor_16 : decode b_DK_blocksFor 16 = .ok (.goto 4, 3) := by decide +kernel
theorem d_DK_blocksFor_19 : decode b_DK_blocksFor 19 = .ok (.iconst 0, 1) := by decide +kernel
theorem d_DK_blocksFor_20 : decode b_DK_blocksFor 20 = .ok (.ireturn, 1) := by decide +kernel
theorem d_DK_clearRow_0 : decode b_DK_clearRow 0 = .ok (.aload_n 0, 1) := by decide +kernel
theorem d_DK_clearRow_1 : decode b_DK_clearRow 1 = .ok (.getfield 15, 3) := by decide +kernel
theorem d_DK_clearRow_4 : decode b_DK_clearRow 4 = .ok (.iconst 0, 1) := by decide +kernel
theorem d_DK_clearRow_5 : decode b_DK_clearRow 5 = .ok (.invokestatic 31, 3) := by decide +kernel
theorem d_DK_clearRow_8 : decode b_DK_clearRow 8 = .ok (.return_, 1) := by decide +kernel
theorem d_DK_setRow_0 : decode b_DK_setRow 0 = .ok (.iload_n 1, 1) := by decide +kernel
theorem d_DK_setRow_1 : decode b_DK_setRow 1 = .ok (.ifCond .lt 19, 3) := by decide +kernel
theorem d_DK_setRow_4 : decode b_DK_setRow 4 = .ok (.iload_n 1, 1) := by decide +kernel
theorem d_DK_setRow_5 : decode b_DK_setRow 5 = .ok (.aload_n 0, 1) := by decide +kernel
theorem d_DK_setRow_6 : decode b_DK_setRow 6 = .ok (.getfield 15, 3) := by decide +kernel
theorem d_DK_setRow_9 : decode b_DK_setRow 9 = .ok (.arraylength, 1) := by decide +kernel
theorem d_DK_setRow_10 : decode b_DK_setRow 10 = .ok (.if_icmp .ge 10, 3) := by decide +kernel
theorem d_DK_setRow_13 : decode b_DK_setRow 13 = .ok (.aload_n 0, 1) := by decide +kernel
theorem d_DK_setRow_14 : decode b_DK_setRow 14 = .ok (.getfield 15, 3) := by decide +kernel
theorem d_DK_setRow_17 : decode b_DK_setRow 17 = .ok (.iload_n 1, 1) := by decide +kernel
theorem d_DK_setRow_18 : decode b_DK_setRow 18 = .ok (.iload_n 2, 1) := by decide +kernel
theorem d_DK_setRow_19 : decode b_DK_setRow 19 = .ok (.iastore, 1) := by decide +kernel
theorem d_DK_setRow_20 : decode b_DK_setRow 20 = .ok (.return_, 1) := by decide +kernel
theorem d_DK_writeRow_0 : decode b_DK_writeRow 0 = .ok (.aload_n 0, 1) := by decide +kernel
theorem d_DK_writeRow_1 : decode b_DK_writeRow 1 = .ok (.getfield 28, 3) := by decide +kernel
theorem d_DK_writeRow_4 : decode b_DK_writeRow 4 = .ok (.ifCond .le 22, 3) := by decide +kernel
theorem d_DK_writeRow_7 : decode b_DK_writeRow 7 = .ok (.aload_n 0, 1) := by decide +kernel
theorem d_DK_writeRow_8 : decode b_DK_writeRow 8 = .ok (.dup, 1) := by decide +kernel
theorem d_DK_writeRow_9 : decode b_DK_writeRow 9 = .ok (.getfield 28, 3) := by decide +kernel
theorem d_DK_writeRow_12 : decode b_DK_writeRow 12 = .ok (.iconst 1, 1) := by decide +kernel
theorem d_DK_writeRow_13 : decode b_DK_writeRow 13 = .ok (.isub, 1) := by decide +kernel
theorem d_DK_writeRow_14 : decode b_DK_writeRow 14 = .ok (.putfield 28, 3) := by decide +kernel
theorem d_DK_writeRow_17 : decode b_DK_writeRow 17 = .ok (.aload_n 0, 1) := by decide +kernel
theorem d_DK_writeRow_18 : decode b_DK_writeRow 18 = .ok (.getfield 28, 3) := by decide +kernel
theorem d_DK_writeRow_21 : decode b_DK_writeRow 21 = .ok (.ifCond .ne 5, 3) := by decide +kernel
theorem d_DK_writeRow_24 : decode b_DK_writeRow 24 = .ok (.iconst 0, 1) := by decide +kernel
theorem d_DK_writeRow_25 : decode b_DK_writeRow 25 = .ok (.ireturn, 1) := by decide +kernel
theorem d_DK_writeRow_26 : decode b_DK_writeRow 26 = .ok (.iload_n 1, 1) := by decide +kernel
theorem d_DK_writeRow_27 : decode b_DK_writeRow 27 = .ok (.ifCond .lt 61, 3) := by decide +kernel
theorem d_DK_writeRow_30 : decode b_DK_writeRow 30 = .ok (.iload_n 1, 1) := by decide +kernel
theorem d_DK_writeRow_31 : decode b_DK_writeRow 31 = .ok (.aload_n 0, 1) := by decide +kernel
theorem d_DK_writeRow_32 : decode b_DK_writeRow 32 = .ok (.getfield 18, 3) := by decide +kernel
theorem d_DK_writeRow_35 : decode b_DK_writeRow 35 = .ok (.if_icmp .ge 53, 3) := by decide +kernel
theorem d_DK_writeRow_38 : decode b_DK_writeRow 38 = .ok (.aload_n 0, 1) := by decide +kernel
theorem d_DK_writeRow_39 : decode b_DK_writeRow 39 = .ok (.getfield 15, 3) := by decide +kernel
theorem d_DK_writeRow_42 : decode b_DK_writeRow 42 = .ok (.iconst 0, 1) := by decide +kernel
theorem d_DK_writeRow_43 : decode b_DK_writeRow 43 = .ok (.aload_n 0, 1) := by decide +kernel
theorem d_DK_writeRow_44 : decode b_DK_writeRow 44 = .ok (.getfield 9, 3) := by decide +kernel
theorem d_DK_writeRow_47 : decode b_DK_writeRow 47 = .ok (.iload_n 1, 1) := by decide +kernel
theorem d_DK_writeRow_48 : decode b_DK_writeRow 48 = .ok (.aload_n 0, 1) := by decide +kernel
theorem d_DK_writeRow_49 : decode b_DK_writeRow 49 = .ok (.getfield 22, 3) := by decide +kernel
theorem d_DK_writeRow_52 : decode b_DK_writeRow 52 = .ok (.imul, 1) := by decide +kernel
theorem d_DK_writeRow_53 : decode b_DK_writeRow 53 = .ok (.aload_n 0, 1) := by decide +kernel
theorem d_DK_writeRow_54 : decode b_DK_writeRow 54 = .ok (.getfield 22, 3) := by decide +kernel
theorem d_DK_writeRow_57 : decode b_DK_writeRow 57 = .ok (.invokestatic 45, 3) := by decide +kernel
theorem d_DK_writeRow_60 : decode b_DK_writeRow 60 = .ok (.aload_n 0, 1) := by decide +kernel
theorem d_DK_writeRow_61 : decode b_DK_writeRow 61 = .ok (.getfield 9, 3) := by decide +kernel
theorem d_DK_writeRow_64 : decode b_DK_writeRow 64 = .ok (.iload_n 1, 1) := by decide +kernel
theorem d_DK_writeRow_65 : decode b_DK_writeRow 65 = .ok (.aload_n 0, 1) := by decide +kernel
theorem d_DK_writeRow_66 : decode b_DK_writeRow 66 = .ok (.getfield 22, 3) := by decide +kernel
theorem d_DK_writeRow_69 : decode b_DK_writeRow 69 = .ok (.imul, 1) := by decide +kernel
theorem d_DK_writeRow_70 : decode b_DK_writeRow 70 = .ok (.iconst 0, 1) := by decide +kernel
theorem d_DK_writeRow_71 : decode b_DK_writeRow 71 = .ok (.iadd, 1) := by decide +kernel
theorem d_DK_writeRow_72 : decode b_DK_writeRow 72 = .ok (.aload_n 0, 1) := by decide +kernel
theorem d_DK_writeRow_73 : decode b_DK_writeRow 73 = .ok (.iload_n 1, 1) := by decide +kernel
theorem d_DK_writeRow_74 : decode b_DK_writeRow 74 = .ok (.invokevirtual 51, 3) := by decide +kernel
theorem d_DK_writeRow_77 : decode b_DK_writeRow 77 = .ok (.iastore, 1) := by decide +kernel
theorem d_DK_writeRow_78 : decode b_DK_writeRow 78 = .ok (.aload_n 0, 1) := by decide +kernel
theorem d_DK_writeRow_79 : decode b_DK_writeRow 79 = .ok (.dup, 1) := by decide +kernel
theorem d_DK_writeRow_80 : decode b_DK_writeRow 80 = .ok (.getfield 25, 3) := by decide +kernel
theorem d_DK_writeRow_83 : decode b_DK_writeRow 83 = .ok (.iconst 1, 1) := by decide +kernel
theorem d_DK_writeRow_84 : decode b_DK_writeRow 84 = .ok (.iadd, 1) := by decide +kernel
theorem d_DK_writeRow_85 : decode b_DK_writeRow 85 = .ok (.putfield 25, 3) := by decide +kernel
theorem d_DK_writeRow_88 : decode b_DK_writeRow 88 = .ok (.iconst 1, 1) := by decide +kernel
theorem d_DK_writeRow_89 : decode b_DK_writeRow 89 = .ok (.ireturn, 1) := by decide +kernel
theorem d_DK_sumOf_0 : decode b_DK_sumOf 0 = .ok (.bipush 7, 2) := by decide +kernel
theorem d_DK_sumOf_2 : decode b_DK_sumOf 2 = .ok (.istore_n 2, 1) := by decide +kernel
theorem d_DK_sumOf_3 : decode b_DK_sumOf 3 = .ok (.iload_n 1, 1) := by decide +kernel
theorem d_DK_sumOf_4 : decode b_DK_sumOf 4 = .ok (.ifCond .lt 55, 3) := by decide +kernel
theorem d_DK_sumOf_7 : decode b_DK_sumOf 7 = .ok (.iload_n 1, 1) := by decide +kernel
theorem d_DK_sumOf_8 : decode b_DK_sumOf 8 = .ok (.aload_n 0, 1) := by decide +kernel
theorem d_DK_sumOf_9 : decode b_DK_sumOf 9 = .ok (.getfield 18, 3) := by decide +kernel
theorem d_DK_sumOf_12 : decode b_DK_sumOf 12 = .ok (.if_icmp .ge 47, 3) := by decide +kernel
theorem d_DK_sumOf_15 : decode b_DK_sumOf 15 = .ok (.iload_n 1, 1) := by decide +kernel
theorem d_DK_sumOf_16 : decode b_DK_sumOf 16 = .ok (.aload_n 0, 1) := by decide +kernel
theorem d_DK_sumOf_17 : decode b_DK_sumOf 17 = .ok (.getfield 22, 3) := by decide +kernel
theorem d_DK_sumOf_20 : decode b_DK_sumOf 20 = .ok (.imul, 1) := by decide +kernel
theorem d_DK_sumOf_21 : decode b_DK_sumOf 21 = .ok (.istore_n 3, 1) := by decide +kernel
theorem d_DK_sumOf_22 : decode b_DK_sumOf 22 = .ok (.iconst 1, 1) := by decide +kernel
theorem d_DK_sumOf_23 : decode b_DK_sumOf 23 = .ok (.istore 4, 2) := by decide +kernel
theorem d_DK_sumOf_25 : decode b_DK_sumOf 25 = .ok (.iload 4, 2) := by decide +kernel
theorem d_DK_sumOf_27 : decode b_DK_sumOf 27 = .ok (.aload_n 0, 1) := by decide +kernel
theorem d_DK_sumOf_28 : decode b_DK_sumOf 28 = .ok (.getfield 22, 3) := by decide +kernel
theorem d_DK_sumOf_31 : decode b_DK_sumOf 31 = .ok (.if_icmp .ge 28, 3) := by decide +kernel
theorem d_DK_sumOf_34 : decode b_DK_sumOf 34 = .ok (.iload_n 2, 1) := by decide +kernel
theorem d_DK_sumOf_35 : decode b_DK_sumOf 35 = .ok (.aload_n 0, 1) := by decide +kernel
theorem d_DK_sumOf_36 : decode b_DK_sumOf 36 = .ok (.getfield 9, 3) := by decide +kernel
theorem d_DK_sumOf_39 : decode b_DK_sumOf 39 = .ok (.iload_n 3, 1) := by decide +kernel
theorem d_DK_sumOf_40 : decode b_DK_sumOf 40 = .ok (.iload 4, 2) := by decide +kernel
theorem d_DK_sumOf_42 : decode b_DK_sumOf 42 = .ok (.iadd, 1) := by decide +kernel
theorem d_DK_sumOf_43 : decode b_DK_sumOf 43 = .ok (.iaload, 1) := by decide +kernel
theorem d_DK_sumOf_44 : decode b_DK_sumOf 44 = .ok (.iconst 2, 1) := by decide +kernel
theorem d_DK_sumOf_45 : decode b_DK_sumOf 45 = .ok (.iload 4, 2) := by decide +kernel
theorem d_DK_sumOf_47 : decode b_DK_sumOf 47 = .ok (.imul, 1) := by decide +kernel
theorem d_DK_sumOf_48 : decode b_DK_sumOf 48 = .ok (.iconst 1, 1) := by decide +kernel
theorem d_DK_sumOf_49 : decode b_DK_sumOf 49 = .ok (.iadd, 1) := by decide +kernel
theorem d_DK_sumOf_50 : decode b_DK_sumOf 50 = .ok (.imul, 1) := by decide +kernel
theorem d_DK_sumOf_51 : decode b_DK_sumOf 51 = .ok (.iadd, 1) := by decide +kernel
theorem d_DK_sumOf_52 : decode b_DK_sumOf 52 = .ok (.istore_n 2, 1) := by decide +kernel
theorem d_DK_sumOf_53 : decode b_DK_sumOf 53 = .ok (.iinc 4 1, 3) := by decide +kernel
theorem d_DK_sumOf_56 : decode b_DK_sumOf 56 = .ok (.goto (-31), 3) := by decide +kernel
theorem d_DK_sumOf_59 : decode b_DK_sumOf 59 = .ok (.iload_n 2, 1) := by decide +kernel
theorem d_DK_sumOf_60 : decode b_DK_sumOf 60 = .ok (.ireturn, 1) := by decide +kernel
theorem d_ME_init_0 : decode b_ME_init 0 = .ok (.aload_n 0, 1) := by decide +kernel
theorem d_ME_init_1 : decode b_ME_init 1 = .ok (.invokespecial 3, 3) := by decide +kernel
theorem d_ME_init_4 : decode b_ME_init 4 = .ok (.aload_n 0, 1) := by decide +kernel
theorem d_ME_init_5 : decode b_ME_init 5 = .ok (.bipush 100, 2) := by decide +kernel
theorem d_ME_init_7 : decode b_ME_init 7 = .ok (.newarray .int, 2) := by decide +kernel
theorem d_ME_init_9 : decode b_ME_init 9 = .ok (.putfield 9, 3) := by decide +kernel
theorem d_ME_init_12 : decode b_ME_init 12 = .ok (.return_, 1) := by decide +kernel
theorem d_ME_clear_0 : decode b_ME_clear 0 = .ok (.aload_n 0, 1) := by decide +kernel
theorem d_ME_clear_1 : decode b_ME_clear 1 = .ok (.iconst 0, 1) := by decide +kernel
theorem d_ME_clear_2 : decode b_ME_clear 2 = .ok (.putfield 15, 3) := by decide +kernel
theorem d_ME_clear_5 : decode b_ME_clear 5 = .ok (.return_, 1) := by decide +kernel
theorem d_ME_isFull_0 : decode b_ME_isFull 0 = .ok (.aload_n 0, 1) := by decide +kernel
theorem d_ME_isFull_1 : decode b_ME_isFull 1 = .ok (.getfield 15, 3) := by decide +kernel
theorem d_ME_isFull_4 : decode b_ME_isFull 4 = .ok (.aload_n 0, 1) := by decide +kernel
theorem d_ME_isFull_5 : decode b_ME_isFull 5 = .ok (.getfield 19, 3) := by decide +kernel
theorem d_ME_isFull_8 : decode b_ME_isFull 8 = .ok (.if_icmp .lt 7, 3) := by decide +kernel
theorem d_ME_isFull_11 : decode b_ME_isFull 11 = .ok (.iconst 1, 1) := by decide +kernel
theorem d_ME_isFull_12 : decode b_ME_isFull 12 = .ok (.goto 4, 3) := by decide +kernel
theorem d_ME_isFull_15 : decode b_ME_isFull 15 = .ok (.iconst 0, 1) := by decide +kernel
theorem d_ME_isFull_16 : decode b_ME_isFull 16 = .ok (.ireturn, 1) := by decide +kernel
theorem d_ME_add_0 : decode b_ME_add 0 = .ok (.aload_n 0, 1) := by decide +kernel
theorem d_ME_add_1 : decode b_ME_add 1 = .ok (.getfield 15, 3) := by decide +kernel
theorem d_ME_add_4 : decode b_ME_add 4 = .ok (.aload_n 0, 1) := by decide +kernel
theorem d_ME_add_5 : decode b_ME_add 5 = .ok (.getfield 9, 3) := by decide +kernel
theorem d_ME_add_8 : decode b_ME_add 8 = .ok (.arraylength, 1) := by decide +kernel
theorem d_ME_add_9 : decode b_ME_add 9 = .ok (.if_icmp .lt 4, 3) := by decide +kernel
theorem d_ME_add_12 : decode b_ME_add 12 = .ok (.return_, 1) := by decide +kernel
theorem d_ME_add_13 : decode b_ME_add 13 = .ok (.aload_n 0, 1) := by decide +kernel
theorem d_ME_add_14 : decode b_ME_add 14 = .ok (.getfield 15, 3) := by decide +kernel
theorem d_ME_add_17 : decode b_ME_add 17 = .ok (.istore_n 2, 1) := by decide +kernel
theorem d_ME_add_18 : decode b_ME_add 18 = .ok (.iload_n 2, 1) := by decide +kernel
theorem d_ME_add_19 : decode b_ME_add 19 = .ok (.ifCond .le 35, 3) := by decide +kernel
theorem d_ME_add_22 : decode b_ME_add 22 = .ok (.aload_n 0, 1) := by decide +kernel
theorem d_ME_add_23 : decode b_ME_add 23 = .ok (.getfield 9, 3) := by decide +kernel
theorem d_ME_add_26 : decode b_ME_add 26 = .ok (.iload_n 2, 1) := by decide +kernel
theorem d_ME_add_27 : decode b_ME_add 27 = .ok (.iconst 1, 1) := by decide +kernel
theorem d_ME_add_28 : decode b_ME_add 28 = .ok (.isub, 1) := by decide +kernel
theorem d_ME_add_29 : decode b_ME_add 29 = .ok (.iaload, 1) := by decide +kernel
theorem d_ME_add_30 : decode b_ME_add 30 = .ok (.iload_n 1, 1) := by decide +kernel
theorem d_ME_add_31 : decode b_ME_add 31 = .ok (.if_icmp .ge 23, 3) := by decide +kernel
theorem d_ME_add_34 : decode b_ME_add 34 = .ok (.aload_n 0, 1) := by decide +kernel
theorem d_ME_add_35 : decode b_ME_add 35 = .ok (.getfield 9, 3) := by decide +kernel
theorem d_ME_add_38 : decode b_ME_add 38 = .ok (.iload_n 2, 1) := by decide +kernel
theorem d_ME_add_39 : decode b_ME_add 39 = .ok (.aload_n 0, 1) := by decide +kernel
theorem d_ME_add_40 : decode b_ME_add 40 = .ok (.getfield 9, 3) := by decide +kernel
theorem d_ME_add_43 : decode b_ME_add 43 = .ok (.iload_n 2, 1) := by decide +kernel
theorem d_ME_add_44 : decode b_ME_add 44 = .ok (.iconst 1, 1) := by decide +kernel
theorem d_ME_add_45 : decode b_ME_add 45 = .ok (.isub, 1) := by decide +kernel
theorem d_ME_add_46 : decode b_ME_add 46 = .ok (.iaload, 1) := by decide +kernel
theorem d_ME_add_47 : decode b_ME_add 47 = .ok (.iastore, 1) := by decide +kernel
theorem d_ME_add_48 : decode b_ME_add 48 = .ok (.iinc 2 (-1), 3) := by decide +kernel
theorem d_ME_add_51 : decode b_ME_add 51 = .ok (.goto (-33), 3) := by decide +kernel
theorem d_ME_add_54 : decode b_ME_add 54 = .ok (.aload_n 0, 1) := by decide +kernel
theorem d_ME_add_55 : decode b_ME_add 55 = .ok (.getfield 9, 3) := by decide +kernel
theorem d_ME_add_58 : decode b_ME_add 58 = .ok (.iload_n 2, 1) := by decide +kernel
theorem d_ME_add_59 : decode b_ME_add 59 = .ok (.iload_n 1, 1) := by decide +kernel
theorem d_ME_add_60 : decode b_ME_add 60 = .ok (.iastore, 1) := by decide +kernel
theorem d_ME_add_61 : decode b_ME_add 61 = .ok (.aload_n 0, 1) := by decide +kernel
theorem d_ME_add_62 : decode b_ME_add 62 = .ok (.dup, 1) := by decide +kernel
theorem d_ME_add_63 : decode b_ME_add 63 = .ok (.getfield 15, 3) := by decide +kernel
theorem d_ME_add_66 : decode b_ME_add 66 = .ok (.iconst 1, 1) := by decide +kernel
theorem d_ME_add_67 : decode b_ME_add 67 = .ok (.iadd, 1) := by decide +kernel
theorem d_ME_add_68 : decode b_ME_add 68 = .ok (.putfield 15, 3) := by decide +kernel
theorem d_ME_add_71 : decode b_ME_add 71 = .ok (.return_, 1) := by decide +kernel
theorem d_ME_least_0 : decode b_ME_least 0 = .ok (.aload_n 0, 1) := by decide +kernel
theorem d_ME_least_1 : decode b_ME_least 1 = .ok (.getfield 15, 3) := by decide +kernel
theorem d_ME_least_4 : decode b_ME_least 4 = .ok (.ifCond .le 17, 3) := by decide +kernel
theorem d_ME_least_7 : decode b_ME_least 7 = .ok (.aload_n 0, 1) := by decide +kernel
theorem d_ME_least_8 : decode b_ME_least 8 = .ok (.getfield 9, 3) := by decide +kernel
theorem d_ME_least_11 : decode b_ME_least 11 = .ok (.aload_n 0, 1) := by decide +kernel
theorem d_ME_least_12 : decode b_ME_least 12 = .ok (.getfield 15, 3) := by decide +kernel
theorem d_ME_least_15 : decode b_ME_least 15 = .ok (.iconst 1, 1) := by decide +kernel
theorem d_ME_least_16 : decode b_ME_least 16 = .ok (.isub, 1) := by decide +kernel
theorem d_ME_least_17 : decode b_ME_least 17 = .ok (.iaload, 1) := by decide +kernel
theorem d_ME_least_18 : decode b_ME_least 18 = .ok (.goto 4, 3) := by decide +kernel
theorem d_ME_least_21 : decode b_ME_least 21 = .ok (.iconst (-1), 1) := by decide +kernel
theorem d_ME_least_22 : decode b_ME_least 22 = .ok (.ireturn, 1) := by decide +kernel
theorem d_ME_howMany_0 : decode b_ME_howMany 0 = .ok (.aload_n 0, 1) := by decide +kernel
theorem d_ME_howMany_1 : decode b_ME_howMany 1 = .ok (.getfield 15, 3) := by decide +kernel
theorem d_ME_howMany_4 : decode b_ME_howMany 4 = .ok (.ireturn, 1) := by decide +kernel
theorem d_ME_takeLeast_0 : decode b_ME_takeLeast 0 = .ok (.aload_n 0, 1) := by decide +kernel
theorem d_ME_takeLeast_1 : decode b_ME_takeLeast 1 = .ok (.invokevirtual 22, 3) := by decide +kernel
theorem d_ME_takeLeast_4 : decode b_ME_takeLeast 4 = .ok (.istore_n 1, 1) := by decide +kernel
theorem d_ME_takeLeast_5 : decode b_ME_takeLeast 5 = .ok (.aload_n 0, 1) := by decide +kernel
theorem d_ME_takeLeast_6 : decode b_ME_takeLeast 6 = .ok (.getfield 15, 3) := by decide +kernel
theorem d_ME_takeLeast_9 : decode b_ME_takeLeast 9 = .ok (.ifCond .le 13, 3) := by decide +kernel
theorem d_ME_takeLeast_12 : decode b_ME_takeLeast 12 = .ok (.aload_n 0, 1) := by decide +kernel
theorem d_ME_takeLeast_13 : decode b_ME_takeLeast 13 = .ok (.dup, 1) := by decide +kernel
theorem d_ME_takeLeast_14 : decode b_ME_takeLeast 14 = .ok (.getfield 15, 3) := by decide +kernel
theorem d_ME_takeLeast_17 : decode b_ME_takeLeast 17 = .ok (.iconst 1, 1) := by decide +kernel
theorem d_ME_takeLeast_18 : decode b_ME_takeLeast 18 = .ok (.isub, 1) := by decide +kernel
theorem d_ME_takeLeast_19 : decode b_ME_takeLeast 19 = .ok (.putfield 15, 3) := by decide +kernel
theorem d_ME_takeLeast_22 : decode b_ME_takeLeast 22 = .ok (.iload_n 1, 1) := by decide +kernel
theorem d_ME_takeLeast_23 : decode b_ME_takeLeast 23 = .ok (.ireturn, 1) := by decide +kernel
theorem d_RU_init_0 : decode b_RU_init 0 = .ok (.aload_n 0, 1) := by decide +kernel
theorem d_RU_init_1 : decode b_RU_init 1 = .ok (.invokespecial 3, 3) := by decide +kernel
theorem d_RU_init_4 : decode b_RU_init 4 = .ok (.aload_n 0, 1) := by decide +kernel
theorem d_RU_init_5 : decode b_RU_init 5 = .ok (.bipush 9, 2) := by decide +kernel
theorem d_RU_init_7 : decode b_RU_init 7 = .ok (.newarray .int, 2) := by decide +kernel
theorem d_RU_init_9 : decode b_RU_init 9 = .ok (.putfield 9, 3) := by decide +kernel
theorem d_RU_init_12 : decode b_RU_init 12 = .ok (.aload_n 0, 1) := by decide +kernel
theorem d_RU_init_13 : decode b_RU_init 13 = .ok (.bipush 9, 2) := by decide +kernel
theorem d_RU_init_15 : decode b_RU_init 15 = .ok (.newarray .int, 2) := by decide +kernel
theorem d_RU_init_17 : decode b_RU_init 17 = .ok (.putfield 15, 3) := by decide +kernel
theorem d_RU_init_20 : decode b_RU_init 20 = .ok (.aload_n 0, 1) := by decide +kernel
theorem d_RU_init_21 : decode b_RU_init 21 = .ok (.bipush 9, 2) := by decide +kernel
theorem d_RU_init_23 : decode b_RU_init 23 = .ok (.newarray .int, 2) := by decide +kernel
theorem d_RU_init_25 : decode b_RU_init 25 = .ok (.putfield 18, 3) := by decide +kernel
theorem d_RU_init_28 : decode b_RU_init 28 = .ok (.aload_n 0, 1) := by decide +kernel
theorem d_RU_init_29 : decode b_RU_init 29 = .ok (.bipush 9, 2) := by decide +kernel
theorem d_RU_init_31 : decode b_RU_init 31 = .ok (.newarray .int, 2) := by decide +kernel
theorem d_RU_init_33 : decode b_RU_init 33 = .ok (.putfield 21, 3) := by decide +kernel
theorem d_RU_init_36 : decode b_RU_init 36 = .ok (.aload_n 0, 1) := by decide +kernel
theorem d_RU_init_37 : decode b_RU_init 37 = .ok (.bipush 9, 2) := by decide +kernel
theorem d_RU_init_39 : decode b_RU_init 39 = .ok (.newarray .int, 2) := by decide +kernel
theorem d_RU_init_41 : decode b_RU_init 41 = .ok (.putfield 24, 3) := by decide +kernel
theorem d_RU_init_44 : decode b_RU_init 44 = .ok (.aload_n 0, 1) := by decide +kernel
theorem d_RU_init_45 : decode b_RU_init 45 = .ok (.bipush 9, 2) := by decide +kernel
theorem d_RU_init_47 : decode b_RU_init 47 = .ok (.newarray .boolean, 2) := by decide +kernel
theorem d_RU_init_49 : decode b_RU_init 49 = .ok (.putfield 27, 3) := by decide +kernel
theorem d_RU_init_52 : decode b_RU_init 52 = .ok (.aload_n 0, 1) := by decide +kernel
theorem d_RU_init_53 : decode b_RU_init 53 = .ok (.aload_n 1, 1) := by decide +kernel
theorem d_RU_init_54 : decode b_RU_init 54 = .ok (.putfield 31, 3) := by decide +kernel
theorem d_RU_init_57 : decode b_RU_init 57 = .ok (.return_, 1) := by decide +kernel
theorem d_RU_clear_0 : decode b_RU_clear 0 = .ok (.aload_n 0, 1) := by decide +kernel
theorem d_RU_clear_1 : decode b_RU_clear 1 = .ok (.iconst 0, 1) := by decide +kernel
theorem d_RU_clear_2 : decode b_RU_clear 2 = .ok (.putfield 35, 3) := by decide +kernel
theorem d_RU_clear_5 : decode b_RU_clear 5 = .ok (.return_, 1) := by decide +kernel
theorem d_RU_has_0 : decode b_RU_has 0 = .ok (.iload_n 1, 1) := by decide +kernel
theorem d_RU_has_1 : decode b_RU_has 1 = .ok (.ifCond .lt 15, 3) := by decide +kernel
theorem d_RU_has_4 : decode b_RU_has 4 = .ok (.iload_n 1, 1) := by decide +kernel
theorem d_RU_has_5 : decode b_RU_has 5 = .ok (.aload_n 0, 1) := by decide +kernel
theorem d_RU_has_6 : decode b_RU_has 6 = .ok (.getfield 35, 3) := by decide +kernel
theorem d_RU_has_9 : decode b_RU_has 9 = .ok (.if_icmp .ge 7, 3) := by decide +kernel
theorem d_RU_has_12 : decode b_RU_has 12 = .ok (.iconst 1, 1) := by decide +kernel
theorem d_RU_has_13 : decode b_RU_has 13 = .ok (.goto 4, 3) := by decide +kernel
theorem d_RU_has_16 : decode b_RU_has 16 = .ok (.iconst 0, 1) := by decide +kernel
theorem d_RU_has_17 : decode b_RU_has 17 = .ok (.ireturn, 1) := by decide +kernel
theorem d_RU_add_0 : decode b_RU_add 0 = .ok (.aload_n 0, 1) := by decide +kernel
theorem d_RU_add_1 : decode b_RU_add 1 = .ok (.getfield 35, 3) := by decide +kernel
theorem d_RU_add_4 : decode b_RU_add 4 = .ok (.bipush 9, 2) := by decide +kernel
theorem d_RU_add_6 : decode b_RU_add 6 = .ok (.if_icmp .lt 4, 3) := by decide +kernel
theorem d_RU_add_9 : decode b_RU_add 9 = .ok (.return_, 1) := by decide +kernel
theorem d_RU_add_10 : decode b_RU_add 10 = .ok (.aload_n 0, 1) := by decide +kernel
theorem d_RU_add_11 : decode b_RU_add 11 = .ok (.getfield 9, 3) := by decide +kernel
theorem d_RU_add_14 : decode b_RU_add 14 = .ok (.aload_n 0, 1) := by decide +kernel
theorem d_RU_add_15 : decode b_RU_add 15 = .ok (.getfield 35, 3) := by decide +kernel
theorem d_RU_add_18 : decode b_RU_add 18 = .ok (.iload_n 1, 1) := by decide +kernel
theorem d_RU_add_19 : decode b_RU_add 19 = .ok (.iastore, 1) := by decide +kernel
theorem d_RU_add_20 : decode b_RU_add 20 = .ok (.aload_n 0, 1) := by decide +kernel
theorem d_RU_add_21 : decode b_RU_add 21 = .ok (.getfield 15, 3) := by decide +kernel
theorem d_RU_add_24 : decode b_RU_add 24 = .ok (.aload_n 0, 1) := by decide +kernel
theorem d_RU_add_25 : decode b_RU_add 25 = .ok (.getfield 35, 3) := by decide +kernel
theorem d_RU_add_28 : decode b_RU_add 28 = .ok (.iload_n 2, 1) := by decide +kernel
theorem d_RU_add_29 : decode b_RU_add 29 = .ok (.iastore, 1) := by decide +kernel
theorem d_RU_add_30 : decode b_RU_add 30 = .ok (.aload_n 0, 1) := by decide +kernel
theorem d_RU_add_31 : decode b_RU_add 31 = .ok (.getfield 18, 3) := by decide +kernel
theorem d_RU_add_34 : decode b_RU_add 34 = .ok (.aload_n 0, 1) := by decide +kernel
theorem d_RU_add_35 : decode b_RU_add 35 = .ok (.getfield 35, 3) := by decide +kernel
theorem d_RU_add_38 : decode b_RU_add 38 = .ok (.iload_n 3, 1) := by decide +kernel
theorem d_RU_add_39 : decode b_RU_add 39 = .ok (.iastore, 1) := by decide +kernel
theorem d_RU_add_40 : decode b_RU_add 40 = .ok (.aload_n 0, 1) := by decide +kernel
theorem d_RU_add_41 : decode b_RU_add 41 = .ok (.getfield 21, 3) := by decide +kernel
theorem d_RU_add_44 : decode b_RU_add 44 = .ok (.aload_n 0, 1) := by decide +kernel
theorem d_RU_add_45 : decode b_RU_add 45 = .ok (.getfield 35, 3) := by decide +kernel
theorem d_RU_add_48 : decode b_RU_add 48 = .ok (.iload 4, 2) := by decide +kernel
theorem d_RU_add_50 : decode b_RU_add 50 = .ok (.iastore, 1) := by decide +kernel
theorem d_RU_add_51 : decode b_RU_add 51 = .ok (.aload_n 0, 1) := by decide +kernel
theorem d_RU_add_52 : decode b_RU_add 52 = .ok (.getfield 24, 3) := by decide +kernel
theorem d_RU_add_55 : decode b_RU_add 55 = .ok (.aload_n 0, 1) := by decide +kernel
theorem d_RU_add_56 : decode b_RU_add 56 = .ok (.getfield 35, 3) := by decide +kernel
theorem d_RU_add_59 : decode b_RU_add 59 = .ok (.aload_n 0, 1) := by decide +kernel
theorem d_RU_add_60 : decode b_RU_add 60 = .ok (.getfield 31, 3) := by decide +kernel
theorem d_RU_add_63 : decode b_RU_add 63 = .ok (.iload_n 1, 1) := by decide +kernel
theorem d_RU_add_64 : decode b_RU_add 64 = .ok (.iconst 2, 1) := by decide +kernel
theorem d_RU_add_65 : decode b_RU_add 65 = .ok (.iload_n 2, 1) := by decide +kernel
theorem d_RU_add_66 : decode b_RU_add 66 = .ok (.iadd, 1) := by decide +kernel
theorem d_RU_add_67 : decode b_RU_add 67 = .ok (.invokevirtual 39, 3) := by decide +kernel
theorem d_RU_add_70 : decode b_RU_add 70 = .ok (.iastore, 1) := by decide +kernel
theorem d_RU_add_71 : decode b_RU_add 71 = .ok (.aload_n 0, 1) := by decide +kernel
theorem d_RU_add_72 : decode b_RU_add 72 = .ok (.dup, 1) := by decide +kernel
theorem d_RU_add_73 : decode b_RU_add 73 = .ok (.getfield 35, 3) := by decide +kernel
theorem d_RU_add_76 : decode b_RU_add 76 = .ok (.iconst 1, 1) := by decide +kernel
theorem d_RU_add_77 : decode b_RU_add 77 = .ok (.iadd, 1) := by decide +kernel
theorem d_RU_add_78 : decode b_RU_add 78 = .ok (.putfield 35, 3) := by decide +kernel
theorem d_RU_add_81 : decode b_RU_add 81 = .ok (.return_, 1) := by decide +kernel
theorem d_RU_dropEmpty_0 : decode b_RU_dropEmpty 0 = .ok (.iconst 0, 1) := by decide +kernel
theorem d_RU_dropEmpty_1 : decode b_RU_dropEmpty 1 = .ok (.istore_n 1, 1) := by decide +kernel
theorem d_RU_dropEmpty_2 : decode b_RU_dropEmpty 2 = .ok (.iconst 0, 1) := by decide +kernel
theorem d_RU_dropEmpty_3 : decode b_RU_dropEmpty 3 = .ok (.istore_n 2, 1) := by decide +kernel
theorem d_RU_dropEmpty_4 : decode b_RU_dropEmpty 4 = .ok (.iload_n 2, 1) := by decide +kernel
theorem d_RU_dropEmpty_5 : decode b_RU_dropEmpty 5 = .ok (.aload_n 0, 1) := by decide +kernel
theorem d_RU_dropEmpty_6 : decode b_RU_dropEmpty 6 = .ok (.getfield 35, 3) := by decide +kernel
theorem d_RU_dropEmpty_9 : decode b_RU_dropEmpty 9 = .ok (.if_icmp .ge 81, 3) := by decide +kernel
theorem d_RU_dropEmpty_12 : decode b_RU_dropEmpty 12 = .ok (.aload_n 0, 1) := by decide +kernel
theorem d_RU_dropEmpty_13 : decode b_RU_dropEmpty 13 = .ok (.getfield 18, 3) := by decide +kernel
theorem d_RU_dropEmpty_16 : decode b_RU_dropEmpty 16 = .ok (.iload_n 2, 1) := by decide +kernel
theorem d_RU_dropEmpty_17 : decode b_RU_dropEmpty 17 = .ok (.iaload, 1) := by decide +kernel
theorem d_RU_dropEmpty_18 : decode b_RU_dropEmpty 18 = .ok (.ifCond .le 66, 3) := by decide +kernel
theorem d_RU_dropEmpty_21 : decode b_RU_dropEmpty 21 = .ok (.aload_n 0, 1) := by decide +kernel
theorem d_RU_dropEmpty_22 : decode b_RU_dropEmpty 22 = .ok (.getfield 9, 3) := by decide +kernel
theorem d_RU_dropEmpty_25 : decode b_RU_dropEmpty 25 = .ok (.iload_n 1, 1) := by decide +kernel
theorem d_RU_dropEmpty_26 : decode b_RU_dropEmpty 26 = .ok (.aload_n 0, 1) := by decide +kernel
theorem d_RU_dropEmpty_27 : decode b_RU_dropEmpty 27 = .ok (.getfield 9, 3) := by decide +kernel
theorem d_RU_dropEmpty_30 : decode b_RU_dropEmpty 30 = .ok (.iload_n 2, 1) := by decide +kernel
theorem d_RU_dropEmpty_31 : decode b_RU_dropEmpty 31 = .ok (.iaload, 1) := by decide +kernel
theorem d_RU_dropEmpty_32 : decode b_RU_dropEmpty 32 = .ok (.iastore, 1) := by decide +kernel
theorem d_RU_dropEmpty_33 : decode b_RU_dropEmpty 33 = .ok (.aload_n 0, 1) := by decide +kernel
theorem d_RU_dropEmpty_34 : decode b_RU_dropEmpty 34 = .ok (.getfield 15, 3) := by decide +kernel
theorem d_RU_dropEmpty_37 : decode b_RU_dropEmpty 37 = .ok (.iload_n 1, 1) := by decide +kernel
theorem d_RU_dropEmpty_38 : decode b_RU_dropEmpty 38 = .ok (.aload_n 0, 1) := by decide +kernel
theorem d_RU_dropEmpty_39 : decode b_RU_dropEmpty 39 = .ok (.getfield 15, 3) := by decide +kernel
theorem d_RU_dropEmpty_42 : decode b_RU_dropEmpty 42 = .ok (.iload_n 2, 1) := by decide +kernel
theorem d_RU_dropEmpty_43 : decode b_RU_dropEmpty 43 = .ok (.iaload, 1) := by decide +kernel
theorem d_RU_dropEmpty_44 : decode b_RU_dropEmpty 44 = .ok (.iastore, 1) := by decide +kernel
theorem d_RU_dropEmpty_45 : decode b_RU_dropEmpty 45 = .ok (.aload_n 0, 1) := by decide +kernel
theorem d_RU_dropEmpty_46 : decode b_RU_dropEmpty 46 = .ok (.getfield 18, 3) := by decide +kernel
theorem d_RU_dropEmpty_49 : decode b_RU_dropEmpty 49 = .ok (.iload_n 1, 1) := by decide +kernel
theorem d_RU_dropEmpty_50 : decode b_RU_dropEmpty 50 = .ok (.aload_n 0, 1) := by decide +kernel
theorem d_RU_dropEmpty_51 : decode b_RU_dropEmpty 51 = .ok (.getfield 18, 3) := by decide +kernel
theorem d_RU_dropEmpty_54 : decode b_RU_dropEmpty 54 = .ok (.iload_n 2, 1) := by decide +kernel
theorem d_RU_dropEmpty_55 : decode b_RU_dropEmpty 55 = .ok (.iaload, 1) := by decide +kernel
theorem d_RU_dropEmpty_56 : decode b_RU_dropEmpty 56 = .ok (.iastore, 1) := by decide +kernel
theorem d_RU_dropEmpty_57 : decode b_RU_dropEmpty 57 = .ok (.aload_n 0, 1) := by decide +kernel
theorem d_RU_dropEmpty_58 : decode b_RU_dropEmpty 58 = .ok (.getfield 21, 3) := by decide +kernel
theorem d_RU_dropEmpty_61 : decode b_RU_dropEmpty 61 = .ok (.iload_n 1, 1) := by decide +kernel
theorem d_RU_dropEmpty_62 : decode b_RU_dropEmpty 62 = .ok (.aload_n 0, 1) := by decide +kernel
theorem d_RU_dropEmpty_63 : decode b_RU_dropEmpty 63 = .ok (.getfield 21, 3) := by decide +kernel
theorem d_RU_dropEmpty_66 : decode b_RU_dropEmpty 66 = .ok (.iload_n 2, 1) := by decide +kernel
theorem d_RU_dropEmpty_67 : decode b_RU_dropEmpty 67 = .ok (.iaload, 1) := by decide +kernel
theorem d_RU_dropEmpty_68 : decode b_RU_dropEmpty 68 = .ok (.iastore, 1) := by decide +kernel
theorem d_RU_dropEmpty_69 : decode b_RU_dropEmpty 69 = .ok (.aload_n 0, 1) := by decide +kernel
theorem d_RU_dropEmpty_70 : decode b_RU_dropEmpty 70 = .ok (.getfield 24, 3) := by decide +kernel
theorem d_RU_dropEmpty_73 : decode b_RU_dropEmpty 73 = .ok (.iload_n 1, 1) := by decide +kernel
theorem d_RU_dropEmpty_74 : decode b_RU_dropEmpty 74 = .ok (.aload_n 0, 1) := by decide +kernel
theorem d_RU_dropEmpty_75 : decode b_RU_dropEmpty 75 = .ok (.getfield 24, 3) := by decide +kernel
theorem d_RU_dropEmpty_78 : decode b_RU_dropEmpty 78 = .ok (.iload_n 2, 1) := by decide +kernel
theorem d_RU_dropEmpty_79 : decode b_RU_dropEmpty 79 = .ok (.iaload, 1) := by decide +kernel
theorem d_RU_dropEmpty_80 : decode b_RU_dropEmpty 80 = .ok (.iastore, 1) := by decide +kernel
theorem d_RU_dropEmpty_81 : decode b_RU_dropEmpty 81 = .ok (.iinc 1 1, 3) := by decide +kernel
theorem d_RU_dropEmpty_84 : decode b_RU_dropEmpty 84 = .ok (.iinc 2 1, 3) := by decide +kernel
theorem d_RU_dropEmpty_87 : decode b_RU_dropEmpty 87 = .ok (.goto (-83), 3) := by decide +kernel
theorem d_RU_dropEmpty_90 : decode b_RU_dropEmpty 90 = .ok (.aload_n 0, 1) := by decide +kernel
theorem d_RU_dropEmpty_91 : decode b_RU_dropEmpty 91 = .ok (.iload_n 1, 1) := by decide +kernel
theorem d_RU_dropEmpty_92 : decode b_RU_dropEmpty 92 = .ok (.putfield 35, 3) := by decide +kernel
theorem d_RU_dropEmpty_95 : decode b_RU_dropEmpty 95 = .ok (.return_, 1) := by decide +kernel
theorem d_RU_headOf_0 : decode b_RU_headOf 0 = .ok (.aload_n 0, 1) := by decide +kernel
theorem d_RU_headOf_1 : decode b_RU_headOf 1 = .ok (.iload_n 1, 1) := by decide +kernel
theorem d_RU_headOf_2 : decode b_RU_headOf 2 = .ok (.invokevirtual 45, 3) := by decide +kernel
theorem d_RU_headOf_5 : decode b_RU_headOf 5 = .ok (.ifCond .eq 12, 3) := by decide +kernel
theorem d_RU_headOf_8 : decode b_RU_headOf 8 = .ok (.aload_n 0, 1) := by decide +kernel
theorem d_RU_headOf_9 : decode b_RU_headOf 9 = .ok (.getfield 24, 3) := by decide +kernel
theorem d_RU_headOf_12 : decode b_RU_headOf 12 = .ok (.iload_n 1, 1) := by decide +kernel
theorem d_RU_headOf_13 : decode b_RU_headOf 13 = .ok (.iaload, 1) := by decide +kernel
theorem d_RU_headOf_14 : decode b_RU_headOf 14 = .ok (.goto 4, 3) := by decide +kernel
theorem d_RU_headOf_17 : decode b_RU_headOf 17 = .ok (.iconst (-1), 1) := by decide +kernel
theorem d_RU_headOf_18 : decode b_RU_headOf 18 = .ok (.ireturn, 1) := by decide +kernel
theorem d_RU_leastAt_0 : decode b_RU_leastAt 0 = .ok (.iconst (-1), 1) := by decide +kernel
theorem d_RU_leastAt_1 : decode b_RU_leastAt 1 = .ok (.istore_n 2, 1) := by decide +kernel
theorem d_RU_leastAt_2 : decode b_RU_leastAt 2 = .ok (.iconst 0, 1) := by decide +kernel
theorem d_RU_leastAt_3 : decode b_RU_leastAt 3 = .ok (.istore_n 3, 1) := by decide +kernel
theorem d_RU_leastAt_4 : decode b_RU_leastAt 4 = .ok (.iload_n 3, 1) := by decide +kernel
theorem d_RU_leastAt_5 : decode b_RU_leastAt 5 = .ok (.aload_n 0, 1) := by decide +kernel
theorem d_RU_leastAt_6 : decode b_RU_leastAt 6 = .ok (.getfield 35, 3) := by decide +kernel
theorem d_RU_leastAt_9 : decode b_RU_leastAt 9 = .ok (.if_icmp .ge 64, 3) := by decide +kernel
theorem d_RU_leastAt_12 : decode b_RU_leastAt 12 = .ok (.aload_n 0, 1) := by decide +kernel
theorem d_RU_leastAt_13 : decode b_RU_leastAt 13 = .ok (.getfield 18, 3) := by decide +kernel
theorem d_RU_leastAt_16 : decode b_RU_leastAt 16 = .ok (.iload_n 3, 1) := by decide +kernel
theorem d_RU_leastAt_17 : decode b_RU_leastAt 17 = .ok (.iaload, 1) := by decide +kernel
theorem d_RU_leastAt_18 : decode b_RU_leastAt 18 = .ok (.ifCond .le 20, 3) := by decide +kernel
theorem d_RU_leastAt_21 : decode b_RU_leastAt 21 = .ok (.aload_n 0, 1) := by decide +kernel
theorem d_RU_leastAt_22 : decode b_RU_leastAt 22 = .ok (.getfield 27, 3) := by decide +kernel
theorem d_RU_leastAt_25 : decode b_RU_leastAt 25 = .ok (.iload_n 3, 1) := by decide +kernel
theorem d_RU_leastAt_26 : decode b_RU_leastAt 26 = .ok (.baload, 1) := by decide +kernel
theorem d_RU_leastAt_27 : decode b_RU_leastAt 27 = .ok (.ifCond .ne 7, 3) := by decide +kernel
theorem d_RU_leastAt_30 : decode b_RU_leastAt 30 = .ok (.iload_n 1, 1) := by decide +kernel
theorem d_RU_leastAt_31 : decode b_RU_leastAt 31 = .ok (.ifCond .ne 7, 3) := by decide +kernel
theorem d_RU_leastAt_34 : decode b_RU_leastAt 34 = .ok (.iconst 1, 1) := by decide +kernel
theorem d_RU_leastAt_35 : decode b_RU_leastAt 35 = .ok (.goto 4, 3) := by decide +kernel
theorem d_RU_leastAt_38 : decode b_RU_leastAt 38 = .ok (.iconst 0, 1) := by decide +kernel
theorem d_RU_leastAt_39 : decode b_RU_leastAt 39 = .ok (.istore 4, 2) := by decide +kernel
theorem d_RU_leastAt_41 : decode b_RU_leastAt 41 = .ok (.iload 4, 2) := by decide +kernel
theorem d_RU_leastAt_43 : decode b_RU_leastAt 43 = .ok (.ifCond .eq 24, 3) := by decide +kernel
theorem d_RU_leastAt_46 : decode b_RU_leastAt 46 = .ok (.iload_n 2, 1) := by decide +kernel
theorem d_RU_leastAt_47 : decode b_RU_leastAt 47 = .ok (.ifCond .lt 18, 3) := by decide +kernel
theorem d_RU_leastAt_50 : decode b_RU_leastAt 50 = .ok (.aload_n 0, 1) := by decide +kernel
theorem d_RU_leastAt_51 : decode b_RU_leastAt 51 = .ok (.getfield 24, 3) := by decide +kernel
theorem d_RU_leastAt_54 : decode b_RU_leastAt 54 = .ok (.iload_n 3, 1) := by decide +kernel
theorem d_RU_leastAt_55 : decode b_RU_leastAt 55 = .ok (.iaload, 1) := by decide +kernel
theorem d_RU_leastAt_56 : decode b_RU_leastAt 56 = .ok (.aload_n 0, 1) := by decide +kernel
theorem d_RU_leastAt_57 : decode b_RU_leastAt 57 = .ok (.getfield 24, 3) := by decide +kernel
theorem d_RU_leastAt_60 : decode b_RU_leastAt 60 = .ok (.iload_n 2, 1) := by decide +kernel
theorem d_RU_leastAt_61 : decode b_RU_leastAt 61 = .ok (.iaload, 1) := by decide +kernel
theorem d_RU_leastAt_62 : decode b_RU_leastAt 62 = .ok (.if_icmp .ge 5, 3) := by decide +kernel
theorem d_RU_leastAt_65 : decode b_RU_leastAt 65 = .ok (.iload_n 3, 1) := by decide +kernel
theorem d_RU_leastAt_66 : decode b_RU_leastAt 66 = .ok (.istore_n 2, 1) := by decide +kernel
theorem d_RU_leastAt_67 : decode b_RU_leastAt 67 = .ok (.iinc 3 1, 3) := by decide +kernel
theorem d_RU_leastAt_70 : decode b_RU_leastAt 70 = .ok (.goto (-66), 3) := by decide +kernel
theorem d_RU_leastAt_73 : decode b_RU_leastAt 73 = .ok (.iload_n 2, 1) := by decide +kernel
theorem d_RU_leastAt_74 : decode b_RU_leastAt 74 = .ok (.ireturn, 1) := by decide +kernel
theorem d_RU_takeFrom_0 : decode b_RU_takeFrom 0 = .ok (.aload_n 0, 1) := by decide +kernel
theorem d_RU_takeFrom_1 : decode b_RU_takeFrom 1 = .ok (.iload_n 1, 1) := by decide +kernel
theorem d_RU_takeFrom_2 : decode b_RU_takeFrom 2 = .ok (.invokevirtual 45, 3) := by decide +kernel
theorem d_RU_takeFrom_5 : decode b_RU_takeFrom 5 = .ok (.ifCond .ne 5, 3) := by decide +kernel
theorem d_RU_takeFrom_8 : decode b_RU_takeFrom 8 = .ok (.iconst (-1), 1) := by decide +kernel
theorem d_RU_takeFrom_9 : decode b_RU_takeFrom 9 = .ok (.ireturn, 1) := by decide +kernel
theorem d_RU_takeFrom_10 : decode b_RU_takeFrom 10 = .ok (.aload_n 0, 1) := by decide +kernel
theorem d_RU_takeFrom_11 : decode b_RU_takeFrom 11 = .ok (.getfield 24, 3) := by decide +kernel
theorem d_RU_takeFrom_14 : decode b_RU_takeFrom 14 = .ok (.iload_n 1, 1) := by decide +kernel
theorem d_RU_takeFrom_15 : decode b_RU_takeFrom 15 = .ok (.iaload, 1) := by decide +kernel
