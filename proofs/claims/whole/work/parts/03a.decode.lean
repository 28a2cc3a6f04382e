theorem dX0_init_0 : decode cX0_init 0 = .ok (.aload_n 0, 1) := by decide +kernel
theorem dX0_init_1 : decode cX0_init 1 = .ok (.invokespecial 3, 3) := by decide +kernel
theorem dX0_init_4 : decode cX0_init 4 = .ok (.aload_n 0, 1) := by decide +kernel
theorem dX0_init_5 : decode cX0_init 5 = .ok (.sipush 256, 3) := by decide +kernel
theorem dX0_init_8 : decode cX0_init 8 = .ok (.newarray .int, 2) := by decide +kernel
theorem dX0_init_10 : decode cX0_init 10 = .ok (.putfield 9, 3) := by decide +kernel
theorem dX0_init_13 : decode cX0_init 13 = .ok (.aload_n 0, 1) := by decide +kernel
theorem dX0_init_14 : decode cX0_init 14 = .ok (.sipush 256, 3) := by decide +kernel
theorem dX0_init_17 : decode cX0_init 17 = .ok (.newarray .boolean, 2) := by decide +kernel
theorem dX0_init_19 : decode cX0_init 19 = .ok (.putfield 15, 3) := by decide +kernel
theorem dX0_init_22 : decode cX0_init 22 = .ok (.return_, 1) := by decide +kernel
theorem dX0_renew_0 : decode cX0_renew 0 = .ok (.aload_n 0, 1) := by decide +kernel
theorem dX0_renew_1 : decode cX0_renew 1 = .ok (.iload_n 1, 1) := by decide +kernel
theorem dX0_renew_2 : decode cX0_renew 2 = .ok (.putfield 19, 3) := by decide +kernel
theorem dX0_renew_5 : decode cX0_renew 5 = .ok (.aload_n 0, 1) := by decide +kernel
theorem dX0_renew_6 : decode cX0_renew 6 = .ok (.iload_n 2, 1) := by decide +kernel
theorem dX0_renew_7 : decode cX0_renew 7 = .ok (.putfield 23, 3) := by decide +kernel
theorem dX0_renew_10 : decode cX0_renew 10 = .ok (.iconst 0, 1) := by decide +kernel
theorem dX0_renew_11 : decode cX0_renew 11 = .ok (.istore_n 3, 1) := by decide +kernel
theorem dX0_renew_12 : decode cX0_renew 12 = .ok (.iload_n 3, 1) := by decide +kernel
theorem dX0_renew_13 : decode cX0_renew 13 = .ok (.sipush 256, 3) := by decide +kernel
theorem dX0_renew_16 : decode cX0_renew 16 = .ok (.if_icmp .ge 23, 3) := by decide +kernel
theorem dX0_renew_19 : decode cX0_renew 19 = .ok (.aload_n 0, 1) := by decide +kernel
theorem dX0_renew_20 : decode cX0_renew 20 = .ok (.getfield 9, 3) := by decide +kernel
theorem dX0_renew_23 : decode cX0_renew 23 = .ok (.iload_n 3, 1) := by decide +kernel
theorem dX0_renew_24 : decode cX0_renew 24 = .ok (.iconst 0, 1) := by decide +kernel
theorem dX0_renew_25 : decode cX0_renew 25 = .ok (.iastore, 1) := by decide +kernel
theorem dX0_renew_26 : decode cX0_renew 26 = .ok (.aload_n 0, 1) := by decide +kernel
theorem dX0_renew_27 : decode cX0_renew 27 = .ok (.getfield 15, 3) := by decide +kernel
theorem dX0_renew_30 : decode cX0_renew 30 = .ok (.iload_n 3, 1) := by decide +kernel
theorem dX0_renew_31 : decode cX0_renew 31 = .ok (.iconst 0, 1) := by decide +kernel
theorem dX0_renew_32 : decode cX0_renew 32 = .ok (.bastore, 1) := by decide +kernel
theorem dX0_renew_33 : decode cX0_renew 33 = .ok (.iinc 3 1, 3) := by decide +kernel
theorem dX0_renew_36 : decode cX0_renew 36 = .ok (.goto (-24), 3) := by decide +kernel
theorem dX0_renew_39 : decode cX0_renew 39 = .ok (.return_, 1) := by decide +kernel
theorem dX0_hasPlace_0 : decode cX0_hasPlace 0 = .ok (.iload_n 1, 1) := by decide +kernel
theorem dX0_hasPlace_1 : decode cX0_hasPlace 1 = .ok (.ifCond .lt 27, 3) := by decide +kernel
theorem dX0_hasPlace_4 : decode cX0_hasPlace 4 = .ok (.iload_n 1, 1) := by decide +kernel
theorem dX0_hasPlace_5 : decode cX0_hasPlace 5 = .ok (.aload_n 0, 1) := by decide +kernel
theorem dX0_hasPlace_6 : decode cX0_hasPlace 6 = .ok (.getfield 19, 3) := by decide +kernel
theorem dX0_hasPlace_9 : decode cX0_hasPlace 9 = .ok (.if_icmp .ge 19, 3) := by decide +kernel
theorem dX0_hasPlace_12 : decode cX0_hasPlace 12 = .ok (.iload_n 2, 1) := by decide +kernel
theorem dX0_hasPlace_13 : decode cX0_hasPlace 13 = .ok (.ifCond .lt 15, 3) := by decide +kernel
theorem dX0_hasPlace_16 : decode cX0_hasPlace 16 = .ok (.iload_n 2, 1) := by decide +kernel
theorem dX0_hasPlace_17 : decode cX0_hasPlace 17 = .ok (.aload_n 0, 1) := by decide +kernel
theorem dX0_hasPlace_18 : decode cX0_hasPlace 18 = .ok (.getfield 23, 3) := by decide +kernel
theorem dX0_hasPlace_21 : decode cX0_hasPlace 21 = .ok (.if_icmp .ge 7, 3) := by decide +kernel
theorem dX0_hasPlace_24 : decode cX0_hasPlace 24 = .ok (.iconst 1, 1) := by decide +kernel
theorem dX0_hasPlace_25 : decode cX0_hasPlace 25 = .ok (.goto 4, 3) := by decide +kernel
theorem dX0_hasPlace_28 : decode cX0_hasPlace 28 = .ok (.iconst 0, 1) := by decide +kernel
theorem dX0_hasPlace_29 : decode cX0_hasPlace 29 = .ok (.ireturn, 1) := by decide +kernel
theorem dX0_howManyDead_0 : decode cX0_howManyDead 0 = .ok (.iconst 0, 1) := by decide +kernel
theorem dX0_howManyDead_1 : decode cX0_howManyDead 1 = .ok (.istore_n 1, 1) := by decide +kernel
theorem dX0_howManyDead_2 : decode cX0_howManyDead 2 = .ok (.iconst 0, 1) := by decide +kernel
theorem dX0_howManyDead_3 : decode cX0_howManyDead 3 = .ok (.istore_n 2, 1) := by decide +kernel
theorem dX0_howManyDead_4 : decode cX0_howManyDead 4 = .ok (.iload_n 2, 1) := by decide +kernel
theorem dX0_howManyDead_5 : decode cX0_howManyDead 5 = .ok (.sipush 256, 3) := by decide +kernel
theorem dX0_howManyDead_8 : decode cX0_howManyDead 8 = .ok (.if_icmp .ge 21, 3) := by decide +kernel
theorem dX0_howManyDead_11 : decode cX0_howManyDead 11 = .ok (.aload_n 0, 1) := by decide +kernel
theorem dX0_howManyDead_12 : decode cX0_howManyDead 12 = .ok (.getfield 15, 3) := by decide +kernel
theorem dX0_howManyDead_15 : decode cX0_howManyDead 15 = .ok (.iload_n 2, 1) := by decide +kernel
theorem dX0_howManyDead_16 : decode cX0_howManyDead 16 = .ok (.baload, 1) := by decide +kernel
theorem dX0_howManyDead_17 : decode cX0_howManyDead 17 = .ok (.ifCond .eq 6, 3) := by decide +kernel
theorem dX0_howManyDead_20 : decode cX0_howManyDead 20 = .ok (.iinc 1 1, 3) := by decide +kernel
theorem dX0_howManyDead_23 : decode cX0_howManyDead 23 = .ok (.iinc 2 1, 3) := by decide +kernel
theorem dX0_howManyDead_26 : decode cX0_howManyDead 26 = .ok (.goto (-22), 3) := by decide +kernel
theorem dX0_howManyDead_29 : decode cX0_howManyDead 29 = .ok (.iload_n 1, 1) := by decide +kernel
theorem dX0_howManyDead_30 : decode cX0_howManyDead 30 = .ok (.ireturn, 1) := by decide +kernel
theorem dX1_init_0 : decode cX1_init 0 = .ok (.aload_n 0, 1) := by decide +kernel
theorem dX1_init_1 : decode cX1_init 1 = .ok (.invokespecial 3, 3) := by decide +kernel
theorem dX1_init_4 : decode cX1_init 4 = .ok (.aload_n 0, 1) := by decide +kernel
theorem dX1_init_5 : decode cX1_init 5 = .ok (.bipush 11, 2) := by decide +kernel
theorem dX1_init_7 : decode cX1_init 7 = .ok (.bipush 48, 2) := by decide +kernel
theorem dX1_init_9 : decode cX1_init 9 = .ok (.multianewarray 9 2, 4) := by decide +kernel
theorem dX1_init_13 : decode cX1_init 13 = .ok (.putfield 11, 3) := by decide +kernel
theorem dX1_init_16 : decode cX1_init 16 = .ok (.return_, 1) := by decide +kernel
theorem dX1_begin_0 : decode cX1_begin 0 = .ok (.aload_n 0, 1) := by decide +kernel
theorem dX1_begin_1 : decode cX1_begin 1 = .ok (.iload_n 1, 1) := by decide +kernel
theorem dX1_begin_2 : decode cX1_begin 2 = .ok (.putfield 16, 3) := by decide +kernel
theorem dX1_begin_5 : decode cX1_begin 5 = .ok (.aload_n 0, 1) := by decide +kernel
theorem dX1_begin_6 : decode cX1_begin 6 = .ok (.getfield 11, 3) := by decide +kernel
theorem dX1_begin_9 : decode cX1_begin 9 = .ok (.iload_n 1, 1) := by decide +kernel
theorem dX1_begin_10 : decode cX1_begin 10 = .ok (.aaload, 1) := by decide +kernel
theorem dX1_begin_11 : decode cX1_begin 11 = .ok (.iconst 0, 1) := by decide +kernel
theorem dX1_begin_12 : decode cX1_begin 12 = .ok (.invokestatic 20, 3) := by decide +kernel
theorem dX1_begin_15 : decode cX1_begin 15 = .ok (.return_, 1) := by decide +kernel
theorem dX1_askFor_0 : decode cX1_askFor 0 = .ok (.iconst 1, 1) := by decide +kernel
theorem dX1_askFor_1 : decode cX1_askFor 1 = .ok (.iload_n 3, 1) := by decide +kernel
theorem dX1_askFor_2 : decode cX1_askFor 2 = .ok (.ishl, 1) := by decide +kernel
theorem dX1_askFor_3 : decode cX1_askFor 3 = .ok (.iconst 1, 1) := by decide +kernel
theorem dX1_askFor_4 : decode cX1_askFor 4 = .ok (.isub, 1) := by decide +kernel
theorem dX1_askFor_5 : decode cX1_askFor 5 = .ok (.iload_n 1, 1) := by decide +kernel
theorem dX1_askFor_6 : decode cX1_askFor 6 = .ok (.ishl, 1) := by decide +kernel
theorem dX1_askFor_7 : decode cX1_askFor 7 = .ok (.istore 6, 2) := by decide +kernel
theorem dX1_askFor_9 : decode cX1_askFor 9 = .ok (.iload_n 2, 1) := by decide +kernel
theorem dX1_askFor_10 : decode cX1_askFor 10 = .ok (.istore 7, 2) := by decide +kernel
theorem dX1_askFor_12 : decode cX1_askFor 12 = .ok (.iload 7, 2) := by decide +kernel
theorem dX1_askFor_14 : decode cX1_askFor 14 = .ok (.iload_n 2, 1) := by decide +kernel
theorem dX1_askFor_15 : decode cX1_askFor 15 = .ok (.iload 4, 2) := by decide +kernel
theorem dX1_askFor_17 : decode cX1_askFor 17 = .ok (.iadd, 1) := by decide +kernel
theorem dX1_askFor_18 : decode cX1_askFor 18 = .ok (.if_icmp .ge 32, 3) := by decide +kernel
theorem dX1_askFor_21 : decode cX1_askFor 21 = .ok (.aload_n 0, 1) := by decide +kernel
theorem dX1_askFor_22 : decode cX1_askFor 22 = .ok (.getfield 11, 3) := by decide +kernel
theorem dX1_askFor_25 : decode cX1_askFor 25 = .ok (.aload_n 0, 1) := by decide +kernel
theorem dX1_askFor_26 : decode cX1_askFor 26 = .ok (.getfield 16, 3) := by decide +kernel
theorem dX1_askFor_29 : decode cX1_askFor 29 = .ok (.aaload, 1) := by decide +kernel
theorem dX1_askFor_30 : decode cX1_askFor 30 = .ok (.iload 5, 2) := by decide +kernel
theorem dX1_askFor_32 : decode cX1_askFor 32 = .ok (.bipush 16, 2) := by decide +kernel
theorem dX1_askFor_34 : decode cX1_askFor 34 = .ok (.imul, 1) := by decide +kernel
theorem dX1_askFor_35 : decode cX1_askFor 35 = .ok (.iload 7, 2) := by decide +kernel
theorem dX1_askFor_37 : decode cX1_askFor 37 = .ok (.iadd, 1) := by decide +kernel
theorem dX1_askFor_38 : decode cX1_askFor 38 = .ok (.dup2, 1) := by decide +kernel
theorem dX1_askFor_39 : decode cX1_askFor 39 = .ok (.iaload, 1) := by decide +kernel
theorem dX1_askFor_40 : decode cX1_askFor 40 = .ok (.iload 6, 2) := by decide +kernel
theorem dX1_askFor_42 : decode cX1_askFor 42 = .ok (.ior, 1) := by decide +kernel
theorem dX1_askFor_43 : decode cX1_askFor 43 = .ok (.iastore, 1) := by decide +kernel
theorem dX1_askFor_44 : decode cX1_askFor 44 = .ok (.iinc 7 1, 3) := by decide +kernel
theorem dX1_askFor_47 : decode cX1_askFor 47 = .ok (.goto (-35), 3) := by decide +kernel
theorem dX1_askFor_50 : decode cX1_askFor 50 = .ok (.return_, 1) := by decide +kernel
theorem dX1_isCellAsked_0 : decode cX1_isCellAsked 0 = .ok (.aload_n 0, 1) := by decide +kernel
theorem dX1_isCellAsked_1 : decode cX1_isCellAsked 1 = .ok (.getfield 11, 3) := by decide +kernel
theorem dX1_isCellAsked_4 : decode cX1_isCellAsked 4 = .ok (.iconst 0, 1) := by decide +kernel
theorem dX1_isCellAsked_5 : decode cX1_isCellAsked 5 = .ok (.aaload, 1) := by decide +kernel
theorem dX1_isCellAsked_6 : decode cX1_isCellAsked 6 = .ok (.iload_n 2, 1) := by decide +kernel
theorem dX1_isCellAsked_7 : decode cX1_isCellAsked 7 = .ok (.iaload, 1) := by decide +kernel
theorem dX1_isCellAsked_8 : decode cX1_isCellAsked 8 = .ok (.iload_n 1, 1) := by decide +kernel
theorem dX1_isCellAsked_9 : decode cX1_isCellAsked 9 = .ok (.ishr, 1) := by decide +kernel
theorem dX1_isCellAsked_10 : decode cX1_isCellAsked 10 = .ok (.iconst 1, 1) := by decide +kernel
theorem dX1_isCellAsked_11 : decode cX1_isCellAsked 11 = .ok (.iand, 1) := by decide +kernel
theorem dX1_isCellAsked_12 : decode cX1_isCellAsked 12 = .ok (.iconst 1, 1) := by decide +kernel
theorem dX1_isCellAsked_13 : decode cX1_isCellAsked 13 = .ok (.if_icmp .ne 7, 3) := by decide +kernel
theorem dX1_isCellAsked_16 : decode cX1_isCellAsked 16 = .ok (.iconst 1, 1) := by decide +kernel
theorem dX1_isCellAsked_17 : decode cX1_isCellAsked 17 = .ok (.goto 4, 3) := by decide +kernel
theorem dX1_isCellAsked_20 : decode cX1_isCellAsked 20 = .ok (.iconst 0, 1) := by decide +kernel
theorem dX1_isCellAsked_21 : decode cX1_isCellAsked 21 = .ok (.ireturn, 1) := by decide +kernel
theorem dX1_cellsAsked_0 : decode cX1_cellsAsked 0 = .ok (.iconst 0, 1) := by decide +kernel
theorem dX1_cellsAsked_1 : decode cX1_cellsAsked 1 = .ok (.istore_n 1, 1) := by decide +kernel
theorem dX1_cellsAsked_2 : decode cX1_cellsAsked 2 = .ok (.iconst 0, 1) := by decide +kernel
theorem dX1_cellsAsked_3 : decode cX1_cellsAsked 3 = .ok (.istore_n 2, 1) := by decide +kernel
theorem dX1_cellsAsked_4 : decode cX1_cellsAsked 4 = .ok (.iload_n 2, 1) := by decide +kernel
theorem dX1_cellsAsked_5 : decode cX1_cellsAsked 5 = .ok (.bipush 16, 2) := by decide +kernel
theorem dX1_cellsAsked_7 : decode cX1_cellsAsked 7 = .ok (.if_icmp .ge 23, 3) := by decide +kernel
theorem dX1_cellsAsked_10 : decode cX1_cellsAsked 10 = .ok (.iload_n 1, 1) := by decide +kernel
theorem dX1_cellsAsked_11 : decode cX1_cellsAsked 11 = .ok (.aload_n 0, 1) := by decide +kernel
theorem dX1_cellsAsked_12 : decode cX1_cellsAsked 12 = .ok (.getfield 11, 3) := by decide +kernel
theorem dX1_cellsAsked_15 : decode cX1_cellsAsked 15 = .ok (.iconst 0, 1) := by decide +kernel
theorem dX1_cellsAsked_16 : decode cX1_cellsAsked 16 = .ok (.aaload, 1) := by decide +kernel
theorem dX1_cellsAsked_17 : decode cX1_cellsAsked 17 = .ok (.iload_n 2, 1) := by decide +kernel
theorem dX1_cellsAsked_18 : decode cX1_cellsAsked 18 = .ok (.iaload, 1) := by decide +kernel
theorem dX1_cellsAsked_19 : decode cX1_cellsAsked 19 = .ok (.invokestatic 26, 3) := by decide +kernel
theorem dX1_cellsAsked_22 : decode cX1_cellsAsked 22 = .ok (.iadd, 1) := by decide +kernel
theorem dX1_cellsAsked_23 : decode cX1_cellsAsked 23 = .ok (.istore_n 1, 1) := by decide +kernel
theorem dX1_cellsAsked_24 : decode cX1_cellsAsked 24 = .ok (.iinc 2 1, 3) := by decide +kernel
theorem dX1_cellsAsked_27 : decode cX1_cellsAsked 27 = .ok (.goto (-23), 3) := by decide +kernel
theorem dX1_cellsAsked_30 : decode cX1_cellsAsked 30 = .ok (.iload_n 1, 1) := by decide +kernel
theorem dX1_cellsAsked_31 : decode cX1_cellsAsked 31 = .ok (.ireturn, 1) := by decide +kernel
theorem dX1_traceBack_0 : decode cX1_traceBack 0 = .ok (.aload_n 0, 1) := by decide +kernel
theorem dX1_traceBack_1 : decode cX1_traceBack 1 = .ok (.getfield 16, 3) := by decide +kernel
theorem dX1_traceBack_4 : decode cX1_traceBack 4 = .ok (.iconst 1, 1) := by decide +kernel
theorem dX1_traceBack_5 : decode cX1_traceBack 5 = .ok (.isub, 1) := by decide +kernel
theorem dX1_traceBack_6 : decode cX1_traceBack 6 = .ok (.istore_n 2, 1) := by decide +kernel
theorem dX1_traceBack_7 : decode cX1_traceBack 7 = .ok (.iload_n 2, 1) := by decide +kernel
theorem dX1_traceBack_8 : decode cX1_traceBack 8 = .ok (.ifCond .lt 48, 3) := by decide +kernel
theorem dX1_traceBack_11 : decode cX1_traceBack 11 = .ok (.aload_n 0, 1) := by decide +kernel
theorem dX1_traceBack_12 : decode cX1_traceBack 12 = .ok (.getfield 11, 3) := by decide +kernel
theorem dX1_traceBack_15 : decode cX1_traceBack 15 = .ok (.iload_n 2, 1) := by decide +kernel
theorem dX1_traceBack_16 : decode cX1_traceBack 16 = .ok (.aaload, 1) := by decide +kernel
theorem dX1_traceBack_17 : decode cX1_traceBack 17 = .ok (.iconst 0, 1) := by decide +kernel
theorem dX1_traceBack_18 : decode cX1_traceBack 18 = .ok (.invokestatic 20, 3) := by decide +kernel
theorem dX1_traceBack_21 : decode cX1_traceBack 21 = .ok (.aload_n 1, 1) := by decide +kernel
theorem dX1_traceBack_22 : decode cX1_traceBack 22 = .ok (.getfield 32, 3) := by decide +kernel
theorem dX1_traceBack_25 : decode cX1_traceBack 25 = .ok (.iload_n 2, 1) := by decide +kernel
theorem dX1_traceBack_26 : decode cX1_traceBack 26 = .ok (.iaload, 1) := by decide +kernel
theorem dX1_traceBack_27 : decode cX1_traceBack 27 = .ok (.aload_n 0, 1) := by decide +kernel
theorem dX1_traceBack_28 : decode cX1_traceBack 28 = .ok (.getfield 11, 3) := by decide +kernel
theorem dX1_traceBack_31 : decode cX1_traceBack 31 = .ok (.iload_n 2, 1) := by decide +kernel
theorem dX1_traceBack_32 : decode cX1_traceBack 32 = .ok (.iconst 1, 1) := by decide +kernel
theorem dX1_traceBack_33 : decode cX1_traceBack 33 = .ok (.iadd, 1) := by decide +kernel
theorem dX1_traceBack_34 : decode cX1_traceBack 34 = .ok (.aaload, 1) := by decide +kernel
theorem dX1_traceBack_35 : decode cX1_traceBack 35 = .ok (.aload_n 0, 1) := by decide +kernel
theorem dX1_traceBack_36 : decode cX1_traceBack 36 = .ok (.getfield 11, 3) := by decide +kernel
theorem dX1_traceBack_39 : decode cX1_traceBack 39 = .ok (.iload_n 2, 1) := by decide +kernel
theorem dX1_traceBack_40 : decode cX1_traceBack 40 = .ok (.aaload, 1) := by decide +kernel
theorem dX1_traceBack_41 : decode cX1_traceBack 41 = .ok (.aload_n 1, 1) := by decide +kernel
theorem dX1_traceBack_42 : decode cX1_traceBack 42 = .ok (.getfield 38, 3) := by decide +kernel
theorem dX1_traceBack_45 : decode cX1_traceBack 45 = .ok (.iload_n 2, 1) := by decide +kernel
theorem dX1_traceBack_46 : decode cX1_traceBack 46 = .ok (.aaload, 1) := by decide +kernel
theorem dX1_traceBack_47 : decode cX1_traceBack 47 = .ok (.invokestatic 41, 3) := by decide +kernel
theorem dX1_traceBack_50 : decode cX1_traceBack 50 = .ok (.iinc 2 (-1), 3) := by decide +kernel
theorem dX1_traceBack_53 : decode cX1_traceBack 53 = .ok (.goto (-46), 3) := by decide +kernel
theorem dX1_traceBack_56 : decode cX1_traceBack 56 = .ok (.return_, 1) := by decide +kernel
theorem dX1_traceStep_0 : decode cX1_traceStep 0 = .ok (.iload_n 0, 1) := by decide +kernel
theorem dX1_traceStep_1 : decode cX1_traceStep 1 = .ok (.tableswitch 74 2 7 #[39, 39, 48, 57, 74, 65], 39) := by decide +kernel
theorem dX1_traceStep_40 : decode cX1_traceStep 40 = .ok (.aload_n 1, 1) := by decide +kernel
theorem dX1_traceStep_41 : decode cX1_traceStep 41 = .ok (.aload_n 2, 1) := by decide +kernel
theorem dX1_traceStep_42 : decode cX1_traceStep 42 = .ok (.aload_n 3, 1) := by decide +kernel
theorem dX1_traceStep_43 : decode cX1_traceStep 43 = .ok (.invokestatic 45, 3) := by decide +kernel
theorem dX1_traceStep_46 : decode cX1_traceStep 46 = .ok (.goto 38, 3) := by decide +kernel
theorem dX1_traceStep_49 : decode cX1_traceStep 49 = .ok (.aload_n 1, 1) := by decide +kernel
theorem dX1_traceStep_50 : decode cX1_traceStep 50 = .ok (.aload_n 2, 1) := by decide +kernel
theorem dX1_traceStep_51 : decode cX1_traceStep 51 = .ok (.aload_n 3, 1) := by decide +kernel
theorem dX1_traceStep_52 : decode cX1_traceStep 52 = .ok (.invokestatic 49, 3) := by decide +kernel
theorem dX1_traceStep_55 : decode cX1_traceStep 55 = .ok (.goto 29, 3) := by decide +kernel
theorem dX1_traceStep_58 : decode cX1_traceStep 58 = .ok (.aload_n 1, 1) := by decide +kernel
theorem dX1_traceStep_59 : decode cX1_traceStep 59 = .ok (.aload_n 2, 1) := by decide +kernel
theorem dX1_traceStep_60 : decode cX1_traceStep 60 = .ok (.invokestatic 52, 3) := by decide +kernel
theorem dX1_traceStep_63 : decode cX1_traceStep 63 = .ok (.goto 21, 3) := by decide +kernel
theorem dX1_traceStep_66 : decode cX1_traceStep 66 = .ok (.aload_n 1, 1) := by decide +kernel
theorem dX1_traceStep_67 : decode cX1_traceStep 67 = .ok (.aload_n 2, 1) := by decide +kernel
theorem dX1_traceStep_68 : decode cX1_traceStep 68 = .ok (.aload_n 3, 1) := by decide +kernel
theorem dX1_traceStep_69 : decode cX1_traceStep 69 = .ok (.invokestatic 56, 3) := by decide +kernel
theorem dX1_traceStep_72 : decode cX1_traceStep 72 = .ok (.goto 12, 3) := by decide +kernel
theorem dX1_traceStep_75 : decode cX1_traceStep 75 = .ok (.aload_n 1, 1) := by decide +kernel
theorem dX1_traceStep_76 : decode cX1_traceStep 76 = .ok (.iconst 0, 1) := by decide +kernel
theorem dX1_traceStep_77 : decode cX1_traceStep 77 = .ok (.aload_n 2, 1) := by decide +kernel
theorem dX1_traceStep_78 : decode cX1_traceStep 78 = .ok (.iconst 0, 1) := by decide +kernel
theorem dX1_traceStep_79 : decode cX1_traceStep 79 = .ok (.bipush 48, 2) := by decide +kernel
theorem dX1_traceStep_81 : decode cX1_traceStep 81 = .ok (.invokestatic 59, 3) := by decide +kernel
theorem dX1_traceStep_84 : decode cX1_traceStep 84 = .ok (.return_, 1) := by decide +kernel
theorem dX1_traceNear_0 : decode cX1_traceNear 0 = .ok (.aload_n 2, 1) := by decide +kernel
theorem dX1_traceNear_1 : decode cX1_traceNear 1 = .ok (.iconst 1, 1) := by decide +kernel
theorem dX1_traceNear_2 : decode cX1_traceNear 2 = .ok (.iaload, 1) := by decide +kernel
theorem dX1_traceNear_3 : decode cX1_traceNear 3 = .ok (.istore_n 3, 1) := by decide +kernel
theorem dX1_traceNear_4 : decode cX1_traceNear 4 = .ok (.iconst 1, 1) := by decide +kernel
theorem dX1_traceNear_5 : decode cX1_traceNear 5 = .ok (.aload_n 2, 1) := by decide +kernel
theorem dX1_traceNear_6 : decode cX1_traceNear 6 = .ok (.iconst 0, 1) := by decide +kernel
theorem dX1_traceNear_7 : decode cX1_traceNear 7 = .ok (.iaload, 1) := by decide +kernel
theorem dX1_traceNear_8 : decode cX1_traceNear 8 = .ok (.ishl, 1) := by decide +kernel
theorem dX1_traceNear_9 : decode cX1_traceNear 9 = .ok (.iconst 1, 1) := by decide +kernel
theorem dX1_traceNear_10 : decode cX1_traceNear 10 = .ok (.isub, 1) := by decide +kernel
theorem dX1_traceNear_11 : decode cX1_traceNear 11 = .ok (.istore 4, 2) := by decide +kernel
theorem dX1_traceNear_13 : decode cX1_traceNear 13 = .ok (.iconst 0, 1) := by decide +kernel
theorem dX1_traceNear_14 : decode cX1_traceNear 14 = .ok (.istore 5, 2) := by decide +kernel
theorem dX1_traceNear_16 : decode cX1_traceNear 16 = .ok (.iload 5, 2) := by decide +kernel
theorem dX1_traceNear_18 : decode cX1_traceNear 18 = .ok (.iload_n 3, 1) := by decide +kernel
theorem dX1_traceNear_19 : decode cX1_traceNear 19 = .ok (.if_icmp .ge 73, 3) := by decide +kernel
theorem dX1_traceNear_22 : decode cX1_traceNear 22 = .ok (.aload_n 0, 1) := by decide +kernel
theorem dX1_traceNear_23 : decode cX1_traceNear 23 = .ok (.iload 5, 2) := by decide +kernel
theorem dX1_traceNear_25 : decode cX1_traceNear 25 = .ok (.iaload, 1) := by decide +kernel
theorem dX1_traceNear_26 : decode cX1_traceNear 26 = .ok (.istore 6, 2) := by decide +kernel
theorem dX1_traceNear_28 : decode cX1_traceNear 28 = .ok (.aload_n 1, 1) := by decide +kernel
theorem dX1_traceNear_29 : decode cX1_traceNear 29 = .ok (.iload 5, 2) := by decide +kernel
theorem dX1_traceNear_31 : decode cX1_traceNear 31 = .ok (.dup2, 1) := by decide +kernel
theorem dX1_traceNear_32 : decode cX1_traceNear 32 = .ok (.iaload, 1) := by decide +kernel
theorem dX1_traceNear_33 : decode cX1_traceNear 33 = .ok (.iload 6, 2) := by decide +kernel
theorem dX1_traceNear_35 : decode cX1_traceNear 35 = .ok (.iload 6, 2) := by decide +kernel
theorem dX1_traceNear_37 : decode cX1_traceNear 37 = .ok (.iconst 2, 1) := by decide +kernel
theorem dX1_traceNear_38 : decode cX1_traceNear 38 = .ok (.ishl, 1) := by decide +kernel
theorem dX1_traceNear_39 : decode cX1_traceNear 39 = .ok (.ior, 1) := by decide +kernel
theorem dX1_traceNear_40 : decode cX1_traceNear 40 = .ok (.iload 6, 2) := by decide +kernel
theorem dX1_traceNear_42 : decode cX1_traceNear 42 = .ok (.iconst 2, 1) := by decide +kernel
theorem dX1_traceNear_43 : decode cX1_traceNear 43 = .ok (.ishr, 1) := by decide +kernel
theorem dX1_traceNear_44 : decode cX1_traceNear 44 = .ok (.ior, 1) := by decide +kernel
theorem dX1_traceNear_45 : decode cX1_traceNear 45 = .ok (.iload 4, 2) := by decide +kernel
theorem dX1_traceNear_47 : decode cX1_traceNear 47 = .ok (.iand, 1) := by decide +kernel
theorem dX1_traceNear_48 : decode cX1_traceNear 48 = .ok (.ior, 1) := by decide +kernel
theorem dX1_traceNear_49 : decode cX1_traceNear 49 = .ok (.iastore, 1) := by decide +kernel
theorem dX1_traceNear_50 : decode cX1_traceNear 50 = .ok (.iload 5, 2) := by decide +kernel
theorem dX1_traceNear_52 : decode cX1_traceNear 52 = .ok (.iconst 2, 1) := by decide +kernel
theorem dX1_traceNear_53 : decode cX1_traceNear 53 = .ok (.if_icmp .lt 14, 3) := by decide +kernel
theorem dX1_traceNear_56 : decode cX1_traceNear 56 = .ok (.aload_n 1, 1) := by decide +kernel
theorem dX1_traceNear_57 : decode cX1_traceNear 57 = .ok (.iload 5, 2) := by decide +kernel
theorem dX1_traceNear_59 : decode cX1_traceNear 59 = .ok (.iconst 2, 1) := by decide +kernel
theorem dX1_traceNear_60 : decode cX1_traceNear 60 = .ok (.isub, 1) := by decide +kernel
theorem dX1_traceNear_61 : decode cX1_traceNear 61 = .ok (.dup2, 1) := by decide +kernel
theorem dX1_traceNear_62 : decode cX1_traceNear 62 = .ok (.iaload, 1) := by decide +kernel
theorem dX1_traceNear_63 : decode cX1_traceNear 63 = .ok (.iload 6, 2) := by decide +kernel
theorem dX1_traceNear_65 : decode cX1_traceNear 65 = .ok (.ior, 1) := by decide +kernel
theorem dX1_traceNear_66 : decode cX1_traceNear 66 = .ok (.iastore, 1) := by decide +kernel
theorem dX1_traceNear_67 : decode cX1_traceNear 67 = .ok (.iload 5, 2) := by decide +kernel
theorem dX1_traceNear_69 : decode cX1_traceNear 69 = .ok (.iconst 2, 1) := by decide +kernel
theorem dX1_traceNear_70 : decode cX1_traceNear 70 = .ok (.iadd, 1) := by decide +kernel
theorem dX1_traceNear_71 : decode cX1_traceNear 71 = .ok (.iload_n 3, 1) := by decide +kernel
theorem dX1_traceNear_72 : decode cX1_traceNear 72 = .ok (.if_icmp .ge 14, 3) := by decide +kernel
theorem dX1_traceNear_75 : decode cX1_traceNear 75 = .ok (.aload_n 1, 1) := by decide +kernel
theorem dX1_traceNear_76 : decode cX1_traceNear 76 = .ok (.iload 5, 2) := by decide +kernel
theorem dX1_traceNear_78 : decode cX1_traceNear 78 = .ok (.iconst 2, 1) := by decide +kernel
theorem dX1_traceNear_79 : decode cX1_traceNear 79 = .ok (.iadd, 1) := by decide +kernel
theorem dX1_traceNear_80 : decode cX1_traceNear 80 = .ok (.dup2, 1) := by decide +kernel
theorem dX1_traceNear_81 : decode cX1_traceNear 81 = .ok (.iaload, 1) := by decide +kernel
theorem dX1_traceNear_82 : decode cX1_traceNear 82 = .ok (.iload 6, 2) := by decide +kernel
theorem dX1_traceNear_84 : decode cX1_traceNear 84 = .ok (.ior, 1) := by decide +kernel
theorem dX1_traceNear_85 : decode cX1_traceNear 85 = .ok (.iastore, 1) := by decide +kernel
theorem dX1_traceNear_86 : decode cX1_traceNear 86 = .ok (.iinc 5 1, 3) := by decide +kernel
theorem dX1_traceNear_89 : decode cX1_traceNear 89 = .ok (.goto (-73), 3) := by decide +kernel
theorem dX1_traceNear_92 : decode cX1_traceNear 92 = .ok (.return_, 1) := by decide +kernel
theorem dX1_traceColours_0 : decode cX1_traceColours 0 = .ok (.aload_n 2, 1) := by decide +kernel
theorem dX1_traceColours_1 : decode cX1_traceColours 1 = .ok (.iconst 1, 1) := by decide +kernel
theorem dX1_traceColours_2 : decode cX1_traceColours 2 = .ok (.iaload, 1) := by decide +kernel
theorem dX1_traceColours_3 : decode cX1_traceColours 3 = .ok (.istore_n 3, 1) := by decide +kernel
theorem dX1_traceColours_4 : decode cX1_traceColours 4 = .ok (.iconst 1, 1) := by decide +kernel
theorem dX1_traceColours_5 : decode cX1_traceColours 5 = .ok (.aload_n 2, 1) := by decide +kernel
theorem dX1_traceColours_6 : decode cX1_traceColours 6 = .ok (.iconst 0, 1) := by decide +kernel
theorem dX1_traceColours_7 : decode cX1_traceColours 7 = .ok (.iaload, 1) := by decide +kernel
theorem dX1_traceColours_8 : decode cX1_traceColours 8 = .ok (.ishl, 1) := by decide +kernel
theorem dX1_traceColours_9 : decode cX1_traceColours 9 = .ok (.iconst 1, 1) := by decide +kernel
theorem dX1_traceColours_10 : decode cX1_traceColours 10 = .ok (.isub, 1) := by decide +kernel
theorem dX1_traceColours_11 : decode cX1_traceColours 11 = .ok (.istore 4, 2) := by decide +kernel
theorem dX1_traceColours_13 : decode cX1_traceColours 13 = .ok (.iconst 0, 1) := by decide +kernel
theorem dX1_traceColours_14 : decode cX1_traceColours 14 = .ok (.istore 5, 2) := by decide +kernel
theorem dX1_traceColours_16 : decode cX1_traceColours 16 = .ok (.iload 5, 2) := by decide +kernel
theorem dX1_traceColours_18 : decode cX1_traceColours 18 = .ok (.iconst 3, 1) := by decide +kernel
theorem dX1_traceColours_19 : decode cX1_traceColours 19 = .ok (.if_icmp .ge 131, 3) := by decide +kernel
theorem dX1_traceColours_22 : decode cX1_traceColours 22 = .ok (.iconst 0, 1) := by decide +kernel
theorem dX1_traceColours_23 : decode cX1_traceColours 23 = .ok (.istore 6, 2) := by decide +kernel
theorem dX1_traceColours_25 : decode cX1_traceColours 25 = .ok (.iload 6, 2) := by decide +kernel
theorem dX1_traceColours_27 : decode cX1_traceColours 27 = .ok (.iload_n 3, 1) := by decide +kernel
theorem dX1_traceColours_28 : decode cX1_traceColours 28 = .ok (.if_icmp .ge 116, 3) := by decide +kernel
theorem dX1_traceColours_31 : decode cX1_traceColours 31 = .ok (.aload_n 0, 1) := by decide +kernel
theorem dX1_traceColours_32 : decode cX1_traceColours 32 = .ok (.iload 5, 2) := by decide +kernel
theorem dX1_traceColours_34 : decode cX1_traceColours 34 = .ok (.bipush 16, 2) := by decide +kernel
theorem dX1_traceColours_36 : decode cX1_traceColours 36 = .ok (.imul, 1) := by decide +kernel
theorem dX1_traceColours_37 : decode cX1_traceColours 37 = .ok (.iload 6, 2) := by decide +kernel
theorem dX1_traceColours_39 : decode cX1_traceColours 39 = .ok (.iadd, 1) := by decide +kernel
theorem dX1_traceColours_40 : decode cX1_traceColours 40 = .ok (.iaload, 1) := by decide +kernel
theorem dX1_traceColours_41 : decode cX1_traceColours 41 = .ok (.istore 7, 2) := by decide +kernel
theorem dX1_traceColours_43 : decode cX1_traceColours 43 = .ok (.iload 7, 2) := by decide +kernel
theorem dX1_traceColours_45 : decode cX1_traceColours 45 = .ok (.iload 5, 2) := by decide +kernel
theorem dX1_traceColours_47 : decode cX1_traceColours 47 = .ok (.iload 6, 2) := by decide +kernel
theorem dX1_traceColours_49 : decode cX1_traceColours 49 = .ok (.invokestatic 65, 3) := by decide +kernel
theorem dX1_traceColours_52 : decode cX1_traceColours 52 = .ok (.iand, 1) := by decide +kernel
theorem dX1_traceColours_53 : decode cX1_traceColours 53 = .ok (.istore 8, 2) := by decide +kernel
theorem dX1_traceColours_55 : decode cX1_traceColours 55 = .ok (.iload 7, 2) := by decide +kernel
theorem dX1_traceColours_57 : decode cX1_traceColours 57 = .ok (.iload 8, 2) := by decide +kernel
theorem dX1_traceColours_59 : decode cX1_traceColours 59 = .ok (.iconst (-1), 1) := by decide +kernel
theorem dX1_traceColours_60 : decode cX1_traceColours 60 = .ok (.ixor, 1) := by decide +kernel
theorem dX1_traceColours_61 : decode cX1_traceColours 61 = .ok (.iand, 1) := by decide +kernel
theorem dX1_traceColours_62 : decode cX1_traceColours 62 = .ok (.istore 9, 2) := by decide +kernel
theorem dX1_traceColours_64 : decode cX1_traceColours 64 = .ok (.iload 9, 2) := by decide +kernel
theorem dX1_traceColours_66 : decode cX1_traceColours 66 = .ok (.iload 9, 2) := by decide +kernel
theorem dX1_traceColours_68 : decode cX1_traceColours 68 = .ok (.iconst 1, 1) := by decide +kernel
theorem dX1_traceColours_69 : decode cX1_traceColours 69 = .ok (.ishl, 1) := by decide +kernel
theorem dX1_traceColours_70 : decode cX1_traceColours 70 = .ok (.ior, 1) := by decide +kernel
theorem dX1_traceColours_71 : decode cX1_traceColours 71 = .ok (.iload 9, 2) := by decide +kernel
theorem dX1_traceColours_73 : decode cX1_traceColours 73 = .ok (.iconst 1, 1) := by decide +kernel
theorem dX1_traceColours_74 : decode cX1_traceColours 74 = .ok (.ishr, 1) := by decide +kernel
theorem dX1_traceColours_75 : decode cX1_traceColours 75 = .ok (.ior, 1) := by decide +kernel
theorem dX1_traceColours_76 : decode cX1_traceColours 76 = .ok (.iload 4, 2) := by decide +kernel
theorem dX1_traceColours_78 : decode cX1_traceColours 78 = .ok (.iand, 1) := by decide +kernel
theorem dX1_traceColours_79 : decode cX1_traceColours 79 = .ok (.istore 10, 2) := by decide +kernel
theorem dX1_traceColours_81 : decode cX1_traceColours 81 = .ok (.aload_n 1, 1) := by decide +kernel
theorem dX1_traceColours_82 : decode cX1_traceColours 82 = .ok (.iload 6, 2) := by decide +kernel
theorem dX1_traceColours_84 : decode cX1_traceColours 84 = .ok (.dup2, 1) := by decide +kernel
theorem dX1_traceColours_85 : decode cX1_traceColours 85 = .ok (.iaload, 1) := by decide +kernel
theorem dX1_traceColours_86 : decode cX1_traceColours 86 = .ok (.iload 8, 2) := by decide +kernel
theorem dX1_traceColours_88 : decode cX1_traceColours 88 = .ok (.ior, 1) := by decide +kernel
theorem dX1_traceColours_89 : decode cX1_traceColours 89 = .ok (.iastore, 1) := by decide +kernel
theorem dX1_traceColours_90 : decode cX1_traceColours 90 = .ok (.iload 6, 2) := by decide +kernel
theorem dX1_traceColours_92 : decode cX1_traceColours 92 = .ok (.iconst 1, 1) := by decide +kernel
theorem dX1_traceColours_93 : decode cX1_traceColours 93 = .ok (.isub, 1) := by decide +kernel
theorem dX1_traceColours_94 : decode cX1_traceColours 94 = .ok (.iconst 0, 1) := by decide +kernel
theorem dX1_traceColours_95 : decode cX1_traceColours 95 = .ok (.invokestatic 69, 3) := by decide +kernel
theorem dX1_traceColours_98 : decode cX1_traceColours 98 = .ok (.istore 11, 2) := by decide +kernel
theorem dX1_traceColours_100 : decode cX1_traceColours 100 = .ok (.iload 11, 2) := by decide +kernel
theorem dX1_traceColours_102 : decode cX1_traceColours 102 = .ok (.iload 6, 2) := by decide +kernel
theorem dX1_traceColours_104 : decode cX1_traceColours 104 = .ok (.iconst 1, 1) := by decide +kernel
theorem dX1_traceColours_105 : decode cX1_traceColours 105 = .ok (.iadd, 1) := by decide +kernel
theorem dX1_traceColours_106 : decode cX1_traceColours 106 = .ok (.iload_n 3, 1) := by decide +kernel
theorem dX1_traceColours_107 : decode cX1_traceColours 107 = .ok (.iconst 1, 1) := by decide +kernel
theorem dX1_traceColours_108 : decode cX1_traceColours 108 = .ok (.isub, 1) := by decide +kernel
theorem dX1_traceColours_109 : decode cX1_traceColours 109 = .ok (.invokestatic 74, 3) := by decide +kernel
theorem dX1_traceColours_112 : decode cX1_traceColours 112 = .ok (.if_icmp .gt 26, 3) := by decide +kernel
theorem dX1_traceColours_115 : decode cX1_traceColours 115 = .ok (.aload_n 1, 1) := by decide +kernel
theorem dX1_traceColours_116 : decode cX1_traceColours 116 = .ok (.iload 11, 2) := by decide +kernel
theorem dX1_traceColours_118 : decode cX1_traceColours 118 = .ok (.dup2, 1) := by decide +kernel
theorem dX1_traceColours_119 : decode cX1_traceColours 119 = .ok (.iaload, 1) := by decide +kernel
theorem dX1_traceColours_120 : decode cX1_traceColours 120 = .ok (.iload 10, 2) := by decide +kernel
theorem dX1_traceColours_122 : decode cX1_traceColours 122 = .ok (.iload 5, 2) := by decide +kernel
theorem dX1_traceColours_124 : decode cX1_traceColours 124 = .ok (.iload 11, 2) := by decide +kernel
theorem dX1_traceColours_126 : decode cX1_traceColours 126 = .ok (.invokestatic 65, 3) := by decide +kernel
theorem dX1_traceColours_129 : decode cX1_traceColours 129 = .ok (.iand, 1) := by decide +kernel
theorem dX1_traceColours_130 : decode cX1_traceColours 130 = .ok (.ior, 1) := by decide +kernel
theorem dX1_traceColours_131 : decode cX1_traceColours 131 = .ok (.iastore, 1) := by decide +kernel
theorem dX1_traceColours_132 : decode cX1_traceColours 132 = .ok (.iinc 11 1, 3) := by decide +kernel
theorem dX1_traceColours_135 : decode cX1_traceColours 135 = .ok (.goto (-35), 3) := by decide +kernel
theorem dX1_traceColours_138 : decode cX1_traceColours 138 = .ok (.iinc 6 1, 3) := by decide +kernel
theorem dX1_traceColours_141 : decode cX1_traceColours 141 = .ok (.goto (-116), 3) := by decide +kernel
theorem dX1_traceColours_144 : decode cX1_traceColours 144 = .ok (.iinc 5 1, 3) := by decide +kernel
theorem dX1_traceColours_147 : decode cX1_traceColours 147 = .ok (.goto (-131), 3) := by decide +kernel
theorem dX1_traceColours_150 : decode cX1_traceColours 150 = .ok (.return_, 1) := by decide +kernel
theorem dX1_columnsOf_0 : decode cX1_columnsOf 0 = .ok (.iload_n 1, 1) := by decide +kernel
theorem dX1_columnsOf_1 : decode cX1_columnsOf 1 = .ok (.iconst 1, 1) := by decide +kernel
theorem dX1_columnsOf_2 : decode cX1_columnsOf 2 = .ok (.iand, 1) := by decide +kernel
theorem dX1_columnsOf_3 : decode cX1_columnsOf 3 = .ok (.istore_n 2, 1) := by decide +kernel
theorem dX1_columnsOf_4 : decode cX1_columnsOf 4 = .ok (.iload_n 0, 1) := by decide +kernel
theorem dX1_columnsOf_5 : decode cX1_columnsOf 5 = .ok (.iload_n 2, 1) := by decide +kernel
theorem dX1_columnsOf_6 : decode cX1_columnsOf 6 = .ok (.if_icmp .ne 7, 3) := by decide +kernel
theorem dX1_columnsOf_9 : decode cX1_columnsOf 9 = .ok (.sipush 21845, 3) := by decide +kernel
theorem dX1_columnsOf_12 : decode cX1_columnsOf 12 = .ok (.ireturn, 1) := by decide +kernel
theorem dX1_columnsOf_13 : decode cX1_columnsOf 13 = .ok (.iload_n 0, 1) := by decide +kernel
theorem dX1_columnsOf_14 : decode cX1_columnsOf 14 = .ok (.iload_n 2, 1) := by decide +kernel
theorem dX1_columnsOf_15 : decode cX1_columnsOf 15 = .ok (.iconst 1, 1) := by decide +kernel
theorem dX1_columnsOf_16 : decode cX1_columnsOf 16 = .ok (.iadd, 1) := by decide +kernel
theorem dX1_columnsOf_17 : decode cX1_columnsOf 17 = .ok (.if_icmp .ne 8, 3) := by decide +kernel
theorem dX1_columnsOf_20 : decode cX1_columnsOf 20 = .ok (.ldc 77, 2) := by decide +kernel
theorem dX1_columnsOf_22 : decode cX1_columnsOf 22 = .ok (.goto 4, 3) := by decide +kernel
theorem dX1_columnsOf_25 : decode cX1_columnsOf 25 = .ok (.iconst 0, 1) := by decide +kernel
theorem dX1_columnsOf_26 : decode cX1_columnsOf 26 = .ok (.ireturn, 1) := by decide +kernel
theorem dX1_traceMatrix_0 : decode cX1_traceMatrix 0 = .ok (.iconst 0, 1) := by decide +kernel
theorem dX1_traceMatrix_1 : decode cX1_traceMatrix 1 = .ok (.istore_n 2, 1) := by decide +kernel
theorem dX1_traceMatrix_2 : decode cX1_traceMatrix 2 = .ok (.iload_n 2, 1) := by decide +kernel
theorem dX1_traceMatrix_3 : decode cX1_traceMatrix 3 = .ok (.bipush 16, 2) := by decide +kernel
theorem dX1_traceMatrix_5 : decode cX1_traceMatrix 5 = .ok (.if_icmp .ge 52, 3) := by decide +kernel
theorem dX1_traceMatrix_8 : decode cX1_traceMatrix 8 = .ok (.aload_n 0, 1) := by decide +kernel
theorem dX1_traceMatrix_9 : decode cX1_traceMatrix 9 = .ok (.iload_n 2, 1) := by decide +kernel
theorem dX1_traceMatrix_10 : decode cX1_traceMatrix 10 = .ok (.iaload, 1) := by decide +kernel
theorem dX1_traceMatrix_11 : decode cX1_traceMatrix 11 = .ok (.aload_n 0, 1) := by decide +kernel
theorem dX1_traceMatrix_12 : decode cX1_traceMatrix 12 = .ok (.bipush 16, 2) := by decide +kernel
theorem dX1_traceMatrix_14 : decode cX1_traceMatrix 14 = .ok (.iload_n 2, 1) := by decide +kernel
theorem dX1_traceMatrix_15 : decode cX1_traceMatrix 15 = .ok (.iadd, 1) := by decide +kernel
theorem dX1_traceMatrix_16 : decode cX1_traceMatrix 16 = .ok (.iaload, 1) := by decide +kernel
theorem dX1_traceMatrix_17 : decode cX1_traceMatrix 17 = .ok (.ior, 1) := by decide +kernel
theorem dX1_traceMatrix_18 : decode cX1_traceMatrix 18 = .ok (.aload_n 0, 1) := by decide +kernel
theorem dX1_traceMatrix_19 : decode cX1_traceMatrix 19 = .ok (.bipush 32, 2) := by decide +kernel
theorem dX1_traceMatrix_21 : decode cX1_traceMatrix 21 = .ok (.iload_n 2, 1) := by decide +kernel
theorem dX1_traceMatrix_22 : decode cX1_traceMatrix 22 = .ok (.iadd, 1) := by decide +kernel
theorem dX1_traceMatrix_23 : decode cX1_traceMatrix 23 = .ok (.iaload, 1) := by decide +kernel
theorem dX1_traceMatrix_24 : decode cX1_traceMatrix 24 = .ok (.ior, 1) := by decide +kernel
theorem dX1_traceMatrix_25 : decode cX1_traceMatrix 25 = .ok (.istore_n 3, 1) := by decide +kernel
theorem dX1_traceMatrix_26 : decode cX1_traceMatrix 26 = .ok (.iconst 0, 1) := by decide +kernel
theorem dX1_traceMatrix_27 : decode cX1_traceMatrix 27 = .ok (.istore 4, 2) := by decide +kernel
theorem dX1_traceMatrix_29 : decode cX1_traceMatrix 29 = .ok (.iload 4, 2) := by decide +kernel
theorem dX1_traceMatrix_31 : decode cX1_traceMatrix 31 = .ok (.iconst 3, 1) := by decide +kernel
theorem dX1_traceMatrix_32 : decode cX1_traceMatrix 32 = .ok (.if_icmp .ge 19, 3) := by decide +kernel
theorem dX1_traceMatrix_35 : decode cX1_traceMatrix 35 = .ok (.aload_n 1, 1) := by decide +kernel
theorem dX1_traceMatrix_36 : decode cX1_traceMatrix 36 = .ok (.iload 4, 2) := by decide +kernel
theorem dX1_traceMatrix_38 : decode cX1_traceMatrix 38 = .ok (.bipush 16, 2) := by decide +kernel
theorem dX1_traceMatrix_40 : decode cX1_traceMatrix 40 = .ok (.imul, 1) := by decide +kernel
theorem dX1_traceMatrix_41 : decode cX1_traceMatrix 41 = .ok (.iload_n 2, 1) := by decide +kernel
theorem dX1_traceMatrix_42 : decode cX1_traceMatrix 42 = .ok (.iadd, 1) := by decide +kernel
theorem dX1_traceMatrix_43 : decode cX1_traceMatrix 43 = .ok (.iload_n 3, 1) := by decide +kernel
theorem dX1_traceMatrix_44 : decode cX1_traceMatrix 44 = .ok (.iastore, 1) := by decide +kernel
theorem dX1_traceMatrix_45 : decode cX1_traceMatrix 45 = .ok (.iinc 4 1, 3) := by decide +kernel
theorem dX1_traceMatrix_48 : decode cX1_traceMatrix 48 = .ok (.goto (-19), 3) := by decide +kernel
theorem dX1_traceMatrix_51 : decode cX1_traceMatrix 51 = .ok (.iinc 2 1, 3) := by decide +kernel
theorem dX1_traceMatrix_54 : decode cX1_traceMatrix 54 = .ok (.goto (-52), 3) := by decide +kernel
theorem dX1_traceMatrix_57 : decode cX1_traceMatrix 57 = .ok (.return_, 1) := by decide +kernel
theorem dX1_traceHalf_0 : decode cX1_traceHalf 0 = .ok (.iconst 0, 1) := by decide +kernel
theorem dX1_traceHalf_1 : decode cX1_traceHalf 1 = .ok (.istore_n 3, 1) := by decide +kernel
theorem dX1_traceHalf_2 : decode cX1_traceHalf 2 = .ok (.iload_n 3, 1) := by decide +kernel
theorem dX1_traceHalf_3 : decode cX1_traceHalf 3 = .ok (.iconst 3, 1) := by decide +kernel
theorem dX1_traceHalf_4 : decode cX1_traceHalf 4 = .ok (.if_icmp .ge 70, 3) := by decide +kernel
theorem dX1_traceHalf_7 : decode cX1_traceHalf 7 = .ok (.iconst 0, 1) := by decide +kernel
theorem dX1_traceHalf_8 : decode cX1_traceHalf 8 = .ok (.istore 4, 2) := by decide +kernel
theorem dX1_traceHalf_10 : decode cX1_traceHalf 10 = .ok (.iload 4, 2) := by decide +kernel
theorem dX1_traceHalf_12 : decode cX1_traceHalf 12 = .ok (.aload_n 2, 1) := by decide +kernel
theorem dX1_traceHalf_13 : decode cX1_traceHalf 13 = .ok (.iconst 1, 1) := by decide +kernel
theorem dX1_traceHalf_14 : decode cX1_traceHalf 14 = .ok (.iaload, 1) := by decide +kernel
theorem dX1_traceHalf_15 : decode cX1_traceHalf 15 = .ok (.iconst 2, 1) := by decide +kernel
theorem dX1_traceHalf_16 : decode cX1_traceHalf 16 = .ok (.idiv, 1) := by decide +kernel
theorem dX1_traceHalf_17 : decode cX1_traceHalf 17 = .ok (.if_icmp .ge 51, 3) := by decide +kernel
theorem dX1_traceHalf_20 : decode cX1_traceHalf 20 = .ok (.aload_n 0, 1) := by decide +kernel
theorem dX1_traceHalf_21 : decode cX1_traceHalf 21 = .ok (.iload_n 3, 1) := by decide +kernel
theorem dX1_traceHalf_22 : decode cX1_traceHalf 22 = .ok (.bipush 16, 2) := by decide +kernel
theorem dX1_traceHalf_24 : decode cX1_traceHalf 24 = .ok (.imul, 1) := by decide +kernel
theorem dX1_traceHalf_25 : decode cX1_traceHalf 25 = .ok (.iload 4, 2) := by decide +kernel
theorem dX1_traceHalf_27 : decode cX1_traceHalf 27 = .ok (.iadd, 1) := by decide +kernel
theorem dX1_traceHalf_28 : decode cX1_traceHalf 28 = .ok (.iaload, 1) := by decide +kernel
theorem dX1_traceHalf_29 : decode cX1_traceHalf 29 = .ok (.invokestatic 78, 3) := by decide +kernel
theorem dX1_traceHalf_32 : decode cX1_traceHalf 32 = .ok (.istore 5, 2) := by decide +kernel
theorem dX1_traceHalf_34 : decode cX1_traceHalf 34 = .ok (.aload_n 1, 1) := by decide +kernel
theorem dX1_traceHalf_35 : decode cX1_traceHalf 35 = .ok (.iload_n 3, 1) := by decide +kernel
theorem dX1_traceHalf_36 : decode cX1_traceHalf 36 = .ok (.bipush 16, 2) := by decide +kernel
theorem dX1_traceHalf_38 : decode cX1_traceHalf 38 = .ok (.imul, 1) := by decide +kernel
theorem dX1_traceHalf_39 : decode cX1_traceHalf 39 = .ok (.iconst 2, 1) := by decide +kernel
theorem dX1_traceHalf_40 : decode cX1_traceHalf 40 = .ok (.iload 4, 2) := by decide +kernel
theorem dX1_traceHalf_42 : decode cX1_traceHalf 42 = .ok (.imul, 1) := by decide +kernel
theorem dX1_traceHalf_43 : decode cX1_traceHalf 43 = .ok (.iadd, 1) := by decide +kernel
theorem dX1_traceHalf_44 : decode cX1_traceHalf 44 = .ok (.iload 5, 2) := by decide +kernel
theorem dX1_traceHalf_46 : decode cX1_traceHalf 46 = .ok (.iastore, 1) := by decide +kernel
theorem dX1_traceHalf_47 : decode cX1_traceHalf 47 = .ok (.aload_n 1, 1) := by decide +kernel
theorem dX1_traceHalf_48 : decode cX1_traceHalf 48 = .ok (.iload_n 3, 1) := by decide +kernel
theorem dX1_traceHalf_49 : decode cX1_traceHalf 49 = .ok (.bipush 16, 2) := by decide +kernel
theorem dX1_traceHalf_51 : decode cX1_traceHalf 51 = .ok (.imul, 1) := by decide +kernel
theorem dX1_traceHalf_52 : decode cX1_traceHalf 52 = .ok (.iconst 2, 1) := by decide +kernel
theorem dX1_traceHalf_53 : decode cX1_traceHalf 53 = .ok (.iload 4, 2) := by decide +kernel
theorem dX1_traceHalf_55 : decode cX1_traceHalf 55 = .ok (.imul, 1) := by decide +kernel
theorem dX1_traceHalf_56 : decode cX1_traceHalf 56 = .ok (.iadd, 1) := by decide +kernel
theorem dX1_traceHalf_57 : decode cX1_traceHalf 57 = .ok (.iconst 1, 1) := by decide +kernel
theorem dX1_traceHalf_58 : decode cX1_traceHalf 58 = .ok (.iadd, 1) := by decide +kernel
theorem dX1_traceHalf_59 : decode cX1_traceHalf 59 = .ok (.iload 5, 2) := by decide +kernel
theorem dX1_traceHalf_61 : decode cX1_traceHalf 61 = .ok (.iastore, 1) := by decide +kernel
theorem dX1_traceHalf_62 : decode cX1_traceHalf 62 = .ok (.iinc 4 1, 3) := by decide +kernel
theorem dX1_traceHalf_65 : decode cX1_traceHalf 65 = .ok (.goto (-55), 3) := by decide +kernel
theorem dX1_traceHalf_68 : decode cX1_traceHalf 68 = .ok (.iinc 3 1, 3) := by decide +kernel
theorem dX1_traceHalf_71 : decode cX1_traceHalf 71 = .ok (.goto (-69), 3) := by decide +kernel
theorem dX1_traceHalf_74 : decode cX1_traceHalf 74 = .ok (.return_, 1) := by decide +kernel
theorem dX1_doubled_0 : decode cX1_doubled 0 = .ok (.iconst 0, 1) := by decide +kernel
theorem dX1_doubled_1 : decode cX1_doubled 1 = .ok (.istore_n 1, 1) := by decide +kernel
theorem dX1_doubled_2 : decode cX1_doubled 2 = .ok (.iconst 0, 1) := by decide +kernel
theorem dX1_doubled_3 : decode cX1_doubled 3 = .ok (.istore_n 2, 1) := by decide +kernel
theorem dX1_doubled_4 : decode cX1_doubled 4 = .ok (.iload_n 2, 1) := by decide +kernel
theorem dX1_doubled_5 : decode cX1_doubled 5 = .ok (.bipush 8, 2) := by decide +kernel
theorem dX1_doubled_7 : decode cX1_doubled 7 = .ok (.if_icmp .ge 26, 3) := by decide +kernel
theorem dX1_doubled_10 : decode cX1_doubled 10 = .ok (.iload_n 0, 1) := by decide +kernel
theorem dX1_doubled_11 : decode cX1_doubled 11 = .ok (.iload_n 2, 1) := by decide +kernel
theorem dX1_doubled_12 : decode cX1_doubled 12 = .ok (.ishr, 1) := by decide +kernel
theorem dX1_doubled_13 : decode cX1_doubled 13 = .ok (.iconst 1, 1) := by decide +kernel
theorem dX1_doubled_14 : decode cX1_doubled 14 = .ok (.iand, 1) := by decide +kernel
theorem dX1_doubled_15 : decode cX1_doubled 15 = .ok (.iconst 1, 1) := by decide +kernel
theorem dX1_doubled_16 : decode cX1_doubled 16 = .ok (.if_icmp .ne 11, 3) := by decide +kernel
theorem dX1_doubled_19 : decode cX1_doubled 19 = .ok (.iload_n 1, 1) := by decide +kernel
theorem dX1_doubled_20 : decode cX1_doubled 20 = .ok (.iconst 3, 1) := by decide +kernel
theorem dX1_doubled_21 : decode cX1_doubled 21 = .ok (.iconst 2, 1) := by decide +kernel
theorem dX1_doubled_22 : decode cX1_doubled 22 = .ok (.iload_n 2, 1) := by decide +kernel
theorem dX1_doubled_23 : decode cX1_doubled 23 = .ok (.imul, 1) := by decide +kernel
theorem dX1_doubled_24 : decode cX1_doubled 24 = .ok (.ishl, 1) := by decide +kernel
theorem dX1_doubled_25 : decode cX1_doubled 25 = .ok (.ior, 1) := by decide +kernel
theorem dX1_doubled_26 : decode cX1_doubled 26 = .ok (.istore_n 1, 1) := by decide +kernel
theorem dX1_doubled_27 : decode cX1_doubled 27 = .ok (.iinc 2 1, 3) := by decide +kernel
theorem dX1_doubled_30 : decode cX1_doubled 30 = .ok (.goto (-26), 3) := by decide +kernel
theorem dX1_doubled_33 : decode cX1_doubled 33 = .ok (.iload_n 1, 1) := by decide +kernel
theorem dX1_doubled_34 : decode cX1_doubled 34 = .ok (.ireturn, 1) := by decide +kernel
theorem dX2_init_0 : decode cX2_init 0 = .ok (.aload_n 0, 1) := by decide +kernel
theorem dX2_init_1 : decode cX2_init 1 = .ok (.invokespecial 3, 3) := by decide +kernel
theorem dX2_init_4 : decode cX2_init 4 = .ok (.aload_n 0, 1) := by decide +kernel
theorem dX2_init_5 : decode cX2_init 5 = .ok (.sipush 768, 3) := by decide +kernel
theorem dX2_init_8 : decode cX2_init 8 = .ok (.newarray .int, 2) := by decide +kernel
theorem dX2_init_10 : decode cX2_init 10 = .ok (.putfield 9, 3) := by decide +kernel
theorem dX2_init_13 : decode cX2_init 13 = .ok (.aload_n 0, 1) := by decide +kernel
theorem dX2_init_14 : decode cX2_init 14 = .ok (.sipush 768, 3) := by decide +kernel
theorem dX2_init_17 : decode cX2_init 17 = .ok (.newarray .int, 2) := by decide +kernel
theorem dX2_init_19 : decode cX2_init 19 = .ok (.putfield 15, 3) := by decide +kernel
theorem dX2_init_22 : decode cX2_init 22 = .ok (.aload_n 0, 1) := by decide +kernel
theorem dX2_init_23 : decode cX2_init 23 = .ok (.iconst 5, 1) := by decide +kernel
theorem dX2_init_24 : decode cX2_init 24 = .ok (.newarray .int, 2) := by decide +kernel
theorem dX2_init_26 : decode cX2_init 26 = .ok (.putfield 18, 3) := by decide +kernel
theorem dX2_init_29 : decode cX2_init 29 = .ok (.return_, 1) := by decide +kernel
theorem dX2_make_0 : decode cX2_make 0 = .ok (.aload_n 3, 1) := by decide +kernel
theorem dX2_make_1 : decode cX2_make 1 = .ok (.aload_n 2, 1) := by decide +kernel
theorem dX2_make_2 : decode cX2_make 2 = .ok (.invokevirtual 21, 3) := by decide +kernel
theorem dX2_make_5 : decode cX2_make 5 = .ok (.aload_n 0, 1) := by decide +kernel
theorem dX2_make_6 : decode cX2_make 6 = .ok (.aload_n 1, 1) := by decide +kernel
theorem dX2_make_7 : decode cX2_make 7 = .ok (.aload_n 3, 1) := by decide +kernel
theorem dX2_make_8 : decode cX2_make 8 = .ok (.invokevirtual 27, 3) := by decide +kernel
theorem dX2_make_11 : decode cX2_make 11 = .ok (.iconst 0, 1) := by decide +kernel
theorem dX2_make_12 : decode cX2_make 12 = .ok (.istore 4, 2) := by decide +kernel
theorem dX2_make_14 : decode cX2_make 14 = .ok (.iload 4, 2) := by decide +kernel
theorem dX2_make_16 : decode cX2_make 16 = .ok (.aload_n 3, 1) := by decide +kernel
theorem dX2_make_17 : decode cX2_make 17 = .ok (.getfield 31, 3) := by decide +kernel
theorem dX2_make_20 : decode cX2_make 20 = .ok (.if_icmp .ge 38, 3) := by decide +kernel
theorem dX2_make_23 : decode cX2_make 23 = .ok (.aload_n 0, 1) := by decide +kernel
theorem dX2_make_24 : decode cX2_make 24 = .ok (.aload_n 1, 1) := by decide +kernel
theorem dX2_make_25 : decode cX2_make 25 = .ok (.aload_n 2, 1) := by decide +kernel
theorem dX2_make_26 : decode cX2_make 26 = .ok (.aload_n 3, 1) := by decide +kernel
theorem dX2_make_27 : decode cX2_make 27 = .ok (.iload 4, 2) := by decide +kernel
theorem dX2_make_29 : decode cX2_make 29 = .ok (.invokevirtual 35, 3) := by decide +kernel
theorem dX2_make_32 : decode cX2_make 32 = .ok (.aload_n 0, 1) := by decide +kernel
theorem dX2_make_33 : decode cX2_make 33 = .ok (.getfield 9, 3) := by decide +kernel
theorem dX2_make_36 : decode cX2_make 36 = .ok (.astore 5, 2) := by decide +kernel
theorem dX2_make_38 : decode cX2_make 38 = .ok (.aload_n 0, 1) := by decide +kernel
theorem dX2_make_39 : decode cX2_make 39 = .ok (.aload_n 0, 1) := by decide +kernel
theorem dX2_make_40 : decode cX2_make 40 = .ok (.getfield 15, 3) := by decide +kernel
theorem dX2_make_43 : decode cX2_make 43 = .ok (.putfield 9, 3) := by decide +kernel
theorem dX2_make_46 : decode cX2_make 46 = .ok (.aload_n 0, 1) := by decide +kernel
theorem dX2_make_47 : decode cX2_make 47 = .ok (.aload 5, 2) := by decide +kernel
theorem dX2_make_49 : decode cX2_make 49 = .ok (.putfield 15, 3) := by decide +kernel
theorem dX2_make_52 : decode cX2_make 52 = .ok (.iinc 4 1, 3) := by decide +kernel
theorem dX2_make_55 : decode cX2_make 55 = .ok (.goto (-41), 3) := by decide +kernel
theorem dX2_make_58 : decode cX2_make 58 = .ok (.return_, 1) := by decide +kernel
theorem dX2_made_0 : decode cX2_made 0 = .ok (.aload_n 0, 1) := by decide +kernel
theorem dX2_made_1 : decode cX2_made 1 = .ok (.getfield 9, 3) := by decide +kernel
theorem dX2_made_4 : decode cX2_made 4 = .ok (.iload_n 3, 1) := by decide +kernel
theorem dX2_made_5 : decode cX2_made 5 = .ok (.sipush 256, 3) := by decide +kernel
theorem dX2_made_8 : decode cX2_made 8 = .ok (.imul, 1) := by decide +kernel
theorem dX2_made_9 : decode cX2_made 9 = .ok (.iload_n 2, 1) := by decide +kernel
theorem dX2_made_10 : decode cX2_made 10 = .ok (.bipush 16, 2) := by decide +kernel
theorem dX2_made_12 : decode cX2_made 12 = .ok (.imul, 1) := by decide +kernel
theorem dX2_made_13 : decode cX2_made 13 = .ok (.iadd, 1) := by decide +kernel
theorem dX2_made_14 : decode cX2_made 14 = .ok (.iload_n 1, 1) := by decide +kernel
theorem dX2_made_15 : decode cX2_made 15 = .ok (.iadd, 1) := by decide +kernel
theorem dX2_made_16 : decode cX2_made 16 = .ok (.iaload, 1) := by decide +kernel
theorem dX2_made_17 : decode cX2_made 17 = .ok (.ireturn, 1) := by decide +kernel
theorem dX2_sumOf_0 : decode cX2_sumOf 0 = .ok (.iconst 0, 1) := by decide +kernel
theorem dX2_sumOf_1 : decode cX2_sumOf 1 = .ok (.istore 6, 2) := by decide +kernel
theorem dX2_sumOf_3 : decode cX2_sumOf 3 = .ok (.iload_n 2, 1) := by decide +kernel
theorem dX2_sumOf_4 : decode cX2_sumOf 4 = .ok (.istore 7, 2) := by decide +kernel
theorem dX2_sumOf_6 : decode cX2_sumOf 6 = .ok (.iload 7, 2) := by decide +kernel
theorem dX2_sumOf_8 : decode cX2_sumOf 8 = .ok (.iload_n 2, 1) := by decide +kernel
theorem dX2_sumOf_9 : decode cX2_sumOf 9 = .ok (.iload 4, 2) := by decide +kernel
theorem dX2_sumOf_11 : decode cX2_sumOf 11 = .ok (.iadd, 1) := by decide +kernel
theorem dX2_sumOf_12 : decode cX2_sumOf 12 = .ok (.if_icmp .ge 41, 3) := by decide +kernel
theorem dX2_sumOf_15 : decode cX2_sumOf 15 = .ok (.iload_n 1, 1) := by decide +kernel
theorem dX2_sumOf_16 : decode cX2_sumOf 16 = .ok (.istore 8, 2) := by decide +kernel
theorem dX2_sumOf_18 : decode cX2_sumOf 18 = .ok (.iload 8, 2) := by decide +kernel
theorem dX2_sumOf_20 : decode cX2_sumOf 20 = .ok (.iload_n 1, 1) := by decide +kernel
theorem dX2_sumOf_21 : decode cX2_sumOf 21 = .ok (.iload_n 3, 1) := by decide +kernel
theorem dX2_sumOf_22 : decode cX2_sumOf 22 = .ok (.iadd, 1) := by decide +kernel
theorem dX2_sumOf_23 : decode cX2_sumOf 23 = .ok (.if_icmp .ge 24, 3) := by decide +kernel
theorem dX2_sumOf_26 : decode cX2_sumOf 26 = .ok (.iload 6, 2) := by decide +kernel
theorem dX2_sumOf_28 : decode cX2_sumOf 28 = .ok (.aload_n 0, 1) := by decide +kernel
theorem dX2_sumOf_29 : decode cX2_sumOf 29 = .ok (.iload 8, 2) := by decide +kernel
theorem dX2_sumOf_31 : decode cX2_sumOf 31 = .ok (.iload 7, 2) := by decide +kernel
theorem dX2_sumOf_33 : decode cX2_sumOf 33 = .ok (.iload 5, 2) := by decide +kernel
theorem dX2_sumOf_35 : decode cX2_sumOf 35 = .ok (.invokevirtual 39, 3) := by decide +kernel
theorem dX2_sumOf_38 : decode cX2_sumOf 38 = .ok (.iadd, 1) := by decide +kernel
theorem dX2_sumOf_39 : decode cX2_sumOf 39 = .ok (.istore 6, 2) := by decide +kernel
theorem dX2_sumOf_41 : decode cX2_sumOf 41 = .ok (.iinc 8 1, 3) := by decide +kernel
theorem dX2_sumOf_44 : decode cX2_sumOf 44 = .ok (.goto (-26), 3) := by decide +kernel
theorem dX2_sumOf_47 : decode cX2_sumOf 47 = .ok (.iinc 7 1, 3) := by decide +kernel
theorem dX2_sumOf_50 : decode cX2_sumOf 50 = .ok (.goto (-44), 3) := by decide +kernel
theorem dX2_sumOf_53 : decode cX2_sumOf 53 = .ok (.iload 6, 2) := by decide +kernel
theorem dX2_sumOf_55 : decode cX2_sumOf 55 = .ok (.ireturn, 1) := by decide +kernel
theorem dX2_leastOf_0 : decode cX2_leastOf 0 = .ok (.sipush 4095, 3) := by decide +kernel
theorem dX2_leastOf_3 : decode cX2_leastOf 3 = .ok (.istore 4, 2) := by decide +kernel
theorem dX2_leastOf_5 : decode cX2_leastOf 5 = .ok (.iconst 0, 1) := by decide +kernel
theorem dX2_leastOf_6 : decode cX2_leastOf 6 = .ok (.istore 5, 2) := by decide +kernel
theorem dX2_leastOf_8 : decode cX2_leastOf 8 = .ok (.iload 5, 2) := by decide +kernel
theorem dX2_leastOf_10 : decode cX2_leastOf 10 = .ok (.iload_n 2, 1) := by decide +kernel
theorem dX2_leastOf_11 : decode cX2_leastOf 11 = .ok (.if_icmp .ge 40, 3) := by decide +kernel
theorem dX2_leastOf_14 : decode cX2_leastOf 14 = .ok (.iconst 0, 1) := by decide +kernel
theorem dX2_leastOf_15 : decode cX2_leastOf 15 = .ok (.istore 6, 2) := by decide +kernel
theorem dX2_leastOf_17 : decode cX2_leastOf 17 = .ok (.iload 6, 2) := by decide +kernel
theorem dX2_leastOf_19 : decode cX2_leastOf 19 = .ok (.iload_n 1, 1) := by decide +kernel
theorem dX2_leastOf_20 : decode cX2_leastOf 20 = .ok (.if_icmp .ge 25, 3) := by decide +kernel
theorem dX2_leastOf_23 : decode cX2_leastOf 23 = .ok (.iload 4, 2) := by decide +kernel
theorem dX2_leastOf_25 : decode cX2_leastOf 25 = .ok (.aload_n 0, 1) := by decide +kernel
theorem dX2_leastOf_26 : decode cX2_leastOf 26 = .ok (.iload 6, 2) := by decide +kernel
theorem dX2_leastOf_28 : decode cX2_leastOf 28 = .ok (.iload 5, 2) := by decide +kernel
theorem dX2_leastOf_30 : decode cX2_leastOf 30 = .ok (.iload_n 3, 1) := by decide +kernel
theorem dX2_leastOf_31 : decode cX2_leastOf 31 = .ok (.invokevirtual 39, 3) := by decide +kernel
theorem dX2_leastOf_34 : decode cX2_leastOf 34 = .ok (.invokestatic 43, 3) := by decide +kernel
theorem dX2_leastOf_37 : decode cX2_leastOf 37 = .ok (.istore 4, 2) := by decide +kernel
theorem dX2_leastOf_39 : decode cX2_leastOf 39 = .ok (.iinc 6 1, 3) := by decide +kernel
theorem dX2_leastOf_42 : decode cX2_leastOf 42 = .ok (.goto (-25), 3) := by decide +kernel
theorem dX2_leastOf_45 : decode cX2_leastOf 45 = .ok (.iinc 5 1, 3) := by decide +kernel
theorem dX2_leastOf_48 : decode cX2_leastOf 48 = .ok (.goto (-40), 3) := by decide +kernel
theorem dX2_leastOf_51 : decode cX2_leastOf 51 = .ok (.iload 4, 2) := by decide +kernel
theorem dX2_leastOf_53 : decode cX2_leastOf 53 = .ok (.ireturn, 1) := by decide +kernel
theorem dX2_greatestOf_0 : decode cX2_greatestOf 0 = .ok (.iconst 0, 1) := by decide +kernel
theorem dX2_greatestOf_1 : decode cX2_greatestOf 1 = .ok (.istore 4, 2) := by decide +kernel
theorem dX2_greatestOf_3 : decode cX2_greatestOf 3 = .ok (.iconst 0, 1) := by decide +kernel
theorem dX2_greatestOf_4 : decode cX2_greatestOf 4 = .ok (.istore 5, 2) := by decide +kernel
theorem dX2_greatestOf_6 : decode cX2_greatestOf 6 = .ok (.iload 5, 2) := by decide +kernel
theorem dX2_greatestOf_8 : decode cX2_greatestOf 8 = .ok (.iload_n 2, 1) := by decide +kernel
theorem dX2_greatestOf_9 : decode cX2_greatestOf 9 = .ok (.if_icmp .ge 40, 3) := by decide +kernel
theorem dX2_greatestOf_12 : decode cX2_greatestOf 12 = .ok (.iconst 0, 1) := by decide +kernel
theorem dX2_greatestOf_13 : decode cX2_greatestOf 13 = .ok (.istore 6, 2) := by decide +kernel
theorem dX2_greatestOf_15 : decode cX2_greatestOf 15 = .ok (.iload 6, 2) := by decide +kernel
theorem dX2_greatestOf_17 : decode cX2_greatestOf 17 = .ok (.iload_n 1, 1) := by decide +kernel
theorem dX2_greatestOf_18 : decode cX2_greatestOf 18 = .ok (.if_icmp .ge 25, 3) := by decide +kernel
theorem dX2_greatestOf_21 : decode cX2_greatestOf 21 = .ok (.iload 4, 2) := by decide +kernel
theorem dX2_greatestOf_23 : decode cX2_greatestOf 23 = .ok (.aload_n 0, 1) := by decide +kernel
theorem dX2_greatestOf_24 : decode cX2_greatestOf 24 = .ok (.iload 6, 2) := by decide +kernel
theorem dX2_greatestOf_26 : decode cX2_greatestOf 26 = .ok (.iload 5, 2) := by decide +kernel
theorem dX2_greatestOf_28 : decode cX2_greatestOf 28 = .ok (.iload_n 3, 1) := by decide +kernel
theorem dX2_greatestOf_29 : decode cX2_greatestOf 29 = .ok (.invokevirtual 39, 3) := by decide +kernel
theorem dX2_greatestOf_32 : decode cX2_greatestOf 32 = .ok (.invokestatic 49, 3) := by decide +kernel
theorem dX2_greatestOf_35 : decode cX2_greatestOf 35 = .ok (.istore 4, 2) := by decide +kernel
theorem dX2_greatestOf_37 : decode cX2_greatestOf 37 = .ok (.iinc 6 1, 3) := by decide +kernel
theorem dX2_greatestOf_40 : decode cX2_greatestOf 40 = .ok (.goto (-25), 3) := by decide +kernel
theorem dX2_greatestOf_43 : decode cX2_greatestOf 43 = .ok (.iinc 5 1, 3) := by decide +kernel
theorem dX2_greatestOf_46 : decode cX2_greatestOf 46 = .ok (.goto (-40), 3) := by decide +kernel
theorem dX2_greatestOf_49 : decode cX2_greatestOf 49 = .ok (.iload 4, 2) := by decide +kernel
theorem dX2_greatestOf_51 : decode cX2_greatestOf 51 = .ok (.ireturn, 1) := by decide +kernel
theorem dX2_takeCells_0 : decode cX2_takeCells 0 = .ok (.iconst 0, 1) := by decide +kernel
theorem dX2_takeCells_1 : decode cX2_takeCells 1 = .ok (.istore_n 3, 1) := by decide +kernel
theorem dX2_takeCells_2 : decode cX2_takeCells 2 = .ok (.iload_n 3, 1) := by decide +kernel
theorem dX2_takeCells_3 : decode cX2_takeCells 3 = .ok (.aload_n 1, 1) := by decide +kernel
theorem dX2_takeCells_4 : decode cX2_takeCells 4 = .ok (.getfield 52, 3) := by decide +kernel
theorem dX2_takeCells_7 : decode cX2_takeCells 7 = .ok (.if_icmp .ge 59, 3) := by decide +kernel
theorem dX2_takeCells_10 : decode cX2_takeCells 10 = .ok (.iconst 0, 1) := by decide +kernel
theorem dX2_takeCells_11 : decode cX2_takeCells 11 = .ok (.istore 4, 2) := by decide +kernel
theorem dX2_takeCells_13 : decode cX2_takeCells 13 = .ok (.iload 4, 2) := by decide +kernel
theorem dX2_takeCells_15 : decode cX2_takeCells 15 = .ok (.aload_n 1, 1) := by decide +kernel
theorem dX2_takeCells_16 : decode cX2_takeCells 16 = .ok (.getfield 57, 3) := by decide +kernel
theorem dX2_takeCells_19 : decode cX2_takeCells 19 = .ok (.if_icmp .ge 41, 3) := by decide +kernel
theorem dX2_takeCells_22 : decode cX2_takeCells 22 = .ok (.aload_n 2, 1) := by decide +kernel
theorem dX2_takeCells_23 : decode cX2_takeCells 23 = .ok (.iload 4, 2) := by decide +kernel
theorem dX2_takeCells_25 : decode cX2_takeCells 25 = .ok (.iload_n 3, 1) := by decide +kernel
theorem dX2_takeCells_26 : decode cX2_takeCells 26 = .ok (.invokevirtual 60, 3) := by decide +kernel
theorem dX2_takeCells_29 : decode cX2_takeCells 29 = .ok (.ifCond .eq 25, 3) := by decide +kernel
theorem dX2_takeCells_32 : decode cX2_takeCells 32 = .ok (.aload_n 0, 1) := by decide +kernel
theorem dX2_takeCells_33 : decode cX2_takeCells 33 = .ok (.getfield 9, 3) := by decide +kernel
theorem dX2_takeCells_36 : decode cX2_takeCells 36 = .ok (.iload 4, 2) := by decide +kernel
theorem dX2_takeCells_38 : decode cX2_takeCells 38 = .ok (.iload_n 3, 1) := by decide +kernel
theorem dX2_takeCells_39 : decode cX2_takeCells 39 = .ok (.invokestatic 64, 3) := by decide +kernel
theorem dX2_takeCells_42 : decode cX2_takeCells 42 = .ok (.aload_n 1, 1) := by decide +kernel
theorem dX2_takeCells_43 : decode cX2_takeCells 43 = .ok (.getfield 67, 3) := by decide +kernel
theorem dX2_takeCells_46 : decode cX2_takeCells 46 = .ok (.iload 4, 2) := by decide +kernel
theorem dX2_takeCells_48 : decode cX2_takeCells 48 = .ok (.iload_n 3, 1) := by decide +kernel
theorem dX2_takeCells_49 : decode cX2_takeCells 49 = .ok (.invokestatic 64, 3) := by decide +kernel
theorem dX2_takeCells_52 : decode cX2_takeCells 52 = .ok (.iaload, 1) := by decide +kernel
theorem dX2_takeCells_53 : decode cX2_takeCells 53 = .ok (.iastore, 1) := by decide +kernel
theorem dX2_takeCells_54 : decode cX2_takeCells 54 = .ok (.iinc 4 1, 3) := by decide +kernel
theorem dX2_takeCells_57 : decode cX2_takeCells 57 = .ok (.goto (-44), 3) := by decide +kernel
theorem dX2_takeCells_60 : decode cX2_takeCells 60 = .ok (.iinc 3 1, 3) := by decide +kernel
theorem dX2_takeCells_63 : decode cX2_takeCells 63 = .ok (.goto (-61), 3) := by decide +kernel
theorem dX2_takeCells_66 : decode cX2_takeCells 66 = .ok (.return_, 1) := by decide +kernel
theorem dX2_makeStage_0 : decode cX2_makeStage 0 = .ok (.aload_n 2, 1) := by decide +kernel
theorem dX2_makeStage_1 : decode cX2_makeStage 1 = .ok (.getfield 70, 3) := by decide +kernel
theorem dX2_makeStage_4 : decode cX2_makeStage 4 = .ok (.iload 4, 2) := by decide +kernel
theorem dX2_makeStage_6 : decode cX2_makeStage 6 = .ok (.iconst 1, 1) := by decide +kernel
theorem dX2_makeStage_7 : decode cX2_makeStage 7 = .ok (.iadd, 1) := by decide +kernel
theorem dX2_makeStage_8 : decode cX2_makeStage 8 = .ok (.aaload, 1) := by decide +kernel
theorem dX2_makeStage_9 : decode cX2_makeStage 9 = .ok (.astore 5, 2) := by decide +kernel
theorem dX2_makeStage_11 : decode cX2_makeStage 11 = .ok (.iconst 0, 1) := by decide +kernel
theorem dX2_makeStage_12 : decode cX2_makeStage 12 = .ok (.istore 6, 2) := by decide +kernel
theorem dX2_makeStage_14 : decode cX2_makeStage 14 = .ok (.iload 6, 2) := by decide +kernel
theorem dX2_makeStage_16 : decode cX2_makeStage 16 = .ok (.aload 5, 2) := by decide +kernel
theorem dX2_makeStage_18 : decode cX2_makeStage 18 = .ok (.iconst 2, 1) := by decide +kernel
theorem dX2_makeStage_19 : decode cX2_makeStage 19 = .ok (.iaload, 1) := by decide +kernel
theorem dX2_makeStage_20 : decode cX2_makeStage 20 = .ok (.if_icmp .ge 140, 3) := by decide +kernel
theorem dX2_makeStage_23 : decode cX2_makeStage 23 = .ok (.iconst 0, 1) := by decide +kernel
theorem dX2_makeStage_24 : decode cX2_makeStage 24 = .ok (.istore 7, 2) := by decide +kernel
theorem dX2_makeStage_26 : decode cX2_makeStage 26 = .ok (.iload 7, 2) := by decide +kernel
theorem dX2_makeStage_28 : decode cX2_makeStage 28 = .ok (.aload 5, 2) := by decide +kernel
theorem dX2_makeStage_30 : decode cX2_makeStage 30 = .ok (.iconst 1, 1) := by decide +kernel
theorem dX2_makeStage_31 : decode cX2_makeStage 31 = .ok (.iaload, 1) := by decide +kernel
theorem dX2_makeStage_32 : decode cX2_makeStage 32 = .ok (.if_icmp .ge 122, 3) := by decide +kernel
theorem dX2_makeStage_35 : decode cX2_makeStage 35 = .ok (.aload_n 3, 1) := by decide +kernel
theorem dX2_makeStage_36 : decode cX2_makeStage 36 = .ok (.getfield 76, 3) := by decide +kernel
theorem dX2_makeStage_39 : decode cX2_makeStage 39 = .ok (.iload 4, 2) := by decide +kernel
theorem dX2_makeStage_41 : decode cX2_makeStage 41 = .ok (.iconst 1, 1) := by decide +kernel
theorem dX2_makeStage_42 : decode cX2_makeStage 42 = .ok (.iadd, 1) := by decide +kernel
theorem dX2_makeStage_43 : decode cX2_makeStage 43 = .ok (.aaload, 1) := by decide +kernel
theorem dX2_makeStage_44 : decode cX2_makeStage 44 = .ok (.iload 6, 2) := by decide +kernel
theorem dX2_makeStage_46 : decode cX2_makeStage 46 = .ok (.bipush 16, 2) := by decide +kernel
theorem dX2_makeStage_48 : decode cX2_makeStage 48 = .ok (.imul, 1) := by decide +kernel
theorem dX2_makeStage_49 : decode cX2_makeStage 49 = .ok (.iload 7, 2) := by decide +kernel
theorem dX2_makeStage_51 : decode cX2_makeStage 51 = .ok (.iadd, 1) := by decide +kernel
theorem dX2_makeStage_52 : decode cX2_makeStage 52 = .ok (.iaload, 1) := by decide +kernel
theorem dX2_makeStage_53 : decode cX2_makeStage 53 = .ok (.istore 8, 2) := by decide +kernel
theorem dX2_makeStage_55 : decode cX2_makeStage 55 = .ok (.iconst 0, 1) := by decide +kernel
theorem dX2_makeStage_56 : decode cX2_makeStage 56 = .ok (.istore 9, 2) := by decide +kernel
theorem dX2_makeStage_58 : decode cX2_makeStage 58 = .ok (.iload 9, 2) := by decide +kernel
theorem dX2_makeStage_60 : decode cX2_makeStage 60 = .ok (.bipush 16, 2) := by decide +kernel
theorem dX2_makeStage_62 : decode cX2_makeStage 62 = .ok (.if_icmp .ge 86, 3) := by decide +kernel
theorem dX2_makeStage_65 : decode cX2_makeStage 65 = .ok (.iload 8, 2) := by decide +kernel
theorem dX2_makeStage_67 : decode cX2_makeStage 67 = .ok (.iload 9, 2) := by decide +kernel
theorem dX2_makeStage_69 : decode cX2_makeStage 69 = .ok (.ishr, 1) := by decide +kernel
theorem dX2_makeStage_70 : decode cX2_makeStage 70 = .ok (.ifCond .eq 78, 3) := by decide +kernel
theorem dX2_makeStage_73 : decode cX2_makeStage 73 = .ok (.iload 8, 2) := by decide +kernel
theorem dX2_makeStage_75 : decode cX2_makeStage 75 = .ok (.iload 9, 2) := by decide +kernel
theorem dX2_makeStage_77 : decode cX2_makeStage 77 = .ok (.ishr, 1) := by decide +kernel
theorem dX2_makeStage_78 : decode cX2_makeStage 78 = .ok (.iconst 1, 1) := by decide +kernel
theorem dX2_makeStage_79 : decode cX2_makeStage 79 = .ok (.iand, 1) := by decide +kernel
theorem dX2_makeStage_80 : decode cX2_makeStage 80 = .ok (.iconst 1, 1) := by decide +kernel
theorem dX2_makeStage_81 : decode cX2_makeStage 81 = .ok (.if_icmp .ne 61, 3) := by decide +kernel
theorem dX2_makeStage_84 : decode cX2_makeStage 84 = .ok (.aload_n 0, 1) := by decide +kernel
theorem dX2_makeStage_85 : decode cX2_makeStage 85 = .ok (.aload_n 1, 1) := by decide +kernel
theorem dX2_makeStage_86 : decode cX2_makeStage 86 = .ok (.aload_n 2, 1) := by decide +kernel
theorem dX2_makeStage_87 : decode cX2_makeStage 87 = .ok (.getfield 79, 3) := by decide +kernel
theorem dX2_makeStage_90 : decode cX2_makeStage 90 = .ok (.iload 4, 2) := by decide +kernel
theorem dX2_makeStage_92 : decode cX2_makeStage 92 = .ok (.iaload, 1) := by decide +kernel
theorem dX2_makeStage_93 : decode cX2_makeStage 93 = .ok (.aload_n 2, 1) := by decide +kernel
theorem dX2_makeStage_94 : decode cX2_makeStage 94 = .ok (.getfield 82, 3) := by decide +kernel
theorem dX2_makeStage_97 : decode cX2_makeStage 97 = .ok (.iload 4, 2) := by decide +kernel
theorem dX2_makeStage_99 : decode cX2_makeStage 99 = .ok (.aaload, 1) := by decide +kernel
theorem dX2_makeStage_100 : decode cX2_makeStage 100 = .ok (.iload 9, 2) := by decide +kernel
theorem dX2_makeStage_102 : decode cX2_makeStage 102 = .ok (.iload 7, 2) := by decide +kernel
theorem dX2_makeStage_104 : decode cX2_makeStage 104 = .ok (.iload 6, 2) := by decide +kernel
theorem dX2_makeStage_106 : decode cX2_makeStage 106 = .ok (.invokevirtual 85, 3) := by decide +kernel
theorem dX2_makeStage_109 : decode cX2_makeStage 109 = .ok (.istore 10, 2) := by decide +kernel
theorem dX2_makeStage_111 : decode cX2_makeStage 111 = .ok (.aload_n 0, 1) := by decide +kernel
theorem dX2_makeStage_112 : decode cX2_makeStage 112 = .ok (.getfield 15, 3) := by decide +kernel
theorem dX2_makeStage_115 : decode cX2_makeStage 115 = .ok (.iload 6, 2) := by decide +kernel
theorem dX2_makeStage_117 : decode cX2_makeStage 117 = .ok (.sipush 256, 3) := by decide +kernel
theorem dX2_makeStage_120 : decode cX2_makeStage 120 = .ok (.imul, 1) := by decide +kernel
theorem dX2_makeStage_121 : decode cX2_makeStage 121 = .ok (.iload 9, 2) := by decide +kernel
theorem dX2_makeStage_123 : decode cX2_makeStage 123 = .ok (.iload 7, 2) := by decide +kernel
theorem dX2_makeStage_125 : decode cX2_makeStage 125 = .ok (.invokestatic 64, 3) := by decide +kernel
theorem dX2_makeStage_128 : decode cX2_makeStage 128 = .ok (.iadd, 1) := by decide +kernel
theorem dX2_makeStage_129 : decode cX2_makeStage 129 = .ok (.iconst 0, 1) := by decide +kernel
theorem dX2_makeStage_130 : decode cX2_makeStage 130 = .ok (.iload 10, 2) := by decide +kernel
theorem dX2_makeStage_132 : decode cX2_makeStage 132 = .ok (.sipush 4095, 3) := by decide +kernel
theorem dX2_makeStage_135 : decode cX2_makeStage 135 = .ok (.invokestatic 43, 3) := by decide +kernel
theorem dX2_makeStage_138 : decode cX2_makeStage 138 = .ok (.invokestatic 49, 3) := by decide +kernel
theorem dX2_makeStage_141 : decode cX2_makeStage 141 = .ok (.iastore, 1) := by decide +kernel
theorem dX2_makeStage_142 : decode cX2_makeStage 142 = .ok (.iinc 9 1, 3) := by decide +kernel
theorem dX2_makeStage_145 : decode cX2_makeStage 145 = .ok (.goto (-87), 3) := by decide +kernel
theorem dX2_makeStage_148 : decode cX2_makeStage 148 = .ok (.iinc 7 1, 3) := by decide +kernel
theorem dX2_makeStage_151 : decode cX2_makeStage 151 = .ok (.goto (-125), 3) := by decide +kernel
theorem dX2_makeStage_154 : decode cX2_makeStage 154 = .ok (.iinc 6 1, 3) := by decide +kernel
theorem dX2_makeStage_157 : decode cX2_makeStage 157 = .ok (.goto (-143), 3) := by decide +kernel
theorem dX2_makeStage_160 : decode cX2_makeStage 160 = .ok (.return_, 1) := by decide +kernel
theorem dX2_behindStep_0 : decode cX2_behindStep 0 = .ok (.iload_n 2, 1) := by decide +kernel
theorem dX2_behindStep_1 : decode cX2_behindStep 1 = .ok (.tableswitch 142 0 6 #[43, 58, 83, 93, 103, 115, 127], 43) := by decide +kernel
theorem dX2_behindStep_44 : decode cX2_behindStep 44 = .ok (.aload_n 0, 1) := by decide +kernel
theorem dX2_behindStep_45 : decode cX2_behindStep 45 = .ok (.iload 4, 2) := by decide +kernel
theorem dX2_behindStep_47 : decode cX2_behindStep 47 = .ok (.iload 5, 2) := by decide +kernel
theorem dX2_behindStep_49 : decode cX2_behindStep 49 = .ok (.iload 6, 2) := by decide +kernel
theorem dX2_behindStep_51 : decode cX2_behindStep 51 = .ok (.invokevirtual 39, 3) := by decide +kernel
theorem dX2_behindStep_54 : decode cX2_behindStep 54 = .ok (.aload_n 3, 1) := by decide +kernel
theorem dX2_behindStep_55 : decode cX2_behindStep 55 = .ok (.iconst 0, 1) := by decide +kernel
theorem dX2_behindStep_56 : decode cX2_behindStep 56 = .ok (.iaload, 1) := by decide +kernel
theorem dX2_behindStep_57 : decode cX2_behindStep 57 = .ok (.isub, 1) := by decide +kernel
theorem dX2_behindStep_58 : decode cX2_behindStep 58 = .ok (.ireturn, 1) := by decide +kernel
theorem dX2_behindStep_59 : decode cX2_behindStep 59 = .ok (.aload_n 0, 1) := by decide +kernel
theorem dX2_behindStep_60 : decode cX2_behindStep 60 = .ok (.iload 4, 2) := by decide +kernel
theorem dX2_behindStep_62 : decode cX2_behindStep 62 = .ok (.iload 5, 2) := by decide +kernel
theorem dX2_behindStep_64 : decode cX2_behindStep 64 = .ok (.iload 6, 2) := by decide +kernel
theorem dX2_behindStep_66 : decode cX2_behindStep 66 = .ok (.invokevirtual 39, 3) := by decide +kernel
theorem dX2_behindStep_69 : decode cX2_behindStep 69 = .ok (.aload_n 3, 1) := by decide +kernel
theorem dX2_behindStep_70 : decode cX2_behindStep 70 = .ok (.iload 4, 2) := by decide +kernel
theorem dX2_behindStep_72 : decode cX2_behindStep 72 = .ok (.iload 5, 2) := by decide +kernel
theorem dX2_behindStep_74 : decode cX2_behindStep 74 = .ok (.invokestatic 89, 3) := by decide +kernel
theorem dX2_behindStep_77 : decode cX2_behindStep 77 = .ok (.iaload, 1) := by decide +kernel
theorem dX2_behindStep_78 : decode cX2_behindStep 78 = .ok (.imul, 1) := by decide +kernel
theorem dX2_behindStep_79 : decode cX2_behindStep 79 = .ok (.sipush 1000, 3) := by decide +kernel
theorem dX2_behindStep_82 : decode cX2_behindStep 82 = .ok (.idiv, 1) := by decide +kernel
theorem dX2_behindStep_83 : decode cX2_behindStep 83 = .ok (.ireturn, 1) := by decide +kernel
theorem dX2_behindStep_84 : decode cX2_behindStep 84 = .ok (.aload_n 0, 1) := by decide +kernel
theorem dX2_behindStep_85 : decode cX2_behindStep 85 = .ok (.aload_n 1, 1) := by decide +kernel
theorem dX2_behindStep_86 : decode cX2_behindStep 86 = .ok (.iload 4, 2) := by decide +kernel
theorem dX2_behindStep_88 : decode cX2_behindStep 88 = .ok (.iload 5, 2) := by decide +kernel
theorem dX2_behindStep_90 : decode cX2_behindStep 90 = .ok (.invokevirtual 92, 3) := by decide +kernel
theorem dX2_behindStep_93 : decode cX2_behindStep 93 = .ok (.ireturn, 1) := by decide +kernel
theorem dX2_behindStep_94 : decode cX2_behindStep 94 = .ok (.aload_n 0, 1) := by decide +kernel
theorem dX2_behindStep_95 : decode cX2_behindStep 95 = .ok (.aload_n 1, 1) := by decide +kernel
theorem dX2_behindStep_96 : decode cX2_behindStep 96 = .ok (.iload 4, 2) := by decide +kernel
theorem dX2_behindStep_98 : decode cX2_behindStep 98 = .ok (.iload 5, 2) := by decide +kernel
theorem dX2_behindStep_100 : decode cX2_behindStep 100 = .ok (.invokevirtual 96, 3) := by decide +kernel
theorem dX2_behindStep_103 : decode cX2_behindStep 103 = .ok (.ireturn, 1) := by decide +kernel
theorem dX2_behindStep_104 : decode cX2_behindStep 104 = .ok (.aload_n 0, 1) := by decide +kernel
theorem dX2_behindStep_105 : decode cX2_behindStep 105 = .ok (.aload_n 1, 1) := by decide +kernel
theorem dX2_behindStep_106 : decode cX2_behindStep 106 = .ok (.iload 4, 2) := by decide +kernel
theorem dX2_behindStep_108 : decode cX2_behindStep 108 = .ok (.iload 5, 2) := by decide +kernel
theorem dX2_behindStep_110 : decode cX2_behindStep 110 = .ok (.iload 6, 2) := by decide +kernel
theorem dX2_behindStep_112 : decode cX2_behindStep 112 = .ok (.invokevirtual 99, 3) := by decide +kernel
theorem dX2_behindStep_115 : decode cX2_behindStep 115 = .ok (.ireturn, 1) := by decide +kernel
theorem dX2_behindStep_116 : decode cX2_behindStep 116 = .ok (.aload_n 0, 1) := by decide +kernel
theorem dX2_behindStep_117 : decode cX2_behindStep 117 = .ok (.aload_n 3, 1) := by decide +kernel
theorem dX2_behindStep_118 : decode cX2_behindStep 118 = .ok (.iload 4, 2) := by decide +kernel
theorem dX2_behindStep_120 : decode cX2_behindStep 120 = .ok (.iload 5, 2) := by decide +kernel
theorem dX2_behindStep_122 : decode cX2_behindStep 122 = .ok (.iload 6, 2) := by decide +kernel
theorem dX2_behindStep_124 : decode cX2_behindStep 124 = .ok (.invokevirtual 103, 3) := by decide +kernel
theorem dX2_behindStep_127 : decode cX2_behindStep 127 = .ok (.ireturn, 1) := by decide +kernel
theorem dX2_behindStep_128 : decode cX2_behindStep 128 = .ok (.aload_n 3, 1) := by decide +kernel
theorem dX2_behindStep_129 : decode cX2_behindStep 129 = .ok (.aload_n 0, 1) := by decide +kernel
theorem dX2_behindStep_130 : decode cX2_behindStep 130 = .ok (.iload 4, 2) := by decide +kernel
theorem dX2_behindStep_132 : decode cX2_behindStep 132 = .ok (.iload 5, 2) := by decide +kernel
theorem dX2_behindStep_134 : decode cX2_behindStep 134 = .ok (.iload 6, 2) := by decide +kernel
theorem dX2_behindStep_136 : decode cX2_behindStep 136 = .ok (.invokevirtual 39, 3) := by decide +kernel
theorem dX2_behindStep_139 : decode cX2_behindStep 139 = .ok (.invokestatic 107, 3) := by decide +kernel
theorem dX2_behindStep_142 : decode cX2_behindStep 142 = .ok (.ireturn, 1) := by decide +kernel
theorem dX2_behindStep_143 : decode cX2_behindStep 143 = .ok (.aload_n 0, 1) := by decide +kernel
theorem dX2_behindStep_144 : decode cX2_behindStep 144 = .ok (.iconst 2, 1) := by decide +kernel
theorem dX2_behindStep_145 : decode cX2_behindStep 145 = .ok (.iload 4, 2) := by decide +kernel
theorem dX2_behindStep_147 : decode cX2_behindStep 147 = .ok (.imul, 1) := by decide +kernel
theorem dX2_behindStep_148 : decode cX2_behindStep 148 = .ok (.iconst 2, 1) := by decide +kernel
theorem dX2_behindStep_149 : decode cX2_behindStep 149 = .ok (.iload 5, 2) := by decide +kernel
theorem dX2_behindStep_151 : decode cX2_behindStep 151 = .ok (.imul, 1) := by decide +kernel
theorem dX2_behindStep_152 : decode cX2_behindStep 152 = .ok (.iconst 2, 1) := by decide +kernel
theorem dX2_behindStep_153 : decode cX2_behindStep 153 = .ok (.iconst 2, 1) := by decide +kernel
theorem dX2_behindStep_154 : decode cX2_behindStep 154 = .ok (.iload 6, 2) := by decide +kernel
theorem dX2_behindStep_156 : decode cX2_behindStep 156 = .ok (.invokevirtual 111, 3) := by decide +kernel
theorem dX2_behindStep_159 : decode cX2_behindStep 159 = .ok (.iconst 4, 1) := by decide +kernel
theorem dX2_behindStep_160 : decode cX2_behindStep 160 = .ok (.idiv, 1) := by decide +kernel
theorem dX2_behindStep_161 : decode cX2_behindStep 161 = .ok (.ireturn, 1) := by decide +kernel
theorem dX2_mended_0 : decode cX2_mended 0 = .ok (.aload_n 0, 1) := by decide +kernel
theorem dX2_mended_1 : decode cX2_mended 1 = .ok (.iload_n 2, 1) := by decide +kernel
theorem dX2_mended_2 : decode cX2_mended 2 = .ok (.iload_n 3, 1) := by decide +kernel
theorem dX2_mended_3 : decode cX2_mended 3 = .ok (.iconst 0, 1) := by decide +kernel
theorem dX2_mended_4 : decode cX2_mended 4 = .ok (.invokevirtual 39, 3) := by decide +kernel
theorem dX2_mended_7 : decode cX2_mended 7 = .ok (.istore 4, 2) := by decide +kernel
theorem dX2_mended_9 : decode cX2_mended 9 = .ok (.aload_n 1, 1) := by decide +kernel
theorem dX2_mended_10 : decode cX2_mended 10 = .ok (.getfield 115, 3) := by decide +kernel
theorem dX2_mended_13 : decode cX2_mended 13 = .ok (.iload_n 2, 1) := by decide +kernel
theorem dX2_mended_14 : decode cX2_mended 14 = .ok (.iload_n 3, 1) := by decide +kernel
theorem dX2_mended_15 : decode cX2_mended 15 = .ok (.invokestatic 64, 3) := by decide +kernel
theorem dX2_mended_18 : decode cX2_mended 18 = .ok (.baload, 1) := by decide +kernel
theorem dX2_mended_19 : decode cX2_mended 19 = .ok (.ifCond .ne 6, 3) := by decide +kernel
theorem dX2_mended_22 : decode cX2_mended 22 = .ok (.iload 4, 2) := by decide +kernel
theorem dX2_mended_24 : decode cX2_mended 24 = .ok (.ireturn, 1) := by decide +kernel
theorem dX2_mended_25 : decode cX2_mended 25 = .ok (.iconst 0, 1) := by decide +kernel
theorem dX2_mended_26 : decode cX2_mended 26 = .ok (.istore 5, 2) := by decide +kernel
theorem dX2_mended_28 : decode cX2_mended 28 = .ok (.iconst 0, 1) := by decide +kernel
theorem dX2_mended_29 : decode cX2_mended 29 = .ok (.istore 6, 2) := by decide +kernel
theorem dX2_mended_31 : decode cX2_mended 31 = .ok (.iconst 0, 1) := by decide +kernel
theorem dX2_mended_32 : decode cX2_mended 32 = .ok (.istore 7, 2) := by decide +kernel
theorem dX2_mended_34 : decode cX2_mended 34 = .ok (.iload 7, 2) := by decide +kernel
theorem dX2_mended_36 : decode cX2_mended 36 = .ok (.iconst 4, 1) := by decide +kernel
theorem dX2_mended_37 : decode cX2_mended 37 = .ok (.if_icmp .ge 72, 3) := by decide +kernel
theorem dX2_mended_40 : decode cX2_mended 40 = .ok (.iload_n 2, 1) := by decide +kernel
theorem dX2_mended_41 : decode cX2_mended 41 = .ok (.getstatic 119, 3) := by decide +kernel
theorem dX2_mended_44 : decode cX2_mended 44 = .ok (.iload 7, 2) := by decide +kernel
theorem dX2_mended_46 : decode cX2_mended 46 = .ok (.iaload, 1) := by decide +kernel
theorem dX2_mended_47 : decode cX2_mended 47 = .ok (.iadd, 1) := by decide +kernel
theorem dX2_mended_48 : decode cX2_mended 48 = .ok (.istore 8, 2) := by decide +kernel
theorem dX2_mended_50 : decode cX2_mended 50 = .ok (.iload_n 3, 1) := by decide +kernel
theorem dX2_mended_51 : decode cX2_mended 51 = .ok (.getstatic 122, 3) := by decide +kernel
theorem dX2_mended_54 : decode cX2_mended 54 = .ok (.iload 7, 2) := by decide +kernel
theorem dX2_mended_56 : decode cX2_mended 56 = .ok (.iaload, 1) := by decide +kernel
theorem dX2_mended_57 : decode cX2_mended 57 = .ok (.iadd, 1) := by decide +kernel
theorem dX2_mended_58 : decode cX2_mended 58 = .ok (.istore 9, 2) := by decide +kernel
theorem dX2_mended_60 : decode cX2_mended 60 = .ok (.aload_n 1, 1) := by decide +kernel
theorem dX2_mended_61 : decode cX2_mended 61 = .ok (.iload 8, 2) := by decide +kernel
theorem dX2_mended_63 : decode cX2_mended 63 = .ok (.iload 9, 2) := by decide +kernel
theorem dX2_mended_65 : decode cX2_mended 65 = .ok (.invokevirtual 125, 3) := by decide +kernel
theorem dX2_mended_68 : decode cX2_mended 68 = .ok (.ifCond .eq 35, 3) := by decide +kernel
theorem dX2_mended_71 : decode cX2_mended 71 = .ok (.aload_n 1, 1) := by decide +kernel
theorem dX2_mended_72 : decode cX2_mended 72 = .ok (.getfield 115, 3) := by decide +kernel
theorem dX2_mended_75 : decode cX2_mended 75 = .ok (.iload 8, 2) := by decide +kernel
theorem dX2_mended_77 : decode cX2_mended 77 = .ok (.iload 9, 2) := by decide +kernel
theorem dX2_mended_79 : decode cX2_mended 79 = .ok (.invokestatic 64, 3) := by decide +kernel
theorem dX2_mended_82 : decode cX2_mended 82 = .ok (.baload, 1) := by decide +kernel
theorem dX2_mended_83 : decode cX2_mended 83 = .ok (.ifCond .ne 20, 3) := by decide +kernel
theorem dX2_mended_86 : decode cX2_mended 86 = .ok (.iload 5, 2) := by decide +kernel
theorem dX2_mended_88 : decode cX2_mended 88 = .ok (.aload_n 0, 1) := by decide +kernel
