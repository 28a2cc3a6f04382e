theorem dX5_gain_68 : decode cX5_gain 68 = .ok (.bipush 17, 2) := by decide +kernel
theorem dX5_gain_70 : decode cX5_gain 70 = .ok (.aload_n 0, 1) := by decide +kernel
theorem dX5_gain_71 : decode cX5_gain 71 = .ok (.getfield 64, 3) := by decide +kernel
theorem dX5_gain_74 : decode cX5_gain 74 = .ok (.imul, 1) := by decide +kernel
theorem dX5_gain_75 : decode cX5_gain 75 = .ok (.iconst 1, 1) := by decide +kernel
theorem dX5_gain_76 : decode cX5_gain 76 = .ok (.iadd, 1) := by decide +kernel
theorem dX5_gain_77 : decode cX5_gain 77 = .ok (.iload_n 2, 1) := by decide +kernel
theorem dX5_gain_78 : decode cX5_gain 78 = .ok (.iastore, 1) := by decide +kernel
theorem dX5_gain_79 : decode cX5_gain 79 = .ok (.aload_n 0, 1) := by decide +kernel
theorem dX5_gain_80 : decode cX5_gain 80 = .ok (.getfield 27, 3) := by decide +kernel
theorem dX5_gain_83 : decode cX5_gain 83 = .ok (.bipush 17, 2) := by decide +kernel
theorem dX5_gain_85 : decode cX5_gain 85 = .ok (.aload_n 0, 1) := by decide +kernel
theorem dX5_gain_86 : decode cX5_gain 86 = .ok (.getfield 64, 3) := by decide +kernel
theorem dX5_gain_89 : decode cX5_gain 89 = .ok (.imul, 1) := by decide +kernel
theorem dX5_gain_90 : decode cX5_gain 90 = .ok (.iconst 2, 1) := by decide +kernel
theorem dX5_gain_91 : decode cX5_gain 91 = .ok (.iadd, 1) := by decide +kernel
theorem dX5_gain_92 : decode cX5_gain 92 = .ok (.iload_n 3, 1) := by decide +kernel
theorem dX5_gain_93 : decode cX5_gain 93 = .ok (.iastore, 1) := by decide +kernel
theorem dX5_gain_94 : decode cX5_gain 94 = .ok (.aload_n 0, 1) := by decide +kernel
theorem dX5_gain_95 : decode cX5_gain 95 = .ok (.iconst 1, 1) := by decide +kernel
theorem dX5_gain_96 : decode cX5_gain 96 = .ok (.invokevirtual 82, 3) := by decide +kernel
theorem dX5_gain_99 : decode cX5_gain 99 = .ok (.ireturn, 1) := by decide +kernel
theorem dX5_step_0 : decode cX5_step 0 = .ok (.iload_n 1, 1) := by decide +kernel
theorem dX5_step_1 : decode cX5_step 1 = .ok (.iconst 2, 1) := by decide +kernel
theorem dX5_step_2 : decode cX5_step 2 = .ok (.if_icmp .eq 22, 3) := by decide +kernel
theorem dX5_step_5 : decode cX5_step 5 = .ok (.iload_n 1, 1) := by decide +kernel
theorem dX5_step_6 : decode cX5_step 6 = .ok (.iconst 3, 1) := by decide +kernel
theorem dX5_step_7 : decode cX5_step 7 = .ok (.if_icmp .eq 17, 3) := by decide +kernel
theorem dX5_step_10 : decode cX5_step 10 = .ok (.iload_n 1, 1) := by decide +kernel
theorem dX5_step_11 : decode cX5_step 11 = .ok (.iconst 4, 1) := by decide +kernel
theorem dX5_step_12 : decode cX5_step 12 = .ok (.if_icmp .eq 12, 3) := by decide +kernel
theorem dX5_step_15 : decode cX5_step 15 = .ok (.iload_n 1, 1) := by decide +kernel
theorem dX5_step_16 : decode cX5_step 16 = .ok (.bipush 7, 2) := by decide +kernel
theorem dX5_step_18 : decode cX5_step 18 = .ok (.if_icmp .eq 6, 3) := by decide +kernel
theorem dX5_step_21 : decode cX5_step 21 = .ok (.bipush (-102), 2) := by decide +kernel
theorem dX5_step_23 : decode cX5_step 23 = .ok (.ireturn, 1) := by decide +kernel
theorem dX5_step_24 : decode cX5_step 24 = .ok (.aload_n 0, 1) := by decide +kernel
theorem dX5_step_25 : decode cX5_step 25 = .ok (.iload_n 1, 1) := by decide +kernel
theorem dX5_step_26 : decode cX5_step 26 = .ok (.invokevirtual 78, 3) := by decide +kernel
theorem dX5_step_29 : decode cX5_step 29 = .ok (.istore_n 2, 1) := by decide +kernel
theorem dX5_step_30 : decode cX5_step 30 = .ok (.iload_n 2, 1) := by decide +kernel
theorem dX5_step_31 : decode cX5_step 31 = .ok (.ifCond .eq 7, 3) := by decide +kernel
theorem dX5_step_34 : decode cX5_step 34 = .ok (.iload_n 2, 1) := by decide +kernel
theorem dX5_step_35 : decode cX5_step 35 = .ok (.goto 8, 3) := by decide +kernel
theorem dX5_step_38 : decode cX5_step 38 = .ok (.aload_n 0, 1) := by decide +kernel
theorem dX5_step_39 : decode cX5_step 39 = .ok (.iload_n 1, 1) := by decide +kernel
theorem dX5_step_40 : decode cX5_step 40 = .ok (.invokevirtual 82, 3) := by decide +kernel
theorem dX5_step_43 : decode cX5_step 43 = .ok (.ireturn, 1) := by decide +kernel
theorem dX5_entry_0 : decode cX5_entry 0 = .ok (.iload_n 1, 1) := by decide +kernel
theorem dX5_entry_1 : decode cX5_entry 1 = .ok (.iconst 0, 1) := by decide +kernel
theorem dX5_entry_2 : decode cX5_entry 2 = .ok (.bipush 8, 2) := by decide +kernel
theorem dX5_entry_4 : decode cX5_entry 4 = .ok (.invokestatic 60, 3) := by decide +kernel
theorem dX5_entry_7 : decode cX5_entry 7 = .ok (.ifCond .ne 6, 3) := by decide +kernel
theorem dX5_entry_10 : decode cX5_entry 10 = .ok (.bipush (-101), 2) := by decide +kernel
theorem dX5_entry_12 : decode cX5_entry 12 = .ok (.ireturn, 1) := by decide +kernel
theorem dX5_entry_13 : decode cX5_entry 13 = .ok (.iload_n 2, 1) := by decide +kernel
theorem dX5_entry_14 : decode cX5_entry 14 = .ok (.sipush (-4000), 3) := by decide +kernel
theorem dX5_entry_17 : decode cX5_entry 17 = .ok (.sipush 4000, 3) := by decide +kernel
theorem dX5_entry_20 : decode cX5_entry 20 = .ok (.invokestatic 60, 3) := by decide +kernel
theorem dX5_entry_23 : decode cX5_entry 23 = .ok (.ifCond .ne 6, 3) := by decide +kernel
theorem dX5_entry_26 : decode cX5_entry 26 = .ok (.bipush (-102), 2) := by decide +kernel
theorem dX5_entry_28 : decode cX5_entry 28 = .ok (.ireturn, 1) := by decide +kernel
theorem dX5_entry_29 : decode cX5_entry 29 = .ok (.aload_n 0, 1) := by decide +kernel
theorem dX5_entry_30 : decode cX5_entry 30 = .ok (.getfield 30, 3) := by decide +kernel
theorem dX5_entry_33 : decode cX5_entry 33 = .ok (.iload_n 1, 1) := by decide +kernel
theorem dX5_entry_34 : decode cX5_entry 34 = .ok (.iaload, 1) := by decide +kernel
theorem dX5_entry_35 : decode cX5_entry 35 = .ok (.istore_n 3, 1) := by decide +kernel
theorem dX5_entry_36 : decode cX5_entry 36 = .ok (.aload_n 0, 1) := by decide +kernel
theorem dX5_entry_37 : decode cX5_entry 37 = .ok (.getfield 30, 3) := by decide +kernel
theorem dX5_entry_40 : decode cX5_entry 40 = .ok (.iload_n 1, 1) := by decide +kernel
theorem dX5_entry_41 : decode cX5_entry 41 = .ok (.iload_n 2, 1) := by decide +kernel
theorem dX5_entry_42 : decode cX5_entry 42 = .ok (.iastore, 1) := by decide +kernel
theorem dX5_entry_43 : decode cX5_entry 43 = .ok (.iload_n 3, 1) := by decide +kernel
theorem dX5_entry_44 : decode cX5_entry 44 = .ok (.ireturn, 1) := by decide +kernel
theorem dX5_matrix_0 : decode cX5_matrix 0 = .ok (.aload_n 0, 1) := by decide +kernel
theorem dX5_matrix_1 : decode cX5_matrix 1 = .ok (.iconst 5, 1) := by decide +kernel
theorem dX5_matrix_2 : decode cX5_matrix 2 = .ok (.invokevirtual 78, 3) := by decide +kernel
theorem dX5_matrix_5 : decode cX5_matrix 5 = .ok (.istore_n 1, 1) := by decide +kernel
theorem dX5_matrix_6 : decode cX5_matrix 6 = .ok (.iload_n 1, 1) := by decide +kernel
theorem dX5_matrix_7 : decode cX5_matrix 7 = .ok (.ifCond .eq 5, 3) := by decide +kernel
theorem dX5_matrix_10 : decode cX5_matrix 10 = .ok (.iload_n 1, 1) := by decide +kernel
theorem dX5_matrix_11 : decode cX5_matrix 11 = .ok (.ireturn, 1) := by decide +kernel
theorem dX5_matrix_12 : decode cX5_matrix 12 = .ok (.iconst 0, 1) := by decide +kernel
theorem dX5_matrix_13 : decode cX5_matrix 13 = .ok (.istore_n 2, 1) := by decide +kernel
theorem dX5_matrix_14 : decode cX5_matrix 14 = .ok (.iload_n 2, 1) := by decide +kernel
theorem dX5_matrix_15 : decode cX5_matrix 15 = .ok (.bipush 9, 2) := by decide +kernel
theorem dX5_matrix_17 : decode cX5_matrix 17 = .ok (.if_icmp .ge 29, 3) := by decide +kernel
theorem dX5_matrix_20 : decode cX5_matrix 20 = .ok (.aload_n 0, 1) := by decide +kernel
theorem dX5_matrix_21 : decode cX5_matrix 21 = .ok (.getfield 27, 3) := by decide +kernel
theorem dX5_matrix_24 : decode cX5_matrix 24 = .ok (.bipush 17, 2) := by decide +kernel
theorem dX5_matrix_26 : decode cX5_matrix 26 = .ok (.aload_n 0, 1) := by decide +kernel
theorem dX5_matrix_27 : decode cX5_matrix 27 = .ok (.getfield 64, 3) := by decide +kernel
theorem dX5_matrix_30 : decode cX5_matrix 30 = .ok (.imul, 1) := by decide +kernel
theorem dX5_matrix_31 : decode cX5_matrix 31 = .ok (.iload_n 2, 1) := by decide +kernel
theorem dX5_matrix_32 : decode cX5_matrix 32 = .ok (.iadd, 1) := by decide +kernel
theorem dX5_matrix_33 : decode cX5_matrix 33 = .ok (.aload_n 0, 1) := by decide +kernel
theorem dX5_matrix_34 : decode cX5_matrix 34 = .ok (.getfield 30, 3) := by decide +kernel
theorem dX5_matrix_37 : decode cX5_matrix 37 = .ok (.iload_n 2, 1) := by decide +kernel
theorem dX5_matrix_38 : decode cX5_matrix 38 = .ok (.iaload, 1) := by decide +kernel
theorem dX5_matrix_39 : decode cX5_matrix 39 = .ok (.iastore, 1) := by decide +kernel
theorem dX5_matrix_40 : decode cX5_matrix 40 = .ok (.iinc 2 1, 3) := by decide +kernel
theorem dX5_matrix_43 : decode cX5_matrix 43 = .ok (.goto (-29), 3) := by decide +kernel
theorem dX5_matrix_46 : decode cX5_matrix 46 = .ok (.aload_n 0, 1) := by decide +kernel
theorem dX5_matrix_47 : decode cX5_matrix 47 = .ok (.iconst 5, 1) := by decide +kernel
theorem dX5_matrix_48 : decode cX5_matrix 48 = .ok (.invokevirtual 82, 3) := by decide +kernel
theorem dX5_matrix_51 : decode cX5_matrix 51 = .ok (.ireturn, 1) := by decide +kernel
theorem dX5_point_0 : decode cX5_point 0 = .ok (.iload_n 1, 1) := by decide +kernel
theorem dX5_point_1 : decode cX5_point 1 = .ok (.iconst 0, 1) := by decide +kernel
theorem dX5_point_2 : decode cX5_point 2 = .ok (.bipush 16, 2) := by decide +kernel
theorem dX5_point_4 : decode cX5_point 4 = .ok (.invokestatic 60, 3) := by decide +kernel
theorem dX5_point_7 : decode cX5_point 7 = .ok (.ifCond .ne 6, 3) := by decide +kernel
theorem dX5_point_10 : decode cX5_point 10 = .ok (.bipush (-101), 2) := by decide +kernel
theorem dX5_point_12 : decode cX5_point 12 = .ok (.ireturn, 1) := by decide +kernel
theorem dX5_point_13 : decode cX5_point 13 = .ok (.iload_n 2, 1) := by decide +kernel
theorem dX5_point_14 : decode cX5_point 14 = .ok (.iconst 0, 1) := by decide +kernel
theorem dX5_point_15 : decode cX5_point 15 = .ok (.sipush 4095, 3) := by decide +kernel
theorem dX5_point_18 : decode cX5_point 18 = .ok (.invokestatic 60, 3) := by decide +kernel
theorem dX5_point_21 : decode cX5_point 21 = .ok (.ifCond .ne 6, 3) := by decide +kernel
theorem dX5_point_24 : decode cX5_point 24 = .ok (.bipush (-102), 2) := by decide +kernel
theorem dX5_point_26 : decode cX5_point 26 = .ok (.ireturn, 1) := by decide +kernel
theorem dX5_point_27 : decode cX5_point 27 = .ok (.aload_n 0, 1) := by decide +kernel
theorem dX5_point_28 : decode cX5_point 28 = .ok (.getfield 33, 3) := by decide +kernel
theorem dX5_point_31 : decode cX5_point 31 = .ok (.iload_n 1, 1) := by decide +kernel
theorem dX5_point_32 : decode cX5_point 32 = .ok (.iaload, 1) := by decide +kernel
theorem dX5_point_33 : decode cX5_point 33 = .ok (.istore_n 3, 1) := by decide +kernel
theorem dX5_point_34 : decode cX5_point 34 = .ok (.aload_n 0, 1) := by decide +kernel
theorem dX5_point_35 : decode cX5_point 35 = .ok (.getfield 33, 3) := by decide +kernel
theorem dX5_point_38 : decode cX5_point 38 = .ok (.iload_n 1, 1) := by decide +kernel
theorem dX5_point_39 : decode cX5_point 39 = .ok (.iload_n 2, 1) := by decide +kernel
theorem dX5_point_40 : decode cX5_point 40 = .ok (.iastore, 1) := by decide +kernel
theorem dX5_point_41 : decode cX5_point 41 = .ok (.iload_n 3, 1) := by decide +kernel
theorem dX5_point_42 : decode cX5_point 42 = .ok (.ireturn, 1) := by decide +kernel
theorem dX5_curve_0 : decode cX5_curve 0 = .ok (.iconst 1, 1) := by decide +kernel
theorem dX5_curve_1 : decode cX5_curve 1 = .ok (.istore_n 1, 1) := by decide +kernel
theorem dX5_curve_2 : decode cX5_curve 2 = .ok (.iload_n 1, 1) := by decide +kernel
theorem dX5_curve_3 : decode cX5_curve 3 = .ok (.bipush 17, 2) := by decide +kernel
theorem dX5_curve_5 : decode cX5_curve 5 = .ok (.if_icmp .ge 29, 3) := by decide +kernel
theorem dX5_curve_8 : decode cX5_curve 8 = .ok (.aload_n 0, 1) := by decide +kernel
theorem dX5_curve_9 : decode cX5_curve 9 = .ok (.getfield 33, 3) := by decide +kernel
theorem dX5_curve_12 : decode cX5_curve 12 = .ok (.iload_n 1, 1) := by decide +kernel
theorem dX5_curve_13 : decode cX5_curve 13 = .ok (.iaload, 1) := by decide +kernel
theorem dX5_curve_14 : decode cX5_curve 14 = .ok (.aload_n 0, 1) := by decide +kernel
theorem dX5_curve_15 : decode cX5_curve 15 = .ok (.getfield 33, 3) := by decide +kernel
theorem dX5_curve_18 : decode cX5_curve 18 = .ok (.iload_n 1, 1) := by decide +kernel
theorem dX5_curve_19 : decode cX5_curve 19 = .ok (.iconst 1, 1) := by decide +kernel
theorem dX5_curve_20 : decode cX5_curve 20 = .ok (.isub, 1) := by decide +kernel
theorem dX5_curve_21 : decode cX5_curve 21 = .ok (.iaload, 1) := by decide +kernel
theorem dX5_curve_22 : decode cX5_curve 22 = .ok (.if_icmp .ge 6, 3) := by decide +kernel
theorem dX5_curve_25 : decode cX5_curve 25 = .ok (.bipush (-102), 2) := by decide +kernel
theorem dX5_curve_27 : decode cX5_curve 27 = .ok (.ireturn, 1) := by decide +kernel
theorem dX5_curve_28 : decode cX5_curve 28 = .ok (.iinc 1 1, 3) := by decide +kernel
theorem dX5_curve_31 : decode cX5_curve 31 = .ok (.goto (-29), 3) := by decide +kernel
theorem dX5_curve_34 : decode cX5_curve 34 = .ok (.aload_n 0, 1) := by decide +kernel
theorem dX5_curve_35 : decode cX5_curve 35 = .ok (.bipush 6, 2) := by decide +kernel
theorem dX5_curve_37 : decode cX5_curve 37 = .ok (.invokevirtual 78, 3) := by decide +kernel
theorem dX5_curve_40 : decode cX5_curve 40 = .ok (.istore_n 1, 1) := by decide +kernel
theorem dX5_curve_41 : decode cX5_curve 41 = .ok (.iload_n 1, 1) := by decide +kernel
theorem dX5_curve_42 : decode cX5_curve 42 = .ok (.ifCond .eq 5, 3) := by decide +kernel
theorem dX5_curve_45 : decode cX5_curve 45 = .ok (.iload_n 1, 1) := by decide +kernel
theorem dX5_curve_46 : decode cX5_curve 46 = .ok (.ireturn, 1) := by decide +kernel
theorem dX5_curve_47 : decode cX5_curve 47 = .ok (.iconst 0, 1) := by decide +kernel
theorem dX5_curve_48 : decode cX5_curve 48 = .ok (.istore_n 2, 1) := by decide +kernel
theorem dX5_curve_49 : decode cX5_curve 49 = .ok (.iload_n 2, 1) := by decide +kernel
theorem dX5_curve_50 : decode cX5_curve 50 = .ok (.bipush 17, 2) := by decide +kernel
theorem dX5_curve_52 : decode cX5_curve 52 = .ok (.if_icmp .ge 29, 3) := by decide +kernel
theorem dX5_curve_55 : decode cX5_curve 55 = .ok (.aload_n 0, 1) := by decide +kernel
theorem dX5_curve_56 : decode cX5_curve 56 = .ok (.getfield 27, 3) := by decide +kernel
theorem dX5_curve_59 : decode cX5_curve 59 = .ok (.bipush 17, 2) := by decide +kernel
theorem dX5_curve_61 : decode cX5_curve 61 = .ok (.aload_n 0, 1) := by decide +kernel
theorem dX5_curve_62 : decode cX5_curve 62 = .ok (.getfield 64, 3) := by decide +kernel
theorem dX5_curve_65 : decode cX5_curve 65 = .ok (.imul, 1) := by decide +kernel
theorem dX5_curve_66 : decode cX5_curve 66 = .ok (.iload_n 2, 1) := by decide +kernel
theorem dX5_curve_67 : decode cX5_curve 67 = .ok (.iadd, 1) := by decide +kernel
theorem dX5_curve_68 : decode cX5_curve 68 = .ok (.aload_n 0, 1) := by decide +kernel
theorem dX5_curve_69 : decode cX5_curve 69 = .ok (.getfield 33, 3) := by decide +kernel
theorem dX5_curve_72 : decode cX5_curve 72 = .ok (.iload_n 2, 1) := by decide +kernel
theorem dX5_curve_73 : decode cX5_curve 73 = .ok (.iaload, 1) := by decide +kernel
theorem dX5_curve_74 : decode cX5_curve 74 = .ok (.iastore, 1) := by decide +kernel
theorem dX5_curve_75 : decode cX5_curve 75 = .ok (.iinc 2 1, 3) := by decide +kernel
theorem dX5_curve_78 : decode cX5_curve 78 = .ok (.goto (-29), 3) := by decide +kernel
theorem dX5_curve_81 : decode cX5_curve 81 = .ok (.aload_n 0, 1) := by decide +kernel
theorem dX5_curve_82 : decode cX5_curve 82 = .ok (.bipush 6, 2) := by decide +kernel
theorem dX5_curve_84 : decode cX5_curve 84 = .ok (.invokevirtual 82, 3) := by decide +kernel
theorem dX5_curve_87 : decode cX5_curve 87 = .ok (.ireturn, 1) := by decide +kernel
theorem dX5_undo_0 : decode cX5_undo 0 = .ok (.aload_n 0, 1) := by decide +kernel
theorem dX5_undo_1 : decode cX5_undo 1 = .ok (.getfield 64, 3) := by decide +kernel
theorem dX5_undo_4 : decode cX5_undo 4 = .ok (.ifCond .ne 6, 3) := by decide +kernel
theorem dX5_undo_7 : decode cX5_undo 7 = .ok (.bipush (-103), 2) := by decide +kernel
theorem dX5_undo_9 : decode cX5_undo 9 = .ok (.ireturn, 1) := by decide +kernel
theorem dX5_undo_10 : decode cX5_undo 10 = .ok (.aload_n 0, 1) := by decide +kernel
theorem dX5_undo_11 : decode cX5_undo 11 = .ok (.dup, 1) := by decide +kernel
theorem dX5_undo_12 : decode cX5_undo 12 = .ok (.getfield 64, 3) := by decide +kernel
theorem dX5_undo_15 : decode cX5_undo 15 = .ok (.iconst 1, 1) := by decide +kernel
theorem dX5_undo_16 : decode cX5_undo 16 = .ok (.isub, 1) := by decide +kernel
theorem dX5_undo_17 : decode cX5_undo 17 = .ok (.putfield 64, 3) := by decide +kernel
theorem dX5_undo_20 : decode cX5_undo 20 = .ok (.aload_n 0, 1) := by decide +kernel
theorem dX5_undo_21 : decode cX5_undo 21 = .ok (.getfield 64, 3) := by decide +kernel
theorem dX5_undo_24 : decode cX5_undo 24 = .ok (.ireturn, 1) := by decide +kernel
theorem dX5_kind_0 : decode cX5_kind 0 = .ok (.iload_n 1, 1) := by decide +kernel
theorem dX5_kind_1 : decode cX5_kind 1 = .ok (.iconst 0, 1) := by decide +kernel
theorem dX5_kind_2 : decode cX5_kind 2 = .ok (.aload_n 0, 1) := by decide +kernel
theorem dX5_kind_3 : decode cX5_kind 3 = .ok (.getfield 64, 3) := by decide +kernel
theorem dX5_kind_6 : decode cX5_kind 6 = .ok (.iconst 1, 1) := by decide +kernel
theorem dX5_kind_7 : decode cX5_kind 7 = .ok (.isub, 1) := by decide +kernel
theorem dX5_kind_8 : decode cX5_kind 8 = .ok (.invokestatic 60, 3) := by decide +kernel
theorem dX5_kind_11 : decode cX5_kind 11 = .ok (.ifCond .eq 12, 3) := by decide +kernel
theorem dX5_kind_14 : decode cX5_kind 14 = .ok (.aload_n 0, 1) := by decide +kernel
theorem dX5_kind_15 : decode cX5_kind 15 = .ok (.getfield 24, 3) := by decide +kernel
theorem dX5_kind_18 : decode cX5_kind 18 = .ok (.iload_n 1, 1) := by decide +kernel
theorem dX5_kind_19 : decode cX5_kind 19 = .ok (.iaload, 1) := by decide +kernel
theorem dX5_kind_20 : decode cX5_kind 20 = .ok (.goto 4, 3) := by decide +kernel
theorem dX5_kind_23 : decode cX5_kind 23 = .ok (.iconst (-1), 1) := by decide +kernel
theorem dX5_kind_24 : decode cX5_kind 24 = .ok (.ireturn, 1) := by decide +kernel
theorem dX5_measure_0 : decode cX5_measure 0 = .ok (.aload_n 0, 1) := by decide +kernel
theorem dX5_measure_1 : decode cX5_measure 1 = .ok (.getfield 36, 3) := by decide +kernel
theorem dX5_measure_4 : decode cX5_measure 4 = .ok (.iconst 0, 1) := by decide +kernel
theorem dX5_measure_5 : decode cX5_measure 5 = .ok (.aload_n 0, 1) := by decide +kernel
theorem dX5_measure_6 : decode cX5_measure 6 = .ok (.getfield 7, 3) := by decide +kernel
theorem dX5_measure_9 : decode cX5_measure 9 = .ok (.iastore, 1) := by decide +kernel
theorem dX5_measure_10 : decode cX5_measure 10 = .ok (.aload_n 0, 1) := by decide +kernel
theorem dX5_measure_11 : decode cX5_measure 11 = .ok (.getfield 39, 3) := by decide +kernel
theorem dX5_measure_14 : decode cX5_measure 14 = .ok (.iconst 0, 1) := by decide +kernel
theorem dX5_measure_15 : decode cX5_measure 15 = .ok (.aload_n 0, 1) := by decide +kernel
theorem dX5_measure_16 : decode cX5_measure 16 = .ok (.getfield 13, 3) := by decide +kernel
theorem dX5_measure_19 : decode cX5_measure 19 = .ok (.iastore, 1) := by decide +kernel
theorem dX5_measure_20 : decode cX5_measure 20 = .ok (.aload_n 0, 1) := by decide +kernel
theorem dX5_measure_21 : decode cX5_measure 21 = .ok (.getfield 42, 3) := by decide +kernel
theorem dX5_measure_24 : decode cX5_measure 24 = .ok (.iconst 0, 1) := by decide +kernel
theorem dX5_measure_25 : decode cX5_measure 25 = .ok (.iconst 1, 1) := by decide +kernel
theorem dX5_measure_26 : decode cX5_measure 26 = .ok (.iastore, 1) := by decide +kernel
theorem dX5_measure_27 : decode cX5_measure 27 = .ok (.aload_n 0, 1) := by decide +kernel
theorem dX5_measure_28 : decode cX5_measure 28 = .ok (.getfield 45, 3) := by decide +kernel
theorem dX5_measure_31 : decode cX5_measure 31 = .ok (.iconst 0, 1) := by decide +kernel
theorem dX5_measure_32 : decode cX5_measure 32 = .ok (.iconst 0, 1) := by decide +kernel
theorem dX5_measure_33 : decode cX5_measure 33 = .ok (.iastore, 1) := by decide +kernel
theorem dX5_measure_34 : decode cX5_measure 34 = .ok (.aload_n 0, 1) := by decide +kernel
theorem dX5_measure_35 : decode cX5_measure 35 = .ok (.getfield 48, 3) := by decide +kernel
theorem dX5_measure_38 : decode cX5_measure 38 = .ok (.iconst 0, 1) := by decide +kernel
theorem dX5_measure_39 : decode cX5_measure 39 = .ok (.iconst 1, 1) := by decide +kernel
theorem dX5_measure_40 : decode cX5_measure 40 = .ok (.iastore, 1) := by decide +kernel
theorem dX5_measure_41 : decode cX5_measure 41 = .ok (.iconst 0, 1) := by decide +kernel
theorem dX5_measure_42 : decode cX5_measure 42 = .ok (.istore_n 1, 1) := by decide +kernel
theorem dX5_measure_43 : decode cX5_measure 43 = .ok (.iload_n 1, 1) := by decide +kernel
theorem dX5_measure_44 : decode cX5_measure 44 = .ok (.aload_n 0, 1) := by decide +kernel
theorem dX5_measure_45 : decode cX5_measure 45 = .ok (.getfield 64, 3) := by decide +kernel
theorem dX5_measure_48 : decode cX5_measure 48 = .ok (.if_icmp .ge 210, 3) := by decide +kernel
theorem dX5_measure_51 : decode cX5_measure 51 = .ok (.aload_n 0, 1) := by decide +kernel
theorem dX5_measure_52 : decode cX5_measure 52 = .ok (.getfield 24, 3) := by decide +kernel
theorem dX5_measure_55 : decode cX5_measure 55 = .ok (.iload_n 1, 1) := by decide +kernel
theorem dX5_measure_56 : decode cX5_measure 56 = .ok (.iaload, 1) := by decide +kernel
theorem dX5_measure_57 : decode cX5_measure 57 = .ok (.bipush 7, 2) := by decide +kernel
theorem dX5_measure_59 : decode cX5_measure 59 = .ok (.if_icmp .ne 7, 3) := by decide +kernel
theorem dX5_measure_62 : decode cX5_measure 62 = .ok (.iconst 1, 1) := by decide +kernel
theorem dX5_measure_63 : decode cX5_measure 63 = .ok (.goto 4, 3) := by decide +kernel
theorem dX5_measure_66 : decode cX5_measure 66 = .ok (.iconst 0, 1) := by decide +kernel
theorem dX5_measure_67 : decode cX5_measure 67 = .ok (.istore_n 2, 1) := by decide +kernel
theorem dX5_measure_68 : decode cX5_measure 68 = .ok (.aload_n 0, 1) := by decide +kernel
theorem dX5_measure_69 : decode cX5_measure 69 = .ok (.getfield 36, 3) := by decide +kernel
theorem dX5_measure_72 : decode cX5_measure 72 = .ok (.iload_n 1, 1) := by decide +kernel
theorem dX5_measure_73 : decode cX5_measure 73 = .ok (.iconst 1, 1) := by decide +kernel
theorem dX5_measure_74 : decode cX5_measure 74 = .ok (.iadd, 1) := by decide +kernel
theorem dX5_measure_75 : decode cX5_measure 75 = .ok (.iload_n 2, 1) := by decide +kernel
theorem dX5_measure_76 : decode cX5_measure 76 = .ok (.ifCond .eq 14, 3) := by decide +kernel
theorem dX5_measure_79 : decode cX5_measure 79 = .ok (.aload_n 0, 1) := by decide +kernel
theorem dX5_measure_80 : decode cX5_measure 80 = .ok (.getfield 36, 3) := by decide +kernel
theorem dX5_measure_83 : decode cX5_measure 83 = .ok (.iload_n 1, 1) := by decide +kernel
theorem dX5_measure_84 : decode cX5_measure 84 = .ok (.iaload, 1) := by decide +kernel
theorem dX5_measure_85 : decode cX5_measure 85 = .ok (.iconst 2, 1) := by decide +kernel
theorem dX5_measure_86 : decode cX5_measure 86 = .ok (.idiv, 1) := by decide +kernel
theorem dX5_measure_87 : decode cX5_measure 87 = .ok (.goto 9, 3) := by decide +kernel
theorem dX5_measure_90 : decode cX5_measure 90 = .ok (.aload_n 0, 1) := by decide +kernel
theorem dX5_measure_91 : decode cX5_measure 91 = .ok (.getfield 36, 3) := by decide +kernel
theorem dX5_measure_94 : decode cX5_measure 94 = .ok (.iload_n 1, 1) := by decide +kernel
theorem dX5_measure_95 : decode cX5_measure 95 = .ok (.iaload, 1) := by decide +kernel
theorem dX5_measure_96 : decode cX5_measure 96 = .ok (.iastore, 1) := by decide +kernel
theorem dX5_measure_97 : decode cX5_measure 97 = .ok (.aload_n 0, 1) := by decide +kernel
theorem dX5_measure_98 : decode cX5_measure 98 = .ok (.getfield 39, 3) := by decide +kernel
theorem dX5_measure_101 : decode cX5_measure 101 = .ok (.iload_n 1, 1) := by decide +kernel
theorem dX5_measure_102 : decode cX5_measure 102 = .ok (.iconst 1, 1) := by decide +kernel
theorem dX5_measure_103 : decode cX5_measure 103 = .ok (.iadd, 1) := by decide +kernel
theorem dX5_measure_104 : decode cX5_measure 104 = .ok (.iload_n 2, 1) := by decide +kernel
theorem dX5_measure_105 : decode cX5_measure 105 = .ok (.ifCond .eq 14, 3) := by decide +kernel
theorem dX5_measure_108 : decode cX5_measure 108 = .ok (.aload_n 0, 1) := by decide +kernel
theorem dX5_measure_109 : decode cX5_measure 109 = .ok (.getfield 39, 3) := by decide +kernel
theorem dX5_measure_112 : decode cX5_measure 112 = .ok (.iload_n 1, 1) := by decide +kernel
theorem dX5_measure_113 : decode cX5_measure 113 = .ok (.iaload, 1) := by decide +kernel
theorem dX5_measure_114 : decode cX5_measure 114 = .ok (.iconst 2, 1) := by decide +kernel
theorem dX5_measure_115 : decode cX5_measure 115 = .ok (.idiv, 1) := by decide +kernel
theorem dX5_measure_116 : decode cX5_measure 116 = .ok (.goto 9, 3) := by decide +kernel
theorem dX5_measure_119 : decode cX5_measure 119 = .ok (.aload_n 0, 1) := by decide +kernel
theorem dX5_measure_120 : decode cX5_measure 120 = .ok (.getfield 39, 3) := by decide +kernel
theorem dX5_measure_123 : decode cX5_measure 123 = .ok (.iload_n 1, 1) := by decide +kernel
theorem dX5_measure_124 : decode cX5_measure 124 = .ok (.iaload, 1) := by decide +kernel
theorem dX5_measure_125 : decode cX5_measure 125 = .ok (.iastore, 1) := by decide +kernel
theorem dX5_measure_126 : decode cX5_measure 126 = .ok (.aload_n 0, 1) := by decide +kernel
theorem dX5_measure_127 : decode cX5_measure 127 = .ok (.getfield 42, 3) := by decide +kernel
theorem dX5_measure_130 : decode cX5_measure 130 = .ok (.iload_n 1, 1) := by decide +kernel
theorem dX5_measure_131 : decode cX5_measure 131 = .ok (.iconst 1, 1) := by decide +kernel
theorem dX5_measure_132 : decode cX5_measure 132 = .ok (.iadd, 1) := by decide +kernel
theorem dX5_measure_133 : decode cX5_measure 133 = .ok (.aload_n 0, 1) := by decide +kernel
theorem dX5_measure_134 : decode cX5_measure 134 = .ok (.getfield 24, 3) := by decide +kernel
theorem dX5_measure_137 : decode cX5_measure 137 = .ok (.iload_n 1, 1) := by decide +kernel
theorem dX5_measure_138 : decode cX5_measure 138 = .ok (.iaload, 1) := by decide +kernel
theorem dX5_measure_139 : decode cX5_measure 139 = .ok (.iconst 4, 1) := by decide +kernel
theorem dX5_measure_140 : decode cX5_measure 140 = .ok (.if_icmp .ne 7, 3) := by decide +kernel
theorem dX5_measure_143 : decode cX5_measure 143 = .ok (.iconst 3, 1) := by decide +kernel
theorem dX5_measure_144 : decode cX5_measure 144 = .ok (.goto 9, 3) := by decide +kernel
theorem dX5_measure_147 : decode cX5_measure 147 = .ok (.aload_n 0, 1) := by decide +kernel
theorem dX5_measure_148 : decode cX5_measure 148 = .ok (.getfield 42, 3) := by decide +kernel
theorem dX5_measure_151 : decode cX5_measure 151 = .ok (.iload_n 1, 1) := by decide +kernel
theorem dX5_measure_152 : decode cX5_measure 152 = .ok (.iaload, 1) := by decide +kernel
theorem dX5_measure_153 : decode cX5_measure 153 = .ok (.iastore, 1) := by decide +kernel
theorem dX5_measure_154 : decode cX5_measure 154 = .ok (.aload_n 0, 1) := by decide +kernel
theorem dX5_measure_155 : decode cX5_measure 155 = .ok (.getfield 24, 3) := by decide +kernel
theorem dX5_measure_158 : decode cX5_measure 158 = .ok (.iload_n 1, 1) := by decide +kernel
theorem dX5_measure_159 : decode cX5_measure 159 = .ok (.iaload, 1) := by decide +kernel
theorem dX5_measure_160 : decode cX5_measure 160 = .ok (.iconst 2, 1) := by decide +kernel
theorem dX5_measure_161 : decode cX5_measure 161 = .ok (.if_icmp .eq 13, 3) := by decide +kernel
theorem dX5_measure_164 : decode cX5_measure 164 = .ok (.aload_n 0, 1) := by decide +kernel
theorem dX5_measure_165 : decode cX5_measure 165 = .ok (.getfield 24, 3) := by decide +kernel
theorem dX5_measure_168 : decode cX5_measure 168 = .ok (.iload_n 1, 1) := by decide +kernel
theorem dX5_measure_169 : decode cX5_measure 169 = .ok (.iaload, 1) := by decide +kernel
theorem dX5_measure_170 : decode cX5_measure 170 = .ok (.iconst 3, 1) := by decide +kernel
theorem dX5_measure_171 : decode cX5_measure 171 = .ok (.if_icmp .ne 7, 3) := by decide +kernel
theorem dX5_measure_174 : decode cX5_measure 174 = .ok (.iconst 2, 1) := by decide +kernel
theorem dX5_measure_175 : decode cX5_measure 175 = .ok (.goto 31, 3) := by decide +kernel
theorem dX5_measure_178 : decode cX5_measure 178 = .ok (.aload_n 0, 1) := by decide +kernel
theorem dX5_measure_179 : decode cX5_measure 179 = .ok (.getfield 24, 3) := by decide +kernel
theorem dX5_measure_182 : decode cX5_measure 182 = .ok (.iload_n 1, 1) := by decide +kernel
theorem dX5_measure_183 : decode cX5_measure 183 = .ok (.iaload, 1) := by decide +kernel
theorem dX5_measure_184 : decode cX5_measure 184 = .ok (.iconst 4, 1) := by decide +kernel
theorem dX5_measure_185 : decode cX5_measure 185 = .ok (.if_icmp .ne 7, 3) := by decide +kernel
theorem dX5_measure_188 : decode cX5_measure 188 = .ok (.iconst 1, 1) := by decide +kernel
theorem dX5_measure_189 : decode cX5_measure 189 = .ok (.goto 17, 3) := by decide +kernel
theorem dX5_measure_192 : decode cX5_measure 192 = .ok (.iload_n 2, 1) := by decide +kernel
theorem dX5_measure_193 : decode cX5_measure 193 = .ok (.ifCond .eq 12, 3) := by decide +kernel
theorem dX5_measure_196 : decode cX5_measure 196 = .ok (.aload_n 0, 1) := by decide +kernel
theorem dX5_measure_197 : decode cX5_measure 197 = .ok (.getfield 48, 3) := by decide +kernel
theorem dX5_measure_200 : decode cX5_measure 200 = .ok (.iload_n 1, 1) := by decide +kernel
theorem dX5_measure_201 : decode cX5_measure 201 = .ok (.iaload, 1) := by decide +kernel
theorem dX5_measure_202 : decode cX5_measure 202 = .ok (.goto 4, 3) := by decide +kernel
theorem dX5_measure_205 : decode cX5_measure 205 = .ok (.iconst 0, 1) := by decide +kernel
theorem dX5_measure_206 : decode cX5_measure 206 = .ok (.istore_n 3, 1) := by decide +kernel
theorem dX5_measure_207 : decode cX5_measure 207 = .ok (.aload_n 0, 1) := by decide +kernel
theorem dX5_measure_208 : decode cX5_measure 208 = .ok (.getfield 45, 3) := by decide +kernel
theorem dX5_measure_211 : decode cX5_measure 211 = .ok (.iload_n 1, 1) := by decide +kernel
theorem dX5_measure_212 : decode cX5_measure 212 = .ok (.iconst 1, 1) := by decide +kernel
theorem dX5_measure_213 : decode cX5_measure 213 = .ok (.iadd, 1) := by decide +kernel
theorem dX5_measure_214 : decode cX5_measure 214 = .ok (.aload_n 0, 1) := by decide +kernel
theorem dX5_measure_215 : decode cX5_measure 215 = .ok (.getfield 45, 3) := by decide +kernel
theorem dX5_measure_218 : decode cX5_measure 218 = .ok (.iload_n 1, 1) := by decide +kernel
theorem dX5_measure_219 : decode cX5_measure 219 = .ok (.iaload, 1) := by decide +kernel
theorem dX5_measure_220 : decode cX5_measure 220 = .ok (.iload_n 3, 1) := by decide +kernel
theorem dX5_measure_221 : decode cX5_measure 221 = .ok (.iadd, 1) := by decide +kernel
theorem dX5_measure_222 : decode cX5_measure 222 = .ok (.iastore, 1) := by decide +kernel
theorem dX5_measure_223 : decode cX5_measure 223 = .ok (.aload_n 0, 1) := by decide +kernel
theorem dX5_measure_224 : decode cX5_measure 224 = .ok (.getfield 48, 3) := by decide +kernel
theorem dX5_measure_227 : decode cX5_measure 227 = .ok (.iload_n 1, 1) := by decide +kernel
theorem dX5_measure_228 : decode cX5_measure 228 = .ok (.iconst 1, 1) := by decide +kernel
theorem dX5_measure_229 : decode cX5_measure 229 = .ok (.iadd, 1) := by decide +kernel
theorem dX5_measure_230 : decode cX5_measure 230 = .ok (.iload_n 2, 1) := by decide +kernel
theorem dX5_measure_231 : decode cX5_measure 231 = .ok (.ifCond .eq 14, 3) := by decide +kernel
theorem dX5_measure_234 : decode cX5_measure 234 = .ok (.iconst 2, 1) := by decide +kernel
theorem dX5_measure_235 : decode cX5_measure 235 = .ok (.aload_n 0, 1) := by decide +kernel
theorem dX5_measure_236 : decode cX5_measure 236 = .ok (.getfield 48, 3) := by decide +kernel
theorem dX5_measure_239 : decode cX5_measure 239 = .ok (.iload_n 1, 1) := by decide +kernel
theorem dX5_measure_240 : decode cX5_measure 240 = .ok (.iaload, 1) := by decide +kernel
theorem dX5_measure_241 : decode cX5_measure 241 = .ok (.imul, 1) := by decide +kernel
theorem dX5_measure_242 : decode cX5_measure 242 = .ok (.goto 9, 3) := by decide +kernel
theorem dX5_measure_245 : decode cX5_measure 245 = .ok (.aload_n 0, 1) := by decide +kernel
theorem dX5_measure_246 : decode cX5_measure 246 = .ok (.getfield 48, 3) := by decide +kernel
theorem dX5_measure_249 : decode cX5_measure 249 = .ok (.iload_n 1, 1) := by decide +kernel
theorem dX5_measure_250 : decode cX5_measure 250 = .ok (.iaload, 1) := by decide +kernel
theorem dX5_measure_251 : decode cX5_measure 251 = .ok (.iastore, 1) := by decide +kernel
theorem dX5_measure_252 : decode cX5_measure 252 = .ok (.iinc 1 1, 3) := by decide +kernel
theorem dX5_measure_255 : decode cX5_measure 255 = .ok (.goto (-212), 3) := by decide +kernel
theorem dX5_measure_258 : decode cX5_measure 258 = .ok (.return_, 1) := by decide +kernel
theorem dX5_colour_0 : decode cX5_colour 0 = .ok (.iload_n 0, 1) := by decide +kernel
theorem dX5_colour_1 : decode cX5_colour 1 = .ok (.iconst 2, 1) := by decide +kernel
theorem dX5_colour_2 : decode cX5_colour 2 = .ok (.irem, 1) := by decide +kernel
theorem dX5_colour_3 : decode cX5_colour 3 = .ok (.ifCond .ne 13, 3) := by decide +kernel
theorem dX5_colour_6 : decode cX5_colour 6 = .ok (.iload_n 1, 1) := by decide +kernel
theorem dX5_colour_7 : decode cX5_colour 7 = .ok (.iconst 2, 1) := by decide +kernel
theorem dX5_colour_8 : decode cX5_colour 8 = .ok (.irem, 1) := by decide +kernel
theorem dX5_colour_9 : decode cX5_colour 9 = .ok (.ifCond .ne 7, 3) := by decide +kernel
theorem dX5_colour_12 : decode cX5_colour 12 = .ok (.iconst 0, 1) := by decide +kernel
theorem dX5_colour_13 : decode cX5_colour 13 = .ok (.goto 22, 3) := by decide +kernel
theorem dX5_colour_16 : decode cX5_colour 16 = .ok (.iload_n 0, 1) := by decide +kernel
theorem dX5_colour_17 : decode cX5_colour 17 = .ok (.iconst 2, 1) := by decide +kernel
theorem dX5_colour_18 : decode cX5_colour 18 = .ok (.irem, 1) := by decide +kernel
theorem dX5_colour_19 : decode cX5_colour 19 = .ok (.iconst 1, 1) := by decide +kernel
theorem dX5_colour_20 : decode cX5_colour 20 = .ok (.if_icmp .ne 14, 3) := by decide +kernel
theorem dX5_colour_23 : decode cX5_colour 23 = .ok (.iload_n 1, 1) := by decide +kernel
theorem dX5_colour_24 : decode cX5_colour 24 = .ok (.iconst 2, 1) := by decide +kernel
theorem dX5_colour_25 : decode cX5_colour 25 = .ok (.irem, 1) := by decide +kernel
theorem dX5_colour_26 : decode cX5_colour 26 = .ok (.iconst 1, 1) := by decide +kernel
theorem dX5_colour_27 : decode cX5_colour 27 = .ok (.if_icmp .ne 7, 3) := by decide +kernel
theorem dX5_colour_30 : decode cX5_colour 30 = .ok (.iconst 2, 1) := by decide +kernel
theorem dX5_colour_31 : decode cX5_colour 31 = .ok (.goto 4, 3) := by decide +kernel
theorem dX5_colour_34 : decode cX5_colour 34 = .ok (.iconst 1, 1) := by decide +kernel
theorem dX5_colour_35 : decode cX5_colour 35 = .ok (.ireturn, 1) := by decide +kernel
theorem dX5_place_0 : decode cX5_place 0 = .ok (.sipush 768, 3) := by decide +kernel
theorem dX5_place_3 : decode cX5_place 3 = .ok (.iload_n 0, 1) := by decide +kernel
theorem dX5_place_4 : decode cX5_place 4 = .ok (.imul, 1) := by decide +kernel
theorem dX5_place_5 : decode cX5_place 5 = .ok (.iconst 3, 1) := by decide +kernel
theorem dX5_place_6 : decode cX5_place 6 = .ok (.bipush 16, 2) := by decide +kernel
theorem dX5_place_8 : decode cX5_place 8 = .ok (.iload_n 2, 1) := by decide +kernel
theorem dX5_place_9 : decode cX5_place 9 = .ok (.imul, 1) := by decide +kernel
theorem dX5_place_10 : decode cX5_place 10 = .ok (.iload_n 1, 1) := by decide +kernel
theorem dX5_place_11 : decode cX5_place 11 = .ok (.iadd, 1) := by decide +kernel
theorem dX5_place_12 : decode cX5_place 12 = .ok (.imul, 1) := by decide +kernel
theorem dX5_place_13 : decode cX5_place 13 = .ok (.iadd, 1) := by decide +kernel
theorem dX5_place_14 : decode cX5_place 14 = .ok (.iload_n 3, 1) := by decide +kernel
theorem dX5_place_15 : decode cX5_place 15 = .ok (.iadd, 1) := by decide +kernel
theorem dX5_place_16 : decode cX5_place 16 = .ok (.ireturn, 1) := by decide +kernel
theorem dX5_isPlace_0 : decode cX5_isPlace 0 = .ok (.iload_n 2, 1) := by decide +kernel
theorem dX5_isPlace_1 : decode cX5_isPlace 1 = .ok (.iconst 0, 1) := by decide +kernel
theorem dX5_isPlace_2 : decode cX5_isPlace 2 = .ok (.aload_n 0, 1) := by decide +kernel
theorem dX5_isPlace_3 : decode cX5_isPlace 3 = .ok (.getfield 36, 3) := by decide +kernel
theorem dX5_isPlace_6 : decode cX5_isPlace 6 = .ok (.iload_n 1, 1) := by decide +kernel
theorem dX5_isPlace_7 : decode cX5_isPlace 7 = .ok (.iaload, 1) := by decide +kernel
theorem dX5_isPlace_8 : decode cX5_isPlace 8 = .ok (.iconst 1, 1) := by decide +kernel
theorem dX5_isPlace_9 : decode cX5_isPlace 9 = .ok (.isub, 1) := by decide +kernel
theorem dX5_isPlace_10 : decode cX5_isPlace 10 = .ok (.invokestatic 60, 3) := by decide +kernel
theorem dX5_isPlace_13 : decode cX5_isPlace 13 = .ok (.ifCond .eq 23, 3) := by decide +kernel
theorem dX5_isPlace_16 : decode cX5_isPlace 16 = .ok (.iload_n 3, 1) := by decide +kernel
theorem dX5_isPlace_17 : decode cX5_isPlace 17 = .ok (.iconst 0, 1) := by decide +kernel
theorem dX5_isPlace_18 : decode cX5_isPlace 18 = .ok (.aload_n 0, 1) := by decide +kernel
theorem dX5_isPlace_19 : decode cX5_isPlace 19 = .ok (.getfield 39, 3) := by decide +kernel
theorem dX5_isPlace_22 : decode cX5_isPlace 22 = .ok (.iload_n 1, 1) := by decide +kernel
theorem dX5_isPlace_23 : decode cX5_isPlace 23 = .ok (.iaload, 1) := by decide +kernel
theorem dX5_isPlace_24 : decode cX5_isPlace 24 = .ok (.iconst 1, 1) := by decide +kernel
theorem dX5_isPlace_25 : decode cX5_isPlace 25 = .ok (.isub, 1) := by decide +kernel
theorem dX5_isPlace_26 : decode cX5_isPlace 26 = .ok (.invokestatic 60, 3) := by decide +kernel
theorem dX5_isPlace_29 : decode cX5_isPlace 29 = .ok (.ifCond .eq 7, 3) := by decide +kernel
theorem dX5_isPlace_32 : decode cX5_isPlace 32 = .ok (.iconst 1, 1) := by decide +kernel
theorem dX5_isPlace_33 : decode cX5_isPlace 33 = .ok (.goto 4, 3) := by decide +kernel
theorem dX5_isPlace_36 : decode cX5_isPlace 36 = .ok (.iconst 0, 1) := by decide +kernel
theorem dX5_isPlace_37 : decode cX5_isPlace 37 = .ok (.ireturn, 1) := by decide +kernel
theorem dX5_overX_0 : decode cX5_overX 0 = .ok (.iload_n 0, 1) := by decide +kernel
theorem dX5_overX_1 : decode cX5_overX 1 = .ok (.ifCond .ne 8, 3) := by decide +kernel
theorem dX5_overX_4 : decode cX5_overX 4 = .ok (.bipush (-2), 2) := by decide +kernel
theorem dX5_overX_6 : decode cX5_overX 6 = .ok (.goto 13, 3) := by decide +kernel
theorem dX5_overX_9 : decode cX5_overX 9 = .ok (.iload_n 0, 1) := by decide +kernel
theorem dX5_overX_10 : decode cX5_overX 10 = .ok (.iconst 1, 1) := by decide +kernel
theorem dX5_overX_11 : decode cX5_overX 11 = .ok (.if_icmp .ne 7, 3) := by decide +kernel
theorem dX5_overX_14 : decode cX5_overX 14 = .ok (.iconst 2, 1) := by decide +kernel
theorem dX5_overX_15 : decode cX5_overX 15 = .ok (.goto 4, 3) := by decide +kernel
theorem dX5_overX_18 : decode cX5_overX 18 = .ok (.iconst 0, 1) := by decide +kernel
theorem dX5_overX_19 : decode cX5_overX 19 = .ok (.ireturn, 1) := by decide +kernel
theorem dX5_overY_0 : decode cX5_overY 0 = .ok (.iload_n 0, 1) := by decide +kernel
theorem dX5_overY_1 : decode cX5_overY 1 = .ok (.iconst 2, 1) := by decide +kernel
theorem dX5_overY_2 : decode cX5_overY 2 = .ok (.if_icmp .ne 8, 3) := by decide +kernel
theorem dX5_overY_5 : decode cX5_overY 5 = .ok (.bipush (-2), 2) := by decide +kernel
theorem dX5_overY_7 : decode cX5_overY 7 = .ok (.goto 13, 3) := by decide +kernel
theorem dX5_overY_10 : decode cX5_overY 10 = .ok (.iload_n 0, 1) := by decide +kernel
theorem dX5_overY_11 : decode cX5_overY 11 = .ok (.iconst 3, 1) := by decide +kernel
theorem dX5_overY_12 : decode cX5_overY 12 = .ok (.if_icmp .ne 7, 3) := by decide +kernel
theorem dX5_overY_15 : decode cX5_overY 15 = .ok (.iconst 2, 1) := by decide +kernel
theorem dX5_overY_16 : decode cX5_overY 16 = .ok (.goto 4, 3) := by decide +kernel
theorem dX5_overY_19 : decode cX5_overY 19 = .ok (.iconst 0, 1) := by decide +kernel
theorem dX5_overY_20 : decode cX5_overY 20 = .ok (.ireturn, 1) := by decide +kernel
theorem dX5_mended_0 : decode cX5_mended 0 = .ok (.aload_n 0, 1) := by decide +kernel
theorem dX5_mended_1 : decode cX5_mended 1 = .ok (.getfield 51, 3) := by decide +kernel
theorem dX5_mended_4 : decode cX5_mended 4 = .ok (.iload_n 1, 1) := by decide +kernel
theorem dX5_mended_5 : decode cX5_mended 5 = .ok (.iload_n 2, 1) := by decide +kernel
theorem dX5_mended_6 : decode cX5_mended 6 = .ok (.iload_n 3, 1) := by decide +kernel
theorem dX5_mended_7 : decode cX5_mended 7 = .ok (.iconst 0, 1) := by decide +kernel
theorem dX5_mended_8 : decode cX5_mended 8 = .ok (.invokestatic 85, 3) := by decide +kernel
theorem dX5_mended_11 : decode cX5_mended 11 = .ok (.iaload, 1) := by decide +kernel
theorem dX5_mended_12 : decode cX5_mended 12 = .ok (.istore 4, 2) := by decide +kernel
theorem dX5_mended_14 : decode cX5_mended 14 = .ok (.aload_n 0, 1) := by decide +kernel
theorem dX5_mended_15 : decode cX5_mended 15 = .ok (.getfield 20, 3) := by decide +kernel
theorem dX5_mended_18 : decode cX5_mended 18 = .ok (.bipush 16, 2) := by decide +kernel
theorem dX5_mended_20 : decode cX5_mended 20 = .ok (.iload_n 3, 1) := by decide +kernel
theorem dX5_mended_21 : decode cX5_mended 21 = .ok (.imul, 1) := by decide +kernel
theorem dX5_mended_22 : decode cX5_mended 22 = .ok (.iload_n 2, 1) := by decide +kernel
theorem dX5_mended_23 : decode cX5_mended 23 = .ok (.iadd, 1) := by decide +kernel
theorem dX5_mended_24 : decode cX5_mended 24 = .ok (.baload, 1) := by decide +kernel
theorem dX5_mended_25 : decode cX5_mended 25 = .ok (.ifCond .ne 6, 3) := by decide +kernel
theorem dX5_mended_28 : decode cX5_mended 28 = .ok (.iload 4, 2) := by decide +kernel
theorem dX5_mended_30 : decode cX5_mended 30 = .ok (.ireturn, 1) := by decide +kernel
theorem dX5_mended_31 : decode cX5_mended 31 = .ok (.iconst 0, 1) := by decide +kernel
theorem dX5_mended_32 : decode cX5_mended 32 = .ok (.istore 5, 2) := by decide +kernel
theorem dX5_mended_34 : decode cX5_mended 34 = .ok (.iconst 0, 1) := by decide +kernel
theorem dX5_mended_35 : decode cX5_mended 35 = .ok (.istore 6, 2) := by decide +kernel
theorem dX5_mended_37 : decode cX5_mended 37 = .ok (.iconst 0, 1) := by decide +kernel
theorem dX5_mended_38 : decode cX5_mended 38 = .ok (.istore 7, 2) := by decide +kernel
theorem dX5_mended_40 : decode cX5_mended 40 = .ok (.iload 7, 2) := by decide +kernel
theorem dX5_mended_42 : decode cX5_mended 42 = .ok (.iconst 4, 1) := by decide +kernel
theorem dX5_mended_43 : decode cX5_mended 43 = .ok (.if_icmp .ge 77, 3) := by decide +kernel
theorem dX5_mended_46 : decode cX5_mended 46 = .ok (.iload_n 2, 1) := by decide +kernel
theorem dX5_mended_47 : decode cX5_mended 47 = .ok (.iload 7, 2) := by decide +kernel
theorem dX5_mended_49 : decode cX5_mended 49 = .ok (.invokestatic 89, 3) := by decide +kernel
theorem dX5_mended_52 : decode cX5_mended 52 = .ok (.iadd, 1) := by decide +kernel
theorem dX5_mended_53 : decode cX5_mended 53 = .ok (.istore 8, 2) := by decide +kernel
theorem dX5_mended_55 : decode cX5_mended 55 = .ok (.iload_n 3, 1) := by decide +kernel
theorem dX5_mended_56 : decode cX5_mended 56 = .ok (.iload 7, 2) := by decide +kernel
theorem dX5_mended_58 : decode cX5_mended 58 = .ok (.invokestatic 92, 3) := by decide +kernel
theorem dX5_mended_61 : decode cX5_mended 61 = .ok (.iadd, 1) := by decide +kernel
theorem dX5_mended_62 : decode cX5_mended 62 = .ok (.istore 9, 2) := by decide +kernel
theorem dX5_mended_64 : decode cX5_mended 64 = .ok (.aload_n 0, 1) := by decide +kernel
theorem dX5_mended_65 : decode cX5_mended 65 = .ok (.iload_n 1, 1) := by decide +kernel
theorem dX5_mended_66 : decode cX5_mended 66 = .ok (.iload 8, 2) := by decide +kernel
theorem dX5_mended_68 : decode cX5_mended 68 = .ok (.iload 9, 2) := by decide +kernel
theorem dX5_mended_70 : decode cX5_mended 70 = .ok (.invokevirtual 95, 3) := by decide +kernel
theorem dX5_mended_73 : decode cX5_mended 73 = .ok (.ifCond .eq 41, 3) := by decide +kernel
theorem dX5_mended_76 : decode cX5_mended 76 = .ok (.aload_n 0, 1) := by decide +kernel
theorem dX5_mended_77 : decode cX5_mended 77 = .ok (.getfield 20, 3) := by decide +kernel
theorem dX5_mended_80 : decode cX5_mended 80 = .ok (.bipush 16, 2) := by decide +kernel
theorem dX5_mended_82 : decode cX5_mended 82 = .ok (.iload 9, 2) := by decide +kernel
theorem dX5_mended_84 : decode cX5_mended 84 = .ok (.imul, 1) := by decide +kernel
theorem dX5_mended_85 : decode cX5_mended 85 = .ok (.iload 8, 2) := by decide +kernel
theorem dX5_mended_87 : decode cX5_mended 87 = .ok (.iadd, 1) := by decide +kernel
theorem dX5_mended_88 : decode cX5_mended 88 = .ok (.baload, 1) := by decide +kernel
theorem dX5_mended_89 : decode cX5_mended 89 = .ok (.ifCond .ne 25, 3) := by decide +kernel
theorem dX5_mended_92 : decode cX5_mended 92 = .ok (.iload 5, 2) := by decide +kernel
theorem dX5_mended_94 : decode cX5_mended 94 = .ok (.aload_n 0, 1) := by decide +kernel
theorem dX5_mended_95 : decode cX5_mended 95 = .ok (.getfield 51, 3) := by decide +kernel
theorem dX5_mended_98 : decode cX5_mended 98 = .ok (.iload_n 1, 1) := by decide +kernel
theorem dX5_mended_99 : decode cX5_mended 99 = .ok (.iload 8, 2) := by decide +kernel
theorem dX5_mended_101 : decode cX5_mended 101 = .ok (.iload 9, 2) := by decide +kernel
theorem dX5_mended_103 : decode cX5_mended 103 = .ok (.iconst 0, 1) := by decide +kernel
theorem dX5_mended_104 : decode cX5_mended 104 = .ok (.invokestatic 85, 3) := by decide +kernel
theorem dX5_mended_107 : decode cX5_mended 107 = .ok (.iaload, 1) := by decide +kernel
theorem dX5_mended_108 : decode cX5_mended 108 = .ok (.iadd, 1) := by decide +kernel
theorem dX5_mended_109 : decode cX5_mended 109 = .ok (.istore 5, 2) := by decide +kernel
theorem dX5_mended_111 : decode cX5_mended 111 = .ok (.iinc 6 1, 3) := by decide +kernel
theorem dX5_mended_114 : decode cX5_mended 114 = .ok (.iinc 7 1, 3) := by decide +kernel
theorem dX5_mended_117 : decode cX5_mended 117 = .ok (.goto (-77), 3) := by decide +kernel
theorem dX5_mended_120 : decode cX5_mended 120 = .ok (.iload 6, 2) := by decide +kernel
theorem dX5_mended_122 : decode cX5_mended 122 = .ok (.ifCond .ne 8, 3) := by decide +kernel
theorem dX5_mended_125 : decode cX5_mended 125 = .ok (.iload 4, 2) := by decide +kernel
theorem dX5_mended_127 : decode cX5_mended 127 = .ok (.goto 8, 3) := by decide +kernel
theorem dX5_mended_130 : decode cX5_mended 130 = .ok (.iload 5, 2) := by decide +kernel
theorem dX5_mended_132 : decode cX5_mended 132 = .ok (.iload 6, 2) := by decide +kernel
theorem dX5_mended_134 : decode cX5_mended 134 = .ok (.idiv, 1) := by decide +kernel
theorem dX5_mended_135 : decode cX5_mended 135 = .ok (.ireturn, 1) := by decide +kernel
theorem dX5_middle_0 : decode cX5_middle 0 = .ok (.aload_n 0, 1) := by decide +kernel
theorem dX5_middle_1 : decode cX5_middle 1 = .ok (.getfield 51, 3) := by decide +kernel
theorem dX5_middle_4 : decode cX5_middle 4 = .ok (.iload_n 1, 1) := by decide +kernel
theorem dX5_middle_5 : decode cX5_middle 5 = .ok (.iload_n 2, 1) := by decide +kernel
theorem dX5_middle_6 : decode cX5_middle 6 = .ok (.iload_n 3, 1) := by decide +kernel
theorem dX5_middle_7 : decode cX5_middle 7 = .ok (.iconst 0, 1) := by decide +kernel
theorem dX5_middle_8 : decode cX5_middle 8 = .ok (.invokestatic 85, 3) := by decide +kernel
theorem dX5_middle_11 : decode cX5_middle 11 = .ok (.iaload, 1) := by decide +kernel
theorem dX5_middle_12 : decode cX5_middle 12 = .ok (.istore 4, 2) := by decide +kernel
theorem dX5_middle_14 : decode cX5_middle 14 = .ok (.aload_n 0, 1) := by decide +kernel
theorem dX5_middle_15 : decode cX5_middle 15 = .ok (.getfield 57, 3) := by decide +kernel
theorem dX5_middle_18 : decode cX5_middle 18 = .ok (.iconst 4, 1) := by decide +kernel
theorem dX5_middle_19 : decode cX5_middle 19 = .ok (.iload 4, 2) := by decide +kernel
theorem dX5_middle_21 : decode cX5_middle 21 = .ok (.iastore, 1) := by decide +kernel
theorem dX5_middle_22 : decode cX5_middle 22 = .ok (.iconst 0, 1) := by decide +kernel
theorem dX5_middle_23 : decode cX5_middle 23 = .ok (.istore 5, 2) := by decide +kernel
theorem dX5_middle_25 : decode cX5_middle 25 = .ok (.iload 5, 2) := by decide +kernel
theorem dX5_middle_27 : decode cX5_middle 27 = .ok (.iconst 4, 1) := by decide +kernel
theorem dX5_middle_28 : decode cX5_middle 28 = .ok (.if_icmp .ge 65, 3) := by decide +kernel
theorem dX5_middle_31 : decode cX5_middle 31 = .ok (.iload_n 2, 1) := by decide +kernel
theorem dX5_middle_32 : decode cX5_middle 32 = .ok (.iload 5, 2) := by decide +kernel
theorem dX5_middle_34 : decode cX5_middle 34 = .ok (.invokestatic 89, 3) := by decide +kernel
theorem dX5_middle_37 : decode cX5_middle 37 = .ok (.iadd, 1) := by decide +kernel
theorem dX5_middle_38 : decode cX5_middle 38 = .ok (.istore 6, 2) := by decide +kernel
theorem dX5_middle_40 : decode cX5_middle 40 = .ok (.iload_n 3, 1) := by decide +kernel
theorem dX5_middle_41 : decode cX5_middle 41 = .ok (.iload 5, 2) := by decide +kernel
theorem dX5_middle_43 : decode cX5_middle 43 = .ok (.invokestatic 92, 3) := by decide +kernel
theorem dX5_middle_46 : decode cX5_middle 46 = .ok (.iadd, 1) := by decide +kernel
theorem dX5_middle_47 : decode cX5_middle 47 = .ok (.istore 7, 2) := by decide +kernel
theorem dX5_middle_49 : decode cX5_middle 49 = .ok (.aload_n 0, 1) := by decide +kernel
theorem dX5_middle_50 : decode cX5_middle 50 = .ok (.getfield 57, 3) := by decide +kernel
theorem dX5_middle_53 : decode cX5_middle 53 = .ok (.iload 5, 2) := by decide +kernel
theorem dX5_middle_55 : decode cX5_middle 55 = .ok (.aload_n 0, 1) := by decide +kernel
theorem dX5_middle_56 : decode cX5_middle 56 = .ok (.iload_n 1, 1) := by decide +kernel
theorem dX5_middle_57 : decode cX5_middle 57 = .ok (.iload 6, 2) := by decide +kernel
theorem dX5_middle_59 : decode cX5_middle 59 = .ok (.iload 7, 2) := by decide +kernel
theorem dX5_middle_61 : decode cX5_middle 61 = .ok (.invokevirtual 95, 3) := by decide +kernel
theorem dX5_middle_64 : decode cX5_middle 64 = .ok (.ifCond .eq 20, 3) := by decide +kernel
theorem dX5_middle_67 : decode cX5_middle 67 = .ok (.aload_n 0, 1) := by decide +kernel
theorem dX5_middle_68 : decode cX5_middle 68 = .ok (.getfield 51, 3) := by decide +kernel
theorem dX5_middle_71 : decode cX5_middle 71 = .ok (.iload_n 1, 1) := by decide +kernel
theorem dX5_middle_72 : decode cX5_middle 72 = .ok (.iload 6, 2) := by decide +kernel
theorem dX5_middle_74 : decode cX5_middle 74 = .ok (.iload 7, 2) := by decide +kernel
theorem dX5_middle_76 : decode cX5_middle 76 = .ok (.iconst 0, 1) := by decide +kernel
theorem dX5_middle_77 : decode cX5_middle 77 = .ok (.invokestatic 85, 3) := by decide +kernel
theorem dX5_middle_80 : decode cX5_middle 80 = .ok (.iaload, 1) := by decide +kernel
theorem dX5_middle_81 : decode cX5_middle 81 = .ok (.goto 5, 3) := by decide +kernel
theorem dX5_middle_84 : decode cX5_middle 84 = .ok (.iload 4, 2) := by decide +kernel
theorem dX5_middle_86 : decode cX5_middle 86 = .ok (.iastore, 1) := by decide +kernel
theorem dX5_middle_87 : decode cX5_middle 87 = .ok (.iinc 5 1, 3) := by decide +kernel
theorem dX5_middle_90 : decode cX5_middle 90 = .ok (.goto (-65), 3) := by decide +kernel
theorem dX5_middle_93 : decode cX5_middle 93 = .ok (.iconst 1, 1) := by decide +kernel
theorem dX5_middle_94 : decode cX5_middle 94 = .ok (.istore 5, 2) := by decide +kernel
theorem dX5_middle_96 : decode cX5_middle 96 = .ok (.iload 5, 2) := by decide +kernel
theorem dX5_middle_98 : decode cX5_middle 98 = .ok (.iconst 5, 1) := by decide +kernel
theorem dX5_middle_99 : decode cX5_middle 99 = .ok (.if_icmp .ge 72, 3) := by decide +kernel
theorem dX5_middle_102 : decode cX5_middle 102 = .ok (.aload_n 0, 1) := by decide +kernel
theorem dX5_middle_103 : decode cX5_middle 103 = .ok (.getfield 57, 3) := by decide +kernel
theorem dX5_middle_106 : decode cX5_middle 106 = .ok (.iload 5, 2) := by decide +kernel
theorem dX5_middle_108 : decode cX5_middle 108 = .ok (.iaload, 1) := by decide +kernel
theorem dX5_middle_109 : decode cX5_middle 109 = .ok (.istore 6, 2) := by decide +kernel
theorem dX5_middle_111 : decode cX5_middle 111 = .ok (.iload 5, 2) := by decide +kernel
theorem dX5_middle_113 : decode cX5_middle 113 = .ok (.istore 7, 2) := by decide +kernel
theorem dX5_middle_115 : decode cX5_middle 115 = .ok (.iload 7, 2) := by decide +kernel
theorem dX5_middle_117 : decode cX5_middle 117 = .ok (.ifCond .le 39, 3) := by decide +kernel
theorem dX5_middle_120 : decode cX5_middle 120 = .ok (.aload_n 0, 1) := by decide +kernel
theorem dX5_middle_121 : decode cX5_middle 121 = .ok (.getfield 57, 3) := by decide +kernel
theorem dX5_middle_124 : decode cX5_middle 124 = .ok (.iload 7, 2) := by decide +kernel
theorem dX5_middle_126 : decode cX5_middle 126 = .ok (.iconst 1, 1) := by decide +kernel
theorem dX5_middle_127 : decode cX5_middle 127 = .ok (.isub, 1) := by decide +kernel
theorem dX5_middle_128 : decode cX5_middle 128 = .ok (.iaload, 1) := by decide +kernel
theorem dX5_middle_129 : decode cX5_middle 129 = .ok (.iload 6, 2) := by decide +kernel
theorem dX5_middle_131 : decode cX5_middle 131 = .ok (.if_icmp .le 25, 3) := by decide +kernel
theorem dX5_middle_134 : decode cX5_middle 134 = .ok (.aload_n 0, 1) := by decide +kernel
theorem dX5_middle_135 : decode cX5_middle 135 = .ok (.getfield 57, 3) := by decide +kernel
theorem dX5_middle_138 : decode cX5_middle 138 = .ok (.iload 7, 2) := by decide +kernel
theorem dX5_middle_140 : decode cX5_middle 140 = .ok (.aload_n 0, 1) := by decide +kernel
theorem dX5_middle_141 : decode cX5_middle 141 = .ok (.getfield 57, 3) := by decide +kernel
theorem dX5_middle_144 : decode cX5_middle 144 = .ok (.iload 7, 2) := by decide +kernel
theorem dX5_middle_146 : decode cX5_middle 146 = .ok (.iconst 1, 1) := by decide +kernel
theorem dX5_middle_147 : decode cX5_middle 147 = .ok (.isub, 1) := by decide +kernel
theorem dX5_middle_148 : decode cX5_middle 148 = .ok (.iaload, 1) := by decide +kernel
theorem dX5_middle_149 : decode cX5_middle 149 = .ok (.iastore, 1) := by decide +kernel
theorem dX5_middle_150 : decode cX5_middle 150 = .ok (.iinc 7 (-1), 3) := by decide +kernel
theorem dX5_middle_153 : decode cX5_middle 153 = .ok (.goto (-38), 3) := by decide +kernel
theorem dX5_middle_156 : decode cX5_middle 156 = .ok (.aload_n 0, 1) := by decide +kernel
theorem dX5_middle_157 : decode cX5_middle 157 = .ok (.getfield 57, 3) := by decide +kernel
theorem dX5_middle_160 : decode cX5_middle 160 = .ok (.iload 7, 2) := by decide +kernel
theorem dX5_middle_162 : decode cX5_middle 162 = .ok (.iload 6, 2) := by decide +kernel
theorem dX5_middle_164 : decode cX5_middle 164 = .ok (.iastore, 1) := by decide +kernel
theorem dX5_middle_165 : decode cX5_middle 165 = .ok (.iinc 5 1, 3) := by decide +kernel
theorem dX5_middle_168 : decode cX5_middle 168 = .ok (.goto (-72), 3) := by decide +kernel
theorem dX5_middle_171 : decode cX5_middle 171 = .ok (.aload_n 0, 1) := by decide +kernel
theorem dX5_middle_172 : decode cX5_middle 172 = .ok (.getfield 57, 3) := by decide +kernel
theorem dX5_middle_175 : decode cX5_middle 175 = .ok (.iconst 2, 1) := by decide +kernel
theorem dX5_middle_176 : decode cX5_middle 176 = .ok (.iaload, 1) := by decide +kernel
theorem dX5_middle_177 : decode cX5_middle 177 = .ok (.ireturn, 1) := by decide +kernel
theorem dX5_coloured_0 : decode cX5_coloured 0 = .ok (.iload_n 2, 1) := by decide +kernel
theorem dX5_coloured_1 : decode cX5_coloured 1 = .ok (.iload_n 3, 1) := by decide +kernel
theorem dX5_coloured_2 : decode cX5_coloured 2 = .ok (.invokestatic 98, 3) := by decide +kernel
theorem dX5_coloured_5 : decode cX5_coloured 5 = .ok (.iload 4, 2) := by decide +kernel
theorem dX5_coloured_7 : decode cX5_coloured 7 = .ok (.if_icmp .ne 16, 3) := by decide +kernel
theorem dX5_coloured_10 : decode cX5_coloured 10 = .ok (.aload_n 0, 1) := by decide +kernel
theorem dX5_coloured_11 : decode cX5_coloured 11 = .ok (.getfield 51, 3) := by decide +kernel
theorem dX5_coloured_14 : decode cX5_coloured 14 = .ok (.iload_n 1, 1) := by decide +kernel
theorem dX5_coloured_15 : decode cX5_coloured 15 = .ok (.iload_n 2, 1) := by decide +kernel
theorem dX5_coloured_16 : decode cX5_coloured 16 = .ok (.iload_n 3, 1) := by decide +kernel
theorem dX5_coloured_17 : decode cX5_coloured 17 = .ok (.iconst 0, 1) := by decide +kernel
theorem dX5_coloured_18 : decode cX5_coloured 18 = .ok (.invokestatic 85, 3) := by decide +kernel
theorem dX5_coloured_21 : decode cX5_coloured 21 = .ok (.iaload, 1) := by decide +kernel
theorem dX5_coloured_22 : decode cX5_coloured 22 = .ok (.ireturn, 1) := by decide +kernel
theorem dX5_coloured_23 : decode cX5_coloured 23 = .ok (.iconst 0, 1) := by decide +kernel
theorem dX5_coloured_24 : decode cX5_coloured 24 = .ok (.istore 5, 2) := by decide +kernel
theorem dX5_coloured_26 : decode cX5_coloured 26 = .ok (.iconst 0, 1) := by decide +kernel
theorem dX5_coloured_27 : decode cX5_coloured 27 = .ok (.istore 6, 2) := by decide +kernel
theorem dX5_coloured_29 : decode cX5_coloured 29 = .ok (.iload_n 3, 1) := by decide +kernel
theorem dX5_coloured_30 : decode cX5_coloured 30 = .ok (.iconst 1, 1) := by decide +kernel
theorem dX5_coloured_31 : decode cX5_coloured 31 = .ok (.isub, 1) := by decide +kernel
theorem dX5_coloured_32 : decode cX5_coloured 32 = .ok (.istore 7, 2) := by decide +kernel
theorem dX5_coloured_34 : decode cX5_coloured 34 = .ok (.iload 7, 2) := by decide +kernel
theorem dX5_coloured_36 : decode cX5_coloured 36 = .ok (.iload_n 3, 1) := by decide +kernel
theorem dX5_coloured_37 : decode cX5_coloured 37 = .ok (.iconst 1, 1) := by decide +kernel
theorem dX5_coloured_38 : decode cX5_coloured 38 = .ok (.iadd, 1) := by decide +kernel
theorem dX5_coloured_39 : decode cX5_coloured 39 = .ok (.if_icmp .gt 86, 3) := by decide +kernel
theorem dX5_coloured_42 : decode cX5_coloured 42 = .ok (.iload_n 2, 1) := by decide +kernel
theorem dX5_coloured_43 : decode cX5_coloured 43 = .ok (.iconst 1, 1) := by decide +kernel
theorem dX5_coloured_44 : decode cX5_coloured 44 = .ok (.isub, 1) := by decide +kernel
theorem dX5_coloured_45 : decode cX5_coloured 45 = .ok (.istore 8, 2) := by decide +kernel
theorem dX5_coloured_47 : decode cX5_coloured 47 = .ok (.iload 8, 2) := by decide +kernel
theorem dX5_coloured_49 : decode cX5_coloured 49 = .ok (.iload_n 2, 1) := by decide +kernel
theorem dX5_coloured_50 : decode cX5_coloured 50 = .ok (.iconst 1, 1) := by decide +kernel
theorem dX5_coloured_51 : decode cX5_coloured 51 = .ok (.iadd, 1) := by decide +kernel
theorem dX5_coloured_52 : decode cX5_coloured 52 = .ok (.if_icmp .gt 67, 3) := by decide +kernel
theorem dX5_coloured_55 : decode cX5_coloured 55 = .ok (.aload_n 0, 1) := by decide +kernel
theorem dX5_coloured_56 : decode cX5_coloured 56 = .ok (.iload_n 1, 1) := by decide +kernel
theorem dX5_coloured_57 : decode cX5_coloured 57 = .ok (.iload 8, 2) := by decide +kernel
theorem dX5_coloured_59 : decode cX5_coloured 59 = .ok (.iload 7, 2) := by decide +kernel
theorem dX5_coloured_61 : decode cX5_coloured 61 = .ok (.invokevirtual 95, 3) := by decide +kernel
theorem dX5_coloured_64 : decode cX5_coloured 64 = .ok (.ifCond .eq 49, 3) := by decide +kernel
theorem dX5_coloured_67 : decode cX5_coloured 67 = .ok (.iload 8, 2) := by decide +kernel
theorem dX5_coloured_69 : decode cX5_coloured 69 = .ok (.iload 7, 2) := by decide +kernel
theorem dX5_coloured_71 : decode cX5_coloured 71 = .ok (.invokestatic 98, 3) := by decide +kernel
theorem dX5_coloured_74 : decode cX5_coloured 74 = .ok (.iload 4, 2) := by decide +kernel
theorem dX5_coloured_76 : decode cX5_coloured 76 = .ok (.if_icmp .ne 37, 3) := by decide +kernel
theorem dX5_coloured_79 : decode cX5_coloured 79 = .ok (.iload 8, 2) := by decide +kernel
theorem dX5_coloured_81 : decode cX5_coloured 81 = .ok (.iload_n 2, 1) := by decide +kernel
theorem dX5_coloured_82 : decode cX5_coloured 82 = .ok (.if_icmp .ne 9, 3) := by decide +kernel
theorem dX5_coloured_85 : decode cX5_coloured 85 = .ok (.iload 7, 2) := by decide +kernel
theorem dX5_coloured_87 : decode cX5_coloured 87 = .ok (.iload_n 3, 1) := by decide +kernel
theorem dX5_coloured_88 : decode cX5_coloured 88 = .ok (.if_icmp .eq 25, 3) := by decide +kernel
theorem dX5_coloured_91 : decode cX5_coloured 91 = .ok (.iload 5, 2) := by decide +kernel
theorem dX5_coloured_93 : decode cX5_coloured 93 = .ok (.aload_n 0, 1) := by decide +kernel
theorem dX5_coloured_94 : decode cX5_coloured 94 = .ok (.getfield 51, 3) := by decide +kernel
theorem dX5_coloured_97 : decode cX5_coloured 97 = .ok (.iload_n 1, 1) := by decide +kernel
theorem dX5_coloured_98 : decode cX5_coloured 98 = .ok (.iload 8, 2) := by decide +kernel
theorem dX5_coloured_100 : decode cX5_coloured 100 = .ok (.iload 7, 2) := by decide +kernel
theorem dX5_coloured_102 : decode cX5_coloured 102 = .ok (.iconst 0, 1) := by decide +kernel
theorem dX5_coloured_103 : decode cX5_coloured 103 = .ok (.invokestatic 85, 3) := by decide +kernel
theorem dX5_coloured_106 : decode cX5_coloured 106 = .ok (.iaload, 1) := by decide +kernel
theorem dX5_coloured_107 : decode cX5_coloured 107 = .ok (.iadd, 1) := by decide +kernel
theorem dX5_coloured_108 : decode cX5_coloured 108 = .ok (.istore 5, 2) := by decide +kernel
theorem dX5_coloured_110 : decode cX5_coloured 110 = .ok (.iinc 6 1, 3) := by decide +kernel
theorem dX5_coloured_113 : decode cX5_coloured 113 = .ok (.iinc 8 1, 3) := by decide +kernel
theorem dX5_coloured_116 : decode cX5_coloured 116 = .ok (.goto (-69), 3) := by decide +kernel
theorem dX5_coloured_119 : decode cX5_coloured 119 = .ok (.iinc 7 1, 3) := by decide +kernel
theorem dX5_coloured_122 : decode cX5_coloured 122 = .ok (.goto (-88), 3) := by decide +kernel
theorem dX5_coloured_125 : decode cX5_coloured 125 = .ok (.iload 6, 2) := by decide +kernel
theorem dX5_coloured_127 : decode cX5_coloured 127 = .ok (.ifCond .ne 7, 3) := by decide +kernel
theorem dX5_coloured_130 : decode cX5_coloured 130 = .ok (.iconst 0, 1) := by decide +kernel
theorem dX5_coloured_131 : decode cX5_coloured 131 = .ok (.goto 8, 3) := by decide +kernel
theorem dX5_coloured_134 : decode cX5_coloured 134 = .ok (.iload 5, 2) := by decide +kernel
theorem dX5_coloured_136 : decode cX5_coloured 136 = .ok (.iload 6, 2) := by decide +kernel
theorem dX5_coloured_138 : decode cX5_coloured 138 = .ok (.idiv, 1) := by decide +kernel
theorem dX5_coloured_139 : decode cX5_coloured 139 = .ok (.ireturn, 1) := by decide +kernel
theorem dX5_matrixed_0 : decode cX5_matrixed 0 = .ok (.iconst 0, 1) := by decide +kernel
theorem dX5_matrixed_1 : decode cX5_matrixed 1 = .ok (.istore 5, 2) := by decide +kernel
theorem dX5_matrixed_3 : decode cX5_matrixed 3 = .ok (.iconst 0, 1) := by decide +kernel
theorem dX5_matrixed_4 : decode cX5_matrixed 4 = .ok (.istore 6, 2) := by decide +kernel
theorem dX5_matrixed_6 : decode cX5_matrixed 6 = .ok (.iload 6, 2) := by decide +kernel
theorem dX5_matrixed_8 : decode cX5_matrixed 8 = .ok (.iconst 3, 1) := by decide +kernel
theorem dX5_matrixed_9 : decode cX5_matrixed 9 = .ok (.if_icmp .ge 45, 3) := by decide +kernel
theorem dX5_matrixed_12 : decode cX5_matrixed 12 = .ok (.iload 5, 2) := by decide +kernel
theorem dX5_matrixed_14 : decode cX5_matrixed 14 = .ok (.aload_n 0, 1) := by decide +kernel
theorem dX5_matrixed_15 : decode cX5_matrixed 15 = .ok (.getfield 27, 3) := by decide +kernel
theorem dX5_matrixed_18 : decode cX5_matrixed 18 = .ok (.bipush 17, 2) := by decide +kernel
theorem dX5_matrixed_20 : decode cX5_matrixed 20 = .ok (.iload_n 1, 1) := by decide +kernel
theorem dX5_matrixed_21 : decode cX5_matrixed 21 = .ok (.imul, 1) := by decide +kernel
theorem dX5_matrixed_22 : decode cX5_matrixed 22 = .ok (.iconst 3, 1) := by decide +kernel
theorem dX5_matrixed_23 : decode cX5_matrixed 23 = .ok (.iload 4, 2) := by decide +kernel
theorem dX5_matrixed_25 : decode cX5_matrixed 25 = .ok (.imul, 1) := by decide +kernel
theorem dX5_matrixed_26 : decode cX5_matrixed 26 = .ok (.iadd, 1) := by decide +kernel
theorem dX5_matrixed_27 : decode cX5_matrixed 27 = .ok (.iload 6, 2) := by decide +kernel
theorem dX5_matrixed_29 : decode cX5_matrixed 29 = .ok (.iadd, 1) := by decide +kernel
theorem dX5_matrixed_30 : decode cX5_matrixed 30 = .ok (.iaload, 1) := by decide +kernel
theorem dX5_matrixed_31 : decode cX5_matrixed 31 = .ok (.aload_n 0, 1) := by decide +kernel
theorem dX5_matrixed_32 : decode cX5_matrixed 32 = .ok (.getfield 51, 3) := by decide +kernel
theorem dX5_matrixed_35 : decode cX5_matrixed 35 = .ok (.iload_n 1, 1) := by decide +kernel
theorem dX5_matrixed_36 : decode cX5_matrixed 36 = .ok (.iload_n 2, 1) := by decide +kernel
theorem dX5_matrixed_37 : decode cX5_matrixed 37 = .ok (.iload_n 3, 1) := by decide +kernel
theorem dX5_matrixed_38 : decode cX5_matrixed 38 = .ok (.iload 6, 2) := by decide +kernel
theorem dX5_matrixed_40 : decode cX5_matrixed 40 = .ok (.invokestatic 85, 3) := by decide +kernel
theorem dX5_matrixed_43 : decode cX5_matrixed 43 = .ok (.iaload, 1) := by decide +kernel
theorem dX5_matrixed_44 : decode cX5_matrixed 44 = .ok (.imul, 1) := by decide +kernel
theorem dX5_matrixed_45 : decode cX5_matrixed 45 = .ok (.iadd, 1) := by decide +kernel
theorem dX5_matrixed_46 : decode cX5_matrixed 46 = .ok (.istore 5, 2) := by decide +kernel
theorem dX5_matrixed_48 : decode cX5_matrixed 48 = .ok (.iinc 6 1, 3) := by decide +kernel
theorem dX5_matrixed_51 : decode cX5_matrixed 51 = .ok (.goto (-45), 3) := by decide +kernel
theorem dX5_matrixed_54 : decode cX5_matrixed 54 = .ok (.iload 5, 2) := by decide +kernel
theorem dX5_matrixed_56 : decode cX5_matrixed 56 = .ok (.ifCond .ge 7, 3) := by decide +kernel
theorem dX5_matrixed_59 : decode cX5_matrixed 59 = .ok (.iconst 0, 1) := by decide +kernel
theorem dX5_matrixed_60 : decode cX5_matrixed 60 = .ok (.goto 9, 3) := by decide +kernel
theorem dX5_matrixed_63 : decode cX5_matrixed 63 = .ok (.iload 5, 2) := by decide +kernel
theorem dX5_matrixed_65 : decode cX5_matrixed 65 = .ok (.sipush 1000, 3) := by decide +kernel
theorem dX5_matrixed_68 : decode cX5_matrixed 68 = .ok (.idiv, 1) := by decide +kernel
theorem dX5_matrixed_69 : decode cX5_matrixed 69 = .ok (.ireturn, 1) := by decide +kernel
theorem dX5_curved_0 : decode cX5_curved 0 = .ok (.iload_n 2, 1) := by decide +kernel
theorem dX5_curved_1 : decode cX5_curved 1 = .ok (.sipush 256, 3) := by decide +kernel
theorem dX5_curved_4 : decode cX5_curved 4 = .ok (.idiv, 1) := by decide +kernel
theorem dX5_curved_5 : decode cX5_curved 5 = .ok (.istore_n 3, 1) := by decide +kernel
theorem dX5_curved_6 : decode cX5_curved 6 = .ok (.aload_n 0, 1) := by decide +kernel
theorem dX5_curved_7 : decode cX5_curved 7 = .ok (.getfield 27, 3) := by decide +kernel
theorem dX5_curved_10 : decode cX5_curved 10 = .ok (.bipush 17, 2) := by decide +kernel
theorem dX5_curved_12 : decode cX5_curved 12 = .ok (.iload_n 1, 1) := by decide +kernel
theorem dX5_curved_13 : decode cX5_curved 13 = .ok (.imul, 1) := by decide +kernel
theorem dX5_curved_14 : decode cX5_curved 14 = .ok (.iload_n 3, 1) := by decide +kernel
theorem dX5_curved_15 : decode cX5_curved 15 = .ok (.iadd, 1) := by decide +kernel
theorem dX5_curved_16 : decode cX5_curved 16 = .ok (.iaload, 1) := by decide +kernel
theorem dX5_curved_17 : decode cX5_curved 17 = .ok (.istore 4, 2) := by decide +kernel
theorem dX5_curved_19 : decode cX5_curved 19 = .ok (.iload 4, 2) := by decide +kernel
theorem dX5_curved_21 : decode cX5_curved 21 = .ok (.aload_n 0, 1) := by decide +kernel
theorem dX5_curved_22 : decode cX5_curved 22 = .ok (.getfield 27, 3) := by decide +kernel
theorem dX5_curved_25 : decode cX5_curved 25 = .ok (.bipush 17, 2) := by decide +kernel
theorem dX5_curved_27 : decode cX5_curved 27 = .ok (.iload_n 1, 1) := by decide +kernel
theorem dX5_curved_28 : decode cX5_curved 28 = .ok (.imul, 1) := by decide +kernel
theorem dX5_curved_29 : decode cX5_curved 29 = .ok (.iload_n 3, 1) := by decide +kernel
theorem dX5_curved_30 : decode cX5_curved 30 = .ok (.iadd, 1) := by decide +kernel
theorem dX5_curved_31 : decode cX5_curved 31 = .ok (.iconst 1, 1) := by decide +kernel
theorem dX5_curved_32 : decode cX5_curved 32 = .ok (.iadd, 1) := by decide +kernel
theorem dX5_curved_33 : decode cX5_curved 33 = .ok (.iaload, 1) := by decide +kernel
theorem dX5_curved_34 : decode cX5_curved 34 = .ok (.iload 4, 2) := by decide +kernel
theorem dX5_curved_36 : decode cX5_curved 36 = .ok (.isub, 1) := by decide +kernel
theorem dX5_curved_37 : decode cX5_curved 37 = .ok (.iload_n 2, 1) := by decide +kernel
theorem dX5_curved_38 : decode cX5_curved 38 = .ok (.sipush 256, 3) := by decide +kernel
theorem dX5_curved_41 : decode cX5_curved 41 = .ok (.irem, 1) := by decide +kernel
theorem dX5_curved_42 : decode cX5_curved 42 = .ok (.imul, 1) := by decide +kernel
theorem dX5_curved_43 : decode cX5_curved 43 = .ok (.sipush 256, 3) := by decide +kernel
theorem dX5_curved_46 : decode cX5_curved 46 = .ok (.idiv, 1) := by decide +kernel
theorem dX5_curved_47 : decode cX5_curved 47 = .ok (.iadd, 1) := by decide +kernel
theorem dX5_curved_48 : decode cX5_curved 48 = .ok (.ireturn, 1) := by decide +kernel
theorem dX5_halved_0 : decode cX5_halved 0 = .ok (.iconst 0, 1) := by decide +kernel
theorem dX5_halved_1 : decode cX5_halved 1 = .ok (.istore 5, 2) := by decide +kernel
theorem dX5_halved_3 : decode cX5_halved 3 = .ok (.iconst 0, 1) := by decide +kernel
theorem dX5_halved_4 : decode cX5_halved 4 = .ok (.istore 6, 2) := by decide +kernel
theorem dX5_halved_6 : decode cX5_halved 6 = .ok (.iload 6, 2) := by decide +kernel
theorem dX5_halved_8 : decode cX5_halved 8 = .ok (.iconst 4, 1) := by decide +kernel
theorem dX5_halved_9 : decode cX5_halved 9 = .ok (.if_icmp .ge 41, 3) := by decide +kernel
theorem dX5_halved_12 : decode cX5_halved 12 = .ok (.iload 5, 2) := by decide +kernel
theorem dX5_halved_14 : decode cX5_halved 14 = .ok (.aload_n 0, 1) := by decide +kernel
theorem dX5_halved_15 : decode cX5_halved 15 = .ok (.getfield 51, 3) := by decide +kernel
theorem dX5_halved_18 : decode cX5_halved 18 = .ok (.iload_n 1, 1) := by decide +kernel
theorem dX5_halved_19 : decode cX5_halved 19 = .ok (.iconst 2, 1) := by decide +kernel
theorem dX5_halved_20 : decode cX5_halved 20 = .ok (.iload_n 2, 1) := by decide +kernel
theorem dX5_halved_21 : decode cX5_halved 21 = .ok (.imul, 1) := by decide +kernel
theorem dX5_halved_22 : decode cX5_halved 22 = .ok (.iload 6, 2) := by decide +kernel
theorem dX5_halved_24 : decode cX5_halved 24 = .ok (.iconst 2, 1) := by decide +kernel
theorem dX5_halved_25 : decode cX5_halved 25 = .ok (.irem, 1) := by decide +kernel
theorem dX5_halved_26 : decode cX5_halved 26 = .ok (.iadd, 1) := by decide +kernel
theorem dX5_halved_27 : decode cX5_halved 27 = .ok (.iconst 2, 1) := by decide +kernel
theorem dX5_halved_28 : decode cX5_halved 28 = .ok (.iload_n 3, 1) := by decide +kernel
theorem dX5_halved_29 : decode cX5_halved 29 = .ok (.imul, 1) := by decide +kernel
theorem dX5_halved_30 : decode cX5_halved 30 = .ok (.iload 6, 2) := by decide +kernel
theorem dX5_halved_32 : decode cX5_halved 32 = .ok (.iconst 2, 1) := by decide +kernel
theorem dX5_halved_33 : decode cX5_halved 33 = .ok (.idiv, 1) := by decide +kernel
theorem dX5_halved_34 : decode cX5_halved 34 = .ok (.iadd, 1) := by decide +kernel
theorem dX5_halved_35 : decode cX5_halved 35 = .ok (.iload 4, 2) := by decide +kernel
theorem dX5_halved_37 : decode cX5_halved 37 = .ok (.invokestatic 85, 3) := by decide +kernel
theorem dX5_halved_40 : decode cX5_halved 40 = .ok (.iaload, 1) := by decide +kernel
theorem dX5_halved_41 : decode cX5_halved 41 = .ok (.iadd, 1) := by decide +kernel
theorem dX5_halved_42 : decode cX5_halved 42 = .ok (.istore 5, 2) := by decide +kernel
theorem dX5_halved_44 : decode cX5_halved 44 = .ok (.iinc 6 1, 3) := by decide +kernel
theorem dX5_halved_47 : decode cX5_halved 47 = .ok (.goto (-41), 3) := by decide +kernel
theorem dX5_halved_50 : decode cX5_halved 50 = .ok (.iload 5, 2) := by decide +kernel
theorem dX5_halved_52 : decode cX5_halved 52 = .ok (.iconst 4, 1) := by decide +kernel
theorem dX5_halved_53 : decode cX5_halved 53 = .ok (.idiv, 1) := by decide +kernel
theorem dX5_halved_54 : decode cX5_halved 54 = .ok (.ireturn, 1) := by decide +kernel
theorem dX5_made_0 : decode cX5_made 0 = .ok (.aload_n 0, 1) := by decide +kernel
theorem dX5_made_1 : decode cX5_made 1 = .ok (.getfield 24, 3) := by decide +kernel
theorem dX5_made_4 : decode cX5_made 4 = .ok (.iload_n 1, 1) := by decide +kernel
theorem dX5_made_5 : decode cX5_made 5 = .ok (.iaload, 1) := by decide +kernel
theorem dX5_made_6 : decode cX5_made 6 = .ok (.bipush 7, 2) := by decide +kernel
theorem dX5_made_8 : decode cX5_made 8 = .ok (.if_icmp .eq 13, 3) := by decide +kernel
theorem dX5_made_11 : decode cX5_made 11 = .ok (.aload_n 0, 1) := by decide +kernel
theorem dX5_made_12 : decode cX5_made 12 = .ok (.getfield 24, 3) := by decide +kernel
theorem dX5_made_15 : decode cX5_made 15 = .ok (.iload_n 1, 1) := by decide +kernel
theorem dX5_made_16 : decode cX5_made 16 = .ok (.iaload, 1) := by decide +kernel
theorem dX5_made_17 : decode cX5_made 17 = .ok (.iconst 4, 1) := by decide +kernel
theorem dX5_made_18 : decode cX5_made 18 = .ok (.if_icmp .ne 7, 3) := by decide +kernel
theorem dX5_made_21 : decode cX5_made 21 = .ok (.iconst 0, 1) := by decide +kernel
theorem dX5_made_22 : decode cX5_made 22 = .ok (.goto 16, 3) := by decide +kernel
theorem dX5_made_25 : decode cX5_made 25 = .ok (.aload_n 0, 1) := by decide +kernel
theorem dX5_made_26 : decode cX5_made 26 = .ok (.getfield 51, 3) := by decide +kernel
theorem dX5_made_29 : decode cX5_made 29 = .ok (.iload_n 1, 1) := by decide +kernel
theorem dX5_made_30 : decode cX5_made 30 = .ok (.iload_n 2, 1) := by decide +kernel
theorem dX5_made_31 : decode cX5_made 31 = .ok (.iload_n 3, 1) := by decide +kernel
theorem dX5_made_32 : decode cX5_made 32 = .ok (.iload 4, 2) := by decide +kernel
theorem dX5_made_34 : decode cX5_made 34 = .ok (.invokestatic 85, 3) := by decide +kernel
theorem dX5_made_37 : decode cX5_made 37 = .ok (.iaload, 1) := by decide +kernel
theorem dX5_made_38 : decode cX5_made 38 = .ok (.istore 5, 2) := by decide +kernel
theorem dX5_made_40 : decode cX5_made 40 = .ok (.aload_n 0, 1) := by decide +kernel
theorem dX5_made_41 : decode cX5_made 41 = .ok (.getfield 24, 3) := by decide +kernel
theorem dX5_made_44 : decode cX5_made 44 = .ok (.iload_n 1, 1) := by decide +kernel
theorem dX5_made_45 : decode cX5_made 45 = .ok (.iaload, 1) := by decide +kernel
theorem dX5_made_46 : decode cX5_made 46 = .ok (.tableswitch 122 0 6 #[42, 55, 78, 86, 94, 104, 114], 42) := by decide +kernel
theorem dX5_made_88 : decode cX5_made 88 = .ok (.iload 5, 2) := by decide +kernel
theorem dX5_made_90 : decode cX5_made 90 = .ok (.aload_n 0, 1) := by decide +kernel
theorem dX5_made_91 : decode cX5_made 91 = .ok (.getfield 27, 3) := by decide +kernel
theorem dX5_made_94 : decode cX5_made 94 = .ok (.bipush 17, 2) := by decide +kernel
theorem dX5_made_96 : decode cX5_made 96 = .ok (.iload_n 1, 1) := by decide +kernel
theorem dX5_made_97 : decode cX5_made 97 = .ok (.imul, 1) := by decide +kernel
theorem dX5_made_98 : decode cX5_made 98 = .ok (.iaload, 1) := by decide +kernel
theorem dX5_made_99 : decode cX5_made 99 = .ok (.isub, 1) := by decide +kernel
theorem dX5_made_100 : decode cX5_made 100 = .ok (.ireturn, 1) := by decide +kernel
theorem dX5_made_101 : decode cX5_made 101 = .ok (.iload 5, 2) := by decide +kernel
theorem dX5_made_103 : decode cX5_made 103 = .ok (.aload_n 0, 1) := by decide +kernel
theorem dX5_made_104 : decode cX5_made 104 = .ok (.getfield 27, 3) := by decide +kernel
theorem dX5_made_107 : decode cX5_made 107 = .ok (.bipush 17, 2) := by decide +kernel
theorem dX5_made_109 : decode cX5_made 109 = .ok (.iload_n 1, 1) := by decide +kernel
theorem dX5_made_110 : decode cX5_made 110 = .ok (.imul, 1) := by decide +kernel
theorem dX5_made_111 : decode cX5_made 111 = .ok (.iload_n 2, 1) := by decide +kernel
theorem dX5_made_112 : decode cX5_made 112 = .ok (.iload_n 3, 1) := by decide +kernel
theorem dX5_made_113 : decode cX5_made 113 = .ok (.invokestatic 98, 3) := by decide +kernel
theorem dX5_made_116 : decode cX5_made 116 = .ok (.iadd, 1) := by decide +kernel
theorem dX5_made_117 : decode cX5_made 117 = .ok (.iaload, 1) := by decide +kernel
theorem dX5_made_118 : decode cX5_made 118 = .ok (.imul, 1) := by decide +kernel
theorem dX5_made_119 : decode cX5_made 119 = .ok (.sipush 1000, 3) := by decide +kernel
theorem dX5_made_122 : decode cX5_made 122 = .ok (.idiv, 1) := by decide +kernel
theorem dX5_made_123 : decode cX5_made 123 = .ok (.ireturn, 1) := by decide +kernel
theorem dX5_made_124 : decode cX5_made 124 = .ok (.aload_n 0, 1) := by decide +kernel
theorem dX5_made_125 : decode cX5_made 125 = .ok (.iload_n 1, 1) := by decide +kernel
theorem dX5_made_126 : decode cX5_made 126 = .ok (.iload_n 2, 1) := by decide +kernel
theorem dX5_made_127 : decode cX5_made 127 = .ok (.iload_n 3, 1) := by decide +kernel
theorem dX5_made_128 : decode cX5_made 128 = .ok (.invokevirtual 102, 3) := by decide +kernel
theorem dX5_made_131 : decode cX5_made 131 = .ok (.ireturn, 1) := by decide +kernel
theorem dX5_made_132 : decode cX5_made 132 = .ok (.aload_n 0, 1) := by decide +kernel
theorem dX5_made_133 : decode cX5_made 133 = .ok (.iload_n 1, 1) := by decide +kernel
theorem dX5_made_134 : decode cX5_made 134 = .ok (.iload_n 2, 1) := by decide +kernel
theorem dX5_made_135 : decode cX5_made 135 = .ok (.iload_n 3, 1) := by decide +kernel
theorem dX5_made_136 : decode cX5_made 136 = .ok (.invokevirtual 106, 3) := by decide +kernel
theorem dX5_made_139 : decode cX5_made 139 = .ok (.ireturn, 1) := by decide +kernel
theorem dX5_made_140 : decode cX5_made 140 = .ok (.aload_n 0, 1) := by decide +kernel
theorem dX5_made_141 : decode cX5_made 141 = .ok (.iload_n 1, 1) := by decide +kernel
theorem dX5_made_142 : decode cX5_made 142 = .ok (.iload_n 2, 1) := by decide +kernel
theorem dX5_made_143 : decode cX5_made 143 = .ok (.iload_n 3, 1) := by decide +kernel
theorem dX5_made_144 : decode cX5_made 144 = .ok (.iload 4, 2) := by decide +kernel
theorem dX5_made_146 : decode cX5_made 146 = .ok (.invokevirtual 109, 3) := by decide +kernel
theorem dX5_made_149 : decode cX5_made 149 = .ok (.ireturn, 1) := by decide +kernel
theorem dX5_made_150 : decode cX5_made 150 = .ok (.aload_n 0, 1) := by decide +kernel
theorem dX5_made_151 : decode cX5_made 151 = .ok (.iload_n 1, 1) := by decide +kernel
theorem dX5_made_152 : decode cX5_made 152 = .ok (.iload_n 2, 1) := by decide +kernel
theorem dX5_made_153 : decode cX5_made 153 = .ok (.iload_n 3, 1) := by decide +kernel
theorem dX5_made_154 : decode cX5_made 154 = .ok (.iload 4, 2) := by decide +kernel
theorem dX5_made_156 : decode cX5_made 156 = .ok (.invokevirtual 112, 3) := by decide +kernel
