theorem dX4_part_1 : decode cX4_part 1 = .ok (.getfield 19, 3) := by decide +kernel
theorem dX4_part_4 : decode cX4_part 4 = .ok (.getfield 90, 3) := by decide +kernel
theorem dX4_part_7 : decode cX4_part 7 = .ok (.istore 6, 2) := by decide +kernel
theorem dX4_part_9 : decode cX4_part 9 = .ok (.aload_n 0, 1) := by decide +kernel
theorem dX4_part_10 : decode cX4_part 10 = .ok (.getfield 19, 3) := by decide +kernel
theorem dX4_part_13 : decode cX4_part 13 = .ok (.iload 6, 2) := by decide +kernel
theorem dX4_part_15 : decode cX4_part 15 = .ok (.iload_n 1, 1) := by decide +kernel
theorem dX4_part_16 : decode cX4_part 16 = .ok (.iload_n 2, 1) := by decide +kernel
theorem dX4_part_17 : decode cX4_part 17 = .ok (.iload_n 3, 1) := by decide +kernel
theorem dX4_part_18 : decode cX4_part 18 = .ok (.iload 4, 2) := by decide +kernel
theorem dX4_part_20 : decode cX4_part 20 = .ok (.invokevirtual 105, 3) := by decide +kernel
theorem dX4_part_23 : decode cX4_part 23 = .ok (.ifCond .eq 17, 3) := by decide +kernel
theorem dX4_part_26 : decode cX4_part 26 = .ok (.aload_n 0, 1) := by decide +kernel
theorem dX4_part_27 : decode cX4_part 27 = .ok (.getfield 19, 3) := by decide +kernel
theorem dX4_part_30 : decode cX4_part 30 = .ok (.iload 6, 2) := by decide +kernel
theorem dX4_part_32 : decode cX4_part 32 = .ok (.iload 5, 2) := by decide +kernel
theorem dX4_part_34 : decode cX4_part 34 = .ok (.invokevirtual 109, 3) := by decide +kernel
theorem dX4_part_37 : decode cX4_part 37 = .ok (.ifCond .ne 6, 3) := by decide +kernel
theorem dX4_part_40 : decode cX4_part 40 = .ok (.bipush (-102), 2) := by decide +kernel
theorem dX4_part_42 : decode cX4_part 42 = .ok (.ireturn, 1) := by decide +kernel
theorem dX4_part_43 : decode cX4_part 43 = .ok (.aload_n 0, 1) := by decide +kernel
theorem dX4_part_44 : decode cX4_part 44 = .ok (.getfield 26, 3) := by decide +kernel
theorem dX4_part_47 : decode cX4_part 47 = .ok (.iload 6, 2) := by decide +kernel
theorem dX4_part_49 : decode cX4_part 49 = .ok (.invokevirtual 112, 3) := by decide +kernel
theorem dX4_part_52 : decode cX4_part 52 = .ok (.aload_n 0, 1) := by decide +kernel
theorem dX4_part_53 : decode cX4_part 53 = .ok (.getfield 26, 3) := by decide +kernel
theorem dX4_part_56 : decode cX4_part 56 = .ok (.iload_n 1, 1) := by decide +kernel
theorem dX4_part_57 : decode cX4_part 57 = .ok (.iload_n 2, 1) := by decide +kernel
theorem dX4_part_58 : decode cX4_part 58 = .ok (.iload_n 3, 1) := by decide +kernel
theorem dX4_part_59 : decode cX4_part 59 = .ok (.iload 4, 2) := by decide +kernel
theorem dX4_part_61 : decode cX4_part 61 = .ok (.iload 5, 2) := by decide +kernel
theorem dX4_part_63 : decode cX4_part 63 = .ok (.invokevirtual 116, 3) := by decide +kernel
theorem dX4_part_66 : decode cX4_part 66 = .ok (.aload_n 0, 1) := by decide +kernel
theorem dX4_part_67 : decode cX4_part 67 = .ok (.getfield 33, 3) := by decide +kernel
theorem dX4_part_70 : decode cX4_part 70 = .ok (.aload_n 0, 1) := by decide +kernel
theorem dX4_part_71 : decode cX4_part 71 = .ok (.getfield 12, 3) := by decide +kernel
theorem dX4_part_74 : decode cX4_part 74 = .ok (.aload_n 0, 1) := by decide +kernel
theorem dX4_part_75 : decode cX4_part 75 = .ok (.getfield 19, 3) := by decide +kernel
theorem dX4_part_78 : decode cX4_part 78 = .ok (.aload_n 0, 1) := by decide +kernel
theorem dX4_part_79 : decode cX4_part 79 = .ok (.getfield 26, 3) := by decide +kernel
theorem dX4_part_82 : decode cX4_part 82 = .ok (.invokevirtual 120, 3) := by decide +kernel
theorem dX4_part_85 : decode cX4_part 85 = .ok (.aload_n 0, 1) := by decide +kernel
theorem dX4_part_86 : decode cX4_part 86 = .ok (.getfield 33, 3) := by decide +kernel
theorem dX4_part_89 : decode cX4_part 89 = .ok (.iload_n 1, 1) := by decide +kernel
theorem dX4_part_90 : decode cX4_part 90 = .ok (.iload_n 2, 1) := by decide +kernel
theorem dX4_part_91 : decode cX4_part 91 = .ok (.iload_n 3, 1) := by decide +kernel
theorem dX4_part_92 : decode cX4_part 92 = .ok (.iload 4, 2) := by decide +kernel
theorem dX4_part_94 : decode cX4_part 94 = .ok (.iload 5, 2) := by decide +kernel
theorem dX4_part_96 : decode cX4_part 96 = .ok (.invokevirtual 128, 3) := by decide +kernel
theorem dX4_part_99 : decode cX4_part 99 = .ok (.ireturn, 1) := by decide +kernel
theorem dX4_needs_0 : decode cX4_needs 0 = .ok (.aload_n 0, 1) := by decide +kernel
theorem dX4_needs_1 : decode cX4_needs 1 = .ok (.getfield 19, 3) := by decide +kernel
theorem dX4_needs_4 : decode cX4_needs 4 = .ok (.getfield 90, 3) := by decide +kernel
theorem dX4_needs_7 : decode cX4_needs 7 = .ok (.istore 5, 2) := by decide +kernel
theorem dX4_needs_9 : decode cX4_needs 9 = .ok (.aload_n 0, 1) := by decide +kernel
theorem dX4_needs_10 : decode cX4_needs 10 = .ok (.getfield 19, 3) := by decide +kernel
theorem dX4_needs_13 : decode cX4_needs 13 = .ok (.iload 5, 2) := by decide +kernel
theorem dX4_needs_15 : decode cX4_needs 15 = .ok (.iload_n 1, 1) := by decide +kernel
theorem dX4_needs_16 : decode cX4_needs 16 = .ok (.iload_n 2, 1) := by decide +kernel
theorem dX4_needs_17 : decode cX4_needs 17 = .ok (.iload_n 3, 1) := by decide +kernel
theorem dX4_needs_18 : decode cX4_needs 18 = .ok (.iload 4, 2) := by decide +kernel
theorem dX4_needs_20 : decode cX4_needs 20 = .ok (.invokevirtual 105, 3) := by decide +kernel
theorem dX4_needs_23 : decode cX4_needs 23 = .ok (.ifCond .ne 6, 3) := by decide +kernel
theorem dX4_needs_26 : decode cX4_needs 26 = .ok (.bipush (-102), 2) := by decide +kernel
theorem dX4_needs_28 : decode cX4_needs 28 = .ok (.ireturn, 1) := by decide +kernel
theorem dX4_needs_29 : decode cX4_needs 29 = .ok (.aload_n 0, 1) := by decide +kernel
theorem dX4_needs_30 : decode cX4_needs 30 = .ok (.getfield 26, 3) := by decide +kernel
theorem dX4_needs_33 : decode cX4_needs 33 = .ok (.iload 5, 2) := by decide +kernel
theorem dX4_needs_35 : decode cX4_needs 35 = .ok (.invokevirtual 112, 3) := by decide +kernel
theorem dX4_needs_38 : decode cX4_needs 38 = .ok (.iconst 0, 1) := by decide +kernel
theorem dX4_needs_39 : decode cX4_needs 39 = .ok (.istore 6, 2) := by decide +kernel
theorem dX4_needs_41 : decode cX4_needs 41 = .ok (.iload 6, 2) := by decide +kernel
theorem dX4_needs_43 : decode cX4_needs 43 = .ok (.aload_n 0, 1) := by decide +kernel
theorem dX4_needs_44 : decode cX4_needs 44 = .ok (.getfield 19, 3) := by decide +kernel
theorem dX4_needs_47 : decode cX4_needs 47 = .ok (.getfield 101, 3) := by decide +kernel
theorem dX4_needs_50 : decode cX4_needs 50 = .ok (.iload 5, 2) := by decide +kernel
theorem dX4_needs_52 : decode cX4_needs 52 = .ok (.aaload, 1) := by decide +kernel
theorem dX4_needs_53 : decode cX4_needs 53 = .ok (.iconst 2, 1) := by decide +kernel
theorem dX4_needs_54 : decode cX4_needs 54 = .ok (.iaload, 1) := by decide +kernel
theorem dX4_needs_55 : decode cX4_needs 55 = .ok (.if_icmp .ge 23, 3) := by decide +kernel
theorem dX4_needs_58 : decode cX4_needs 58 = .ok (.aload_n 0, 1) := by decide +kernel
theorem dX4_needs_59 : decode cX4_needs 59 = .ok (.getfield 26, 3) := by decide +kernel
theorem dX4_needs_62 : decode cX4_needs 62 = .ok (.iload_n 1, 1) := by decide +kernel
theorem dX4_needs_63 : decode cX4_needs 63 = .ok (.iload_n 2, 1) := by decide +kernel
theorem dX4_needs_64 : decode cX4_needs 64 = .ok (.iload_n 3, 1) := by decide +kernel
theorem dX4_needs_65 : decode cX4_needs 65 = .ok (.iload 4, 2) := by decide +kernel
theorem dX4_needs_67 : decode cX4_needs 67 = .ok (.iload 6, 2) := by decide +kernel
theorem dX4_needs_69 : decode cX4_needs 69 = .ok (.invokevirtual 116, 3) := by decide +kernel
theorem dX4_needs_72 : decode cX4_needs 72 = .ok (.iinc 6 1, 3) := by decide +kernel
theorem dX4_needs_75 : decode cX4_needs 75 = .ok (.goto (-34), 3) := by decide +kernel
theorem dX4_needs_78 : decode cX4_needs 78 = .ok (.aload_n 0, 1) := by decide +kernel
theorem dX4_needs_79 : decode cX4_needs 79 = .ok (.getfield 26, 3) := by decide +kernel
theorem dX4_needs_82 : decode cX4_needs 82 = .ok (.aload_n 0, 1) := by decide +kernel
theorem dX4_needs_83 : decode cX4_needs 83 = .ok (.getfield 19, 3) := by decide +kernel
theorem dX4_needs_86 : decode cX4_needs 86 = .ok (.invokevirtual 132, 3) := by decide +kernel
theorem dX4_needs_89 : decode cX4_needs 89 = .ok (.aload_n 0, 1) := by decide +kernel
theorem dX4_needs_90 : decode cX4_needs 90 = .ok (.getfield 26, 3) := by decide +kernel
theorem dX4_needs_93 : decode cX4_needs 93 = .ok (.invokevirtual 136, 3) := by decide +kernel
theorem dX4_needs_96 : decode cX4_needs 96 = .ok (.ireturn, 1) := by decide +kernel
theorem dX4_counts_0 : decode cX4_counts 0 = .ok (.aload_n 0, 1) := by decide +kernel
theorem dX4_counts_1 : decode cX4_counts 1 = .ok (.getfield 19, 3) := by decide +kernel
theorem dX4_counts_4 : decode cX4_counts 4 = .ok (.getfield 90, 3) := by decide +kernel
theorem dX4_counts_7 : decode cX4_counts 7 = .ok (.istore 6, 2) := by decide +kernel
theorem dX4_counts_9 : decode cX4_counts 9 = .ok (.aload_n 0, 1) := by decide +kernel
theorem dX4_counts_10 : decode cX4_counts 10 = .ok (.getfield 12, 3) := by decide +kernel
theorem dX4_counts_13 : decode cX4_counts 13 = .ok (.iload_n 1, 1) := by decide +kernel
theorem dX4_counts_14 : decode cX4_counts 14 = .ok (.iload_n 2, 1) := by decide +kernel
theorem dX4_counts_15 : decode cX4_counts 15 = .ok (.invokevirtual 69, 3) := by decide +kernel
theorem dX4_counts_18 : decode cX4_counts 18 = .ok (.ifCond .ne 6, 3) := by decide +kernel
theorem dX4_counts_21 : decode cX4_counts 21 = .ok (.bipush (-101), 2) := by decide +kernel
theorem dX4_counts_23 : decode cX4_counts 23 = .ok (.ireturn, 1) := by decide +kernel
theorem dX4_counts_24 : decode cX4_counts 24 = .ok (.aload_n 0, 1) := by decide +kernel
theorem dX4_counts_25 : decode cX4_counts 25 = .ok (.getfield 19, 3) := by decide +kernel
theorem dX4_counts_28 : decode cX4_counts 28 = .ok (.iload 6, 2) := by decide +kernel
theorem dX4_counts_30 : decode cX4_counts 30 = .ok (.iload_n 3, 1) := by decide +kernel
theorem dX4_counts_31 : decode cX4_counts 31 = .ok (.iload 4, 2) := by decide +kernel
theorem dX4_counts_33 : decode cX4_counts 33 = .ok (.iconst 1, 1) := by decide +kernel
theorem dX4_counts_34 : decode cX4_counts 34 = .ok (.iconst 1, 1) := by decide +kernel
theorem dX4_counts_35 : decode cX4_counts 35 = .ok (.invokevirtual 105, 3) := by decide +kernel
theorem dX4_counts_38 : decode cX4_counts 38 = .ok (.ifCond .eq 17, 3) := by decide +kernel
theorem dX4_counts_41 : decode cX4_counts 41 = .ok (.aload_n 0, 1) := by decide +kernel
theorem dX4_counts_42 : decode cX4_counts 42 = .ok (.getfield 19, 3) := by decide +kernel
theorem dX4_counts_45 : decode cX4_counts 45 = .ok (.iload 6, 2) := by decide +kernel
theorem dX4_counts_47 : decode cX4_counts 47 = .ok (.iload 5, 2) := by decide +kernel
theorem dX4_counts_49 : decode cX4_counts 49 = .ok (.invokevirtual 109, 3) := by decide +kernel
theorem dX4_counts_52 : decode cX4_counts 52 = .ok (.ifCond .ne 6, 3) := by decide +kernel
theorem dX4_counts_55 : decode cX4_counts 55 = .ok (.bipush (-102), 2) := by decide +kernel
theorem dX4_counts_57 : decode cX4_counts 57 = .ok (.ireturn, 1) := by decide +kernel
theorem dX4_counts_58 : decode cX4_counts 58 = .ok (.aload_n 0, 1) := by decide +kernel
theorem dX4_counts_59 : decode cX4_counts 59 = .ok (.getfield 26, 3) := by decide +kernel
theorem dX4_counts_62 : decode cX4_counts 62 = .ok (.iload 6, 2) := by decide +kernel
theorem dX4_counts_64 : decode cX4_counts 64 = .ok (.invokevirtual 112, 3) := by decide +kernel
theorem dX4_counts_67 : decode cX4_counts 67 = .ok (.aload_n 0, 1) := by decide +kernel
theorem dX4_counts_68 : decode cX4_counts 68 = .ok (.getfield 26, 3) := by decide +kernel
theorem dX4_counts_71 : decode cX4_counts 71 = .ok (.iload_n 3, 1) := by decide +kernel
theorem dX4_counts_72 : decode cX4_counts 72 = .ok (.iload 4, 2) := by decide +kernel
theorem dX4_counts_74 : decode cX4_counts 74 = .ok (.iconst 1, 1) := by decide +kernel
theorem dX4_counts_75 : decode cX4_counts 75 = .ok (.iconst 1, 1) := by decide +kernel
theorem dX4_counts_76 : decode cX4_counts 76 = .ok (.iload 5, 2) := by decide +kernel
theorem dX4_counts_78 : decode cX4_counts 78 = .ok (.invokevirtual 116, 3) := by decide +kernel
theorem dX4_counts_81 : decode cX4_counts 81 = .ok (.aload_n 0, 1) := by decide +kernel
theorem dX4_counts_82 : decode cX4_counts 82 = .ok (.getfield 26, 3) := by decide +kernel
theorem dX4_counts_85 : decode cX4_counts 85 = .ok (.aload_n 0, 1) := by decide +kernel
theorem dX4_counts_86 : decode cX4_counts 86 = .ok (.getfield 19, 3) := by decide +kernel
theorem dX4_counts_89 : decode cX4_counts 89 = .ok (.invokevirtual 132, 3) := by decide +kernel
theorem dX4_counts_92 : decode cX4_counts 92 = .ok (.aload_n 0, 1) := by decide +kernel
theorem dX4_counts_93 : decode cX4_counts 93 = .ok (.getfield 26, 3) := by decide +kernel
theorem dX4_counts_96 : decode cX4_counts 96 = .ok (.iload_n 1, 1) := by decide +kernel
theorem dX4_counts_97 : decode cX4_counts 97 = .ok (.iload_n 2, 1) := by decide +kernel
theorem dX4_counts_98 : decode cX4_counts 98 = .ok (.invokevirtual 140, 3) := by decide +kernel
theorem dX4_counts_101 : decode cX4_counts 101 = .ok (.ifCond .eq 7, 3) := by decide +kernel
theorem dX4_counts_104 : decode cX4_counts 104 = .ok (.iconst 1, 1) := by decide +kernel
theorem dX4_counts_105 : decode cX4_counts 105 = .ok (.goto 4, 3) := by decide +kernel
theorem dX4_counts_108 : decode cX4_counts 108 = .ok (.iconst 0, 1) := by decide +kernel
theorem dX4_counts_109 : decode cX4_counts 109 = .ok (.ireturn, 1) := by decide +kernel
theorem dX4_bound_0 : decode cX4_bound 0 = .ok (.aload_n 0, 1) := by decide +kernel
theorem dX4_bound_1 : decode cX4_bound 1 = .ok (.getfield 19, 3) := by decide +kernel
theorem dX4_bound_4 : decode cX4_bound 4 = .ok (.getfield 90, 3) := by decide +kernel
theorem dX4_bound_7 : decode cX4_bound 7 = .ok (.istore_n 3, 1) := by decide +kernel
theorem dX4_bound_8 : decode cX4_bound 8 = .ok (.aload_n 0, 1) := by decide +kernel
theorem dX4_bound_9 : decode cX4_bound 9 = .ok (.getfield 19, 3) := by decide +kernel
theorem dX4_bound_12 : decode cX4_bound 12 = .ok (.iload_n 3, 1) := by decide +kernel
theorem dX4_bound_13 : decode cX4_bound 13 = .ok (.iload_n 1, 1) := by decide +kernel
theorem dX4_bound_14 : decode cX4_bound 14 = .ok (.invokevirtual 109, 3) := by decide +kernel
theorem dX4_bound_17 : decode cX4_bound 17 = .ok (.ifCond .eq 12, 3) := by decide +kernel
theorem dX4_bound_20 : decode cX4_bound 20 = .ok (.iload_n 2, 1) := by decide +kernel
theorem dX4_bound_21 : decode cX4_bound 21 = .ok (.iconst 0, 1) := by decide +kernel
theorem dX4_bound_22 : decode cX4_bound 22 = .ok (.iconst 1, 1) := by decide +kernel
theorem dX4_bound_23 : decode cX4_bound 23 = .ok (.invokestatic 65, 3) := by decide +kernel
theorem dX4_bound_26 : decode cX4_bound 26 = .ok (.ifCond .ne 6, 3) := by decide +kernel
theorem dX4_bound_29 : decode cX4_bound 29 = .ok (.bipush (-102), 2) := by decide +kernel
theorem dX4_bound_31 : decode cX4_bound 31 = .ok (.ireturn, 1) := by decide +kernel
theorem dX4_bound_32 : decode cX4_bound 32 = .ok (.aload_n 0, 1) := by decide +kernel
theorem dX4_bound_33 : decode cX4_bound 33 = .ok (.getfield 19, 3) := by decide +kernel
theorem dX4_bound_36 : decode cX4_bound 36 = .ok (.getfield 101, 3) := by decide +kernel
theorem dX4_bound_39 : decode cX4_bound 39 = .ok (.iload_n 3, 1) := by decide +kernel
theorem dX4_bound_40 : decode cX4_bound 40 = .ok (.aaload, 1) := by decide +kernel
theorem dX4_bound_41 : decode cX4_bound 41 = .ok (.iconst 0, 1) := by decide +kernel
theorem dX4_bound_42 : decode cX4_bound 42 = .ok (.iaload, 1) := by decide +kernel
theorem dX4_bound_43 : decode cX4_bound 43 = .ok (.istore 4, 2) := by decide +kernel
theorem dX4_bound_45 : decode cX4_bound 45 = .ok (.aload_n 0, 1) := by decide +kernel
theorem dX4_bound_46 : decode cX4_bound 46 = .ok (.getfield 19, 3) := by decide +kernel
theorem dX4_bound_49 : decode cX4_bound 49 = .ok (.getfield 101, 3) := by decide +kernel
theorem dX4_bound_52 : decode cX4_bound 52 = .ok (.iload_n 3, 1) := by decide +kernel
theorem dX4_bound_53 : decode cX4_bound 53 = .ok (.aaload, 1) := by decide +kernel
theorem dX4_bound_54 : decode cX4_bound 54 = .ok (.iconst 1, 1) := by decide +kernel
theorem dX4_bound_55 : decode cX4_bound 55 = .ok (.iaload, 1) := by decide +kernel
theorem dX4_bound_56 : decode cX4_bound 56 = .ok (.istore 5, 2) := by decide +kernel
theorem dX4_bound_58 : decode cX4_bound 58 = .ok (.aload_n 0, 1) := by decide +kernel
theorem dX4_bound_59 : decode cX4_bound 59 = .ok (.getfield 26, 3) := by decide +kernel
theorem dX4_bound_62 : decode cX4_bound 62 = .ok (.iload_n 3, 1) := by decide +kernel
theorem dX4_bound_63 : decode cX4_bound 63 = .ok (.invokevirtual 112, 3) := by decide +kernel
theorem dX4_bound_66 : decode cX4_bound 66 = .ok (.aload_n 0, 1) := by decide +kernel
theorem dX4_bound_67 : decode cX4_bound 67 = .ok (.getfield 26, 3) := by decide +kernel
theorem dX4_bound_70 : decode cX4_bound 70 = .ok (.iconst 0, 1) := by decide +kernel
theorem dX4_bound_71 : decode cX4_bound 71 = .ok (.iconst 0, 1) := by decide +kernel
theorem dX4_bound_72 : decode cX4_bound 72 = .ok (.iload 4, 2) := by decide +kernel
theorem dX4_bound_74 : decode cX4_bound 74 = .ok (.iload 5, 2) := by decide +kernel
theorem dX4_bound_76 : decode cX4_bound 76 = .ok (.iload_n 1, 1) := by decide +kernel
theorem dX4_bound_77 : decode cX4_bound 77 = .ok (.invokevirtual 116, 3) := by decide +kernel
theorem dX4_bound_80 : decode cX4_bound 80 = .ok (.aload_n 0, 1) := by decide +kernel
theorem dX4_bound_81 : decode cX4_bound 81 = .ok (.getfield 33, 3) := by decide +kernel
theorem dX4_bound_84 : decode cX4_bound 84 = .ok (.aload_n 0, 1) := by decide +kernel
theorem dX4_bound_85 : decode cX4_bound 85 = .ok (.getfield 12, 3) := by decide +kernel
theorem dX4_bound_88 : decode cX4_bound 88 = .ok (.aload_n 0, 1) := by decide +kernel
theorem dX4_bound_89 : decode cX4_bound 89 = .ok (.getfield 19, 3) := by decide +kernel
theorem dX4_bound_92 : decode cX4_bound 92 = .ok (.aload_n 0, 1) := by decide +kernel
theorem dX4_bound_93 : decode cX4_bound 93 = .ok (.getfield 26, 3) := by decide +kernel
theorem dX4_bound_96 : decode cX4_bound 96 = .ok (.invokevirtual 120, 3) := by decide +kernel
theorem dX4_bound_99 : decode cX4_bound 99 = .ok (.iload_n 2, 1) := by decide +kernel
theorem dX4_bound_100 : decode cX4_bound 100 = .ok (.ifCond .ne 18, 3) := by decide +kernel
theorem dX4_bound_103 : decode cX4_bound 103 = .ok (.aload_n 0, 1) := by decide +kernel
theorem dX4_bound_104 : decode cX4_bound 104 = .ok (.getfield 33, 3) := by decide +kernel
theorem dX4_bound_107 : decode cX4_bound 107 = .ok (.iload 4, 2) := by decide +kernel
theorem dX4_bound_109 : decode cX4_bound 109 = .ok (.iload 5, 2) := by decide +kernel
theorem dX4_bound_111 : decode cX4_bound 111 = .ok (.iload_n 1, 1) := by decide +kernel
theorem dX4_bound_112 : decode cX4_bound 112 = .ok (.invokevirtual 143, 3) := by decide +kernel
theorem dX4_bound_115 : decode cX4_bound 115 = .ok (.goto 15, 3) := by decide +kernel
theorem dX4_bound_118 : decode cX4_bound 118 = .ok (.aload_n 0, 1) := by decide +kernel
theorem dX4_bound_119 : decode cX4_bound 119 = .ok (.getfield 33, 3) := by decide +kernel
theorem dX4_bound_122 : decode cX4_bound 122 = .ok (.iload 4, 2) := by decide +kernel
theorem dX4_bound_124 : decode cX4_bound 124 = .ok (.iload 5, 2) := by decide +kernel
theorem dX4_bound_126 : decode cX4_bound 126 = .ok (.iload_n 1, 1) := by decide +kernel
theorem dX4_bound_127 : decode cX4_bound 127 = .ok (.invokevirtual 146, 3) := by decide +kernel
theorem dX4_bound_130 : decode cX4_bound 130 = .ok (.ireturn, 1) := by decide +kernel
theorem dX4_count_0 : decode cX4_count 0 = .ok (.iload_n 1, 1) := by decide +kernel
theorem dX4_count_1 : decode cX4_count 1 = .ok (.tableswitch 63 0 3 #[31, 39, 47, 55], 31) := by decide +kernel
theorem dX4_count_32 : decode cX4_count 32 = .ok (.aload_n 0, 1) := by decide +kernel
theorem dX4_count_33 : decode cX4_count 33 = .ok (.getfield 12, 3) := by decide +kernel
theorem dX4_count_36 : decode cX4_count 36 = .ok (.getfield 149, 3) := by decide +kernel
theorem dX4_count_39 : decode cX4_count 39 = .ok (.ireturn, 1) := by decide +kernel
theorem dX4_count_40 : decode cX4_count 40 = .ok (.aload_n 0, 1) := by decide +kernel
theorem dX4_count_41 : decode cX4_count 41 = .ok (.getfield 12, 3) := by decide +kernel
theorem dX4_count_44 : decode cX4_count 44 = .ok (.getfield 152, 3) := by decide +kernel
theorem dX4_count_47 : decode cX4_count 47 = .ok (.ireturn, 1) := by decide +kernel
theorem dX4_count_48 : decode cX4_count 48 = .ok (.aload_n 0, 1) := by decide +kernel
theorem dX4_count_49 : decode cX4_count 49 = .ok (.getfield 12, 3) := by decide +kernel
theorem dX4_count_52 : decode cX4_count 52 = .ok (.invokevirtual 155, 3) := by decide +kernel
theorem dX4_count_55 : decode cX4_count 55 = .ok (.ireturn, 1) := by decide +kernel
theorem dX4_count_56 : decode cX4_count 56 = .ok (.aload_n 0, 1) := by decide +kernel
theorem dX4_count_57 : decode cX4_count 57 = .ok (.getfield 19, 3) := by decide +kernel
theorem dX4_count_60 : decode cX4_count 60 = .ok (.getfield 90, 3) := by decide +kernel
theorem dX4_count_63 : decode cX4_count 63 = .ok (.ireturn, 1) := by decide +kernel
theorem dX4_count_64 : decode cX4_count 64 = .ok (.bipush (-102), 2) := by decide +kernel
theorem dX4_count_66 : decode cX4_count 66 = .ok (.ireturn, 1) := by decide +kernel
theorem dX4_digest_0 : decode cX4_digest 0 = .ok (.ldc2_w 158, 3) := by decide +kernel
theorem dX4_digest_3 : decode cX4_digest 3 = .ok (.aload_n 0, 1) := by decide +kernel
theorem dX4_digest_4 : decode cX4_digest 4 = .ok (.getfield 12, 3) := by decide +kernel
theorem dX4_digest_7 : decode cX4_digest 7 = .ok (.getfield 149, 3) := by decide +kernel
theorem dX4_digest_10 : decode cX4_digest 10 = .ok (.i2l, 1) := by decide +kernel
theorem dX4_digest_11 : decode cX4_digest 11 = .ok (.invokestatic 160, 3) := by decide +kernel
theorem dX4_digest_14 : decode cX4_digest 14 = .ok (.lstore_n 1, 1) := by decide +kernel
theorem dX4_digest_15 : decode cX4_digest 15 = .ok (.lload_n 1, 1) := by decide +kernel
theorem dX4_digest_16 : decode cX4_digest 16 = .ok (.aload_n 0, 1) := by decide +kernel
theorem dX4_digest_17 : decode cX4_digest 17 = .ok (.getfield 12, 3) := by decide +kernel
theorem dX4_digest_20 : decode cX4_digest 20 = .ok (.getfield 152, 3) := by decide +kernel
theorem dX4_digest_23 : decode cX4_digest 23 = .ok (.i2l, 1) := by decide +kernel
theorem dX4_digest_24 : decode cX4_digest 24 = .ok (.invokestatic 160, 3) := by decide +kernel
theorem dX4_digest_27 : decode cX4_digest 27 = .ok (.lstore_n 1, 1) := by decide +kernel
theorem dX4_digest_28 : decode cX4_digest 28 = .ok (.aload_n 0, 1) := by decide +kernel
theorem dX4_digest_29 : decode cX4_digest 29 = .ok (.lload_n 1, 1) := by decide +kernel
theorem dX4_digest_30 : decode cX4_digest 30 = .ok (.invokevirtual 164, 3) := by decide +kernel
theorem dX4_digest_33 : decode cX4_digest 33 = .ok (.lstore_n 1, 1) := by decide +kernel
theorem dX4_digest_34 : decode cX4_digest 34 = .ok (.aload_n 0, 1) := by decide +kernel
theorem dX4_digest_35 : decode cX4_digest 35 = .ok (.lload_n 1, 1) := by decide +kernel
theorem dX4_digest_36 : decode cX4_digest 36 = .ok (.invokevirtual 168, 3) := by decide +kernel
theorem dX4_digest_39 : decode cX4_digest 39 = .ok (.lstore_n 1, 1) := by decide +kernel
theorem dX4_digest_40 : decode cX4_digest 40 = .ok (.lload_n 1, 1) := by decide +kernel
theorem dX4_digest_41 : decode cX4_digest 41 = .ok (.aload_n 0, 1) := by decide +kernel
theorem dX4_digest_42 : decode cX4_digest 42 = .ok (.getfield 46, 3) := by decide +kernel
theorem dX4_digest_45 : decode cX4_digest 45 = .ok (.bipush 9, 2) := by decide +kernel
theorem dX4_digest_47 : decode cX4_digest 47 = .ok (.invokestatic 171, 3) := by decide +kernel
theorem dX4_digest_50 : decode cX4_digest 50 = .ok (.lstore_n 1, 1) := by decide +kernel
theorem dX4_digest_51 : decode cX4_digest 51 = .ok (.lload_n 1, 1) := by decide +kernel
theorem dX4_digest_52 : decode cX4_digest 52 = .ok (.aload_n 0, 1) := by decide +kernel
theorem dX4_digest_53 : decode cX4_digest 53 = .ok (.getfield 49, 3) := by decide +kernel
theorem dX4_digest_56 : decode cX4_digest 56 = .ok (.bipush 17, 2) := by decide +kernel
theorem dX4_digest_58 : decode cX4_digest 58 = .ok (.invokestatic 171, 3) := by decide +kernel
theorem dX4_digest_61 : decode cX4_digest 61 = .ok (.lstore_n 1, 1) := by decide +kernel
theorem dX4_digest_62 : decode cX4_digest 62 = .ok (.aload_n 0, 1) := by decide +kernel
theorem dX4_digest_63 : decode cX4_digest 63 = .ok (.lload_n 1, 1) := by decide +kernel
theorem dX4_digest_64 : decode cX4_digest 64 = .ok (.invokevirtual 175, 3) := by decide +kernel
theorem dX4_digest_67 : decode cX4_digest 67 = .ok (.lreturn, 1) := by decide +kernel
theorem dX4_addStep_0 : decode cX4_addStep 0 = .ok (.aload_n 0, 1) := by decide +kernel
theorem dX4_addStep_1 : decode cX4_addStep 1 = .ok (.getfield 19, 3) := by decide +kernel
theorem dX4_addStep_4 : decode cX4_addStep 4 = .ok (.iload_n 1, 1) := by decide +kernel
theorem dX4_addStep_5 : decode cX4_addStep 5 = .ok (.invokevirtual 178, 3) := by decide +kernel
theorem dX4_addStep_8 : decode cX4_addStep 8 = .ok (.ifCond .ne 6, 3) := by decide +kernel
theorem dX4_addStep_11 : decode cX4_addStep 11 = .ok (.bipush (-103), 2) := by decide +kernel
theorem dX4_addStep_13 : decode cX4_addStep 13 = .ok (.ireturn, 1) := by decide +kernel
theorem dX4_addStep_14 : decode cX4_addStep 14 = .ok (.aload_n 0, 1) := by decide +kernel
theorem dX4_addStep_15 : decode cX4_addStep 15 = .ok (.getfield 19, 3) := by decide +kernel
theorem dX4_addStep_18 : decode cX4_addStep 18 = .ok (.getfield 90, 3) := by decide +kernel
theorem dX4_addStep_21 : decode cX4_addStep 21 = .ok (.bipush 10, 2) := by decide +kernel
theorem dX4_addStep_23 : decode cX4_addStep 23 = .ok (.if_icmp .lt 6, 3) := by decide +kernel
theorem dX4_addStep_26 : decode cX4_addStep 26 = .ok (.bipush (-104), 2) := by decide +kernel
theorem dX4_addStep_28 : decode cX4_addStep 28 = .ok (.ireturn, 1) := by decide +kernel
theorem dX4_addStep_29 : decode cX4_addStep 29 = .ok (.aload_n 0, 1) := by decide +kernel
theorem dX4_addStep_30 : decode cX4_addStep 30 = .ok (.getfield 19, 3) := by decide +kernel
theorem dX4_addStep_33 : decode cX4_addStep 33 = .ok (.iload_n 1, 1) := by decide +kernel
theorem dX4_addStep_34 : decode cX4_addStep 34 = .ok (.aload_n 2, 1) := by decide +kernel
theorem dX4_addStep_35 : decode cX4_addStep 35 = .ok (.invokevirtual 181, 3) := by decide +kernel
theorem dX4_addStep_38 : decode cX4_addStep 38 = .ok (.aload_n 0, 1) := by decide +kernel
theorem dX4_addStep_39 : decode cX4_addStep 39 = .ok (.getfield 19, 3) := by decide +kernel
theorem dX4_addStep_42 : decode cX4_addStep 42 = .ok (.getfield 90, 3) := by decide +kernel
theorem dX4_addStep_45 : decode cX4_addStep 45 = .ok (.ireturn, 1) := by decide +kernel
theorem dX4_mixedCells_0 : decode cX4_mixedCells 0 = .ok (.lload_n 1, 1) := by decide +kernel
theorem dX4_mixedCells_1 : decode cX4_mixedCells 1 = .ok (.lstore_n 3, 1) := by decide +kernel
theorem dX4_mixedCells_2 : decode cX4_mixedCells 2 = .ok (.iconst 0, 1) := by decide +kernel
theorem dX4_mixedCells_3 : decode cX4_mixedCells 3 = .ok (.istore 5, 2) := by decide +kernel
theorem dX4_mixedCells_5 : decode cX4_mixedCells 5 = .ok (.iload 5, 2) := by decide +kernel
theorem dX4_mixedCells_7 : decode cX4_mixedCells 7 = .ok (.aload_n 0, 1) := by decide +kernel
theorem dX4_mixedCells_8 : decode cX4_mixedCells 8 = .ok (.getfield 12, 3) := by decide +kernel
theorem dX4_mixedCells_11 : decode cX4_mixedCells 11 = .ok (.getfield 152, 3) := by decide +kernel
theorem dX4_mixedCells_14 : decode cX4_mixedCells 14 = .ok (.if_icmp .ge 76, 3) := by decide +kernel
theorem dX4_mixedCells_17 : decode cX4_mixedCells 17 = .ok (.iconst 0, 1) := by decide +kernel
theorem dX4_mixedCells_18 : decode cX4_mixedCells 18 = .ok (.istore 6, 2) := by decide +kernel
theorem dX4_mixedCells_20 : decode cX4_mixedCells 20 = .ok (.iload 6, 2) := by decide +kernel
theorem dX4_mixedCells_22 : decode cX4_mixedCells 22 = .ok (.aload_n 0, 1) := by decide +kernel
theorem dX4_mixedCells_23 : decode cX4_mixedCells 23 = .ok (.getfield 12, 3) := by decide +kernel
theorem dX4_mixedCells_26 : decode cX4_mixedCells 26 = .ok (.getfield 149, 3) := by decide +kernel
theorem dX4_mixedCells_29 : decode cX4_mixedCells 29 = .ok (.if_icmp .ge 55, 3) := by decide +kernel
theorem dX4_mixedCells_32 : decode cX4_mixedCells 32 = .ok (.iload 6, 2) := by decide +kernel
theorem dX4_mixedCells_34 : decode cX4_mixedCells 34 = .ok (.iload 5, 2) := by decide +kernel
theorem dX4_mixedCells_36 : decode cX4_mixedCells 36 = .ok (.invokestatic 73, 3) := by decide +kernel
theorem dX4_mixedCells_39 : decode cX4_mixedCells 39 = .ok (.istore 7, 2) := by decide +kernel
theorem dX4_mixedCells_41 : decode cX4_mixedCells 41 = .ok (.lload_n 3, 1) := by decide +kernel
theorem dX4_mixedCells_42 : decode cX4_mixedCells 42 = .ok (.aload_n 0, 1) := by decide +kernel
theorem dX4_mixedCells_43 : decode cX4_mixedCells 43 = .ok (.getfield 12, 3) := by decide +kernel
theorem dX4_mixedCells_46 : decode cX4_mixedCells 46 = .ok (.getfield 76, 3) := by decide +kernel
theorem dX4_mixedCells_49 : decode cX4_mixedCells 49 = .ok (.iload 7, 2) := by decide +kernel
theorem dX4_mixedCells_51 : decode cX4_mixedCells 51 = .ok (.iaload, 1) := by decide +kernel
theorem dX4_mixedCells_52 : decode cX4_mixedCells 52 = .ok (.aload_n 0, 1) := by decide +kernel
theorem dX4_mixedCells_53 : decode cX4_mixedCells 53 = .ok (.getfield 12, 3) := by decide +kernel
theorem dX4_mixedCells_56 : decode cX4_mixedCells 56 = .ok (.getfield 79, 3) := by decide +kernel
theorem dX4_mixedCells_59 : decode cX4_mixedCells 59 = .ok (.iload 7, 2) := by decide +kernel
theorem dX4_mixedCells_61 : decode cX4_mixedCells 61 = .ok (.baload, 1) := by decide +kernel
theorem dX4_mixedCells_62 : decode cX4_mixedCells 62 = .ok (.ifCond .eq 9, 3) := by decide +kernel
theorem dX4_mixedCells_65 : decode cX4_mixedCells 65 = .ok (.sipush 5000, 3) := by decide +kernel
theorem dX4_mixedCells_68 : decode cX4_mixedCells 68 = .ok (.goto 4, 3) := by decide +kernel
theorem dX4_mixedCells_71 : decode cX4_mixedCells 71 = .ok (.iconst 0, 1) := by decide +kernel
theorem dX4_mixedCells_72 : decode cX4_mixedCells 72 = .ok (.iadd, 1) := by decide +kernel
theorem dX4_mixedCells_73 : decode cX4_mixedCells 73 = .ok (.i2l, 1) := by decide +kernel
theorem dX4_mixedCells_74 : decode cX4_mixedCells 74 = .ok (.invokestatic 160, 3) := by decide +kernel
theorem dX4_mixedCells_77 : decode cX4_mixedCells 77 = .ok (.lstore_n 3, 1) := by decide +kernel
theorem dX4_mixedCells_78 : decode cX4_mixedCells 78 = .ok (.iinc 6 1, 3) := by decide +kernel
theorem dX4_mixedCells_81 : decode cX4_mixedCells 81 = .ok (.goto (-61), 3) := by decide +kernel
theorem dX4_mixedCells_84 : decode cX4_mixedCells 84 = .ok (.iinc 5 1, 3) := by decide +kernel
theorem dX4_mixedCells_87 : decode cX4_mixedCells 87 = .ok (.goto (-82), 3) := by decide +kernel
theorem dX4_mixedCells_90 : decode cX4_mixedCells 90 = .ok (.lload_n 3, 1) := by decide +kernel
theorem dX4_mixedCells_91 : decode cX4_mixedCells 91 = .ok (.lreturn, 1) := by decide +kernel
theorem dX4_mixedSteps_0 : decode cX4_mixedSteps 0 = .ok (.lload_n 1, 1) := by decide +kernel
theorem dX4_mixedSteps_1 : decode cX4_mixedSteps 1 = .ok (.lstore_n 3, 1) := by decide +kernel
theorem dX4_mixedSteps_2 : decode cX4_mixedSteps 2 = .ok (.iconst 0, 1) := by decide +kernel
theorem dX4_mixedSteps_3 : decode cX4_mixedSteps 3 = .ok (.istore 5, 2) := by decide +kernel
theorem dX4_mixedSteps_5 : decode cX4_mixedSteps 5 = .ok (.iload 5, 2) := by decide +kernel
theorem dX4_mixedSteps_7 : decode cX4_mixedSteps 7 = .ok (.aload_n 0, 1) := by decide +kernel
theorem dX4_mixedSteps_8 : decode cX4_mixedSteps 8 = .ok (.getfield 19, 3) := by decide +kernel
theorem dX4_mixedSteps_11 : decode cX4_mixedSteps 11 = .ok (.getfield 90, 3) := by decide +kernel
theorem dX4_mixedSteps_14 : decode cX4_mixedSteps 14 = .ok (.if_icmp .ge 50, 3) := by decide +kernel
theorem dX4_mixedSteps_17 : decode cX4_mixedSteps 17 = .ok (.aload_n 0, 1) := by decide +kernel
theorem dX4_mixedSteps_18 : decode cX4_mixedSteps 18 = .ok (.getfield 19, 3) := by decide +kernel
theorem dX4_mixedSteps_21 : decode cX4_mixedSteps 21 = .ok (.getfield 94, 3) := by decide +kernel
theorem dX4_mixedSteps_24 : decode cX4_mixedSteps 24 = .ok (.iload 5, 2) := by decide +kernel
theorem dX4_mixedSteps_26 : decode cX4_mixedSteps 26 = .ok (.iaload, 1) := by decide +kernel
theorem dX4_mixedSteps_27 : decode cX4_mixedSteps 27 = .ok (.istore 6, 2) := by decide +kernel
theorem dX4_mixedSteps_29 : decode cX4_mixedSteps 29 = .ok (.lload_n 3, 1) := by decide +kernel
theorem dX4_mixedSteps_30 : decode cX4_mixedSteps 30 = .ok (.iload 6, 2) := by decide +kernel
theorem dX4_mixedSteps_32 : decode cX4_mixedSteps 32 = .ok (.i2l, 1) := by decide +kernel
theorem dX4_mixedSteps_33 : decode cX4_mixedSteps 33 = .ok (.invokestatic 160, 3) := by decide +kernel
theorem dX4_mixedSteps_36 : decode cX4_mixedSteps 36 = .ok (.lstore_n 3, 1) := by decide +kernel
theorem dX4_mixedSteps_37 : decode cX4_mixedSteps 37 = .ok (.lload_n 3, 1) := by decide +kernel
theorem dX4_mixedSteps_38 : decode cX4_mixedSteps 38 = .ok (.aload_n 0, 1) := by decide +kernel
theorem dX4_mixedSteps_39 : decode cX4_mixedSteps 39 = .ok (.getfield 19, 3) := by decide +kernel
theorem dX4_mixedSteps_42 : decode cX4_mixedSteps 42 = .ok (.getfield 185, 3) := by decide +kernel
theorem dX4_mixedSteps_45 : decode cX4_mixedSteps 45 = .ok (.iload 5, 2) := by decide +kernel
theorem dX4_mixedSteps_47 : decode cX4_mixedSteps 47 = .ok (.aaload, 1) := by decide +kernel
theorem dX4_mixedSteps_48 : decode cX4_mixedSteps 48 = .ok (.getstatic 188, 3) := by decide +kernel
theorem dX4_mixedSteps_51 : decode cX4_mixedSteps 51 = .ok (.iload 6, 2) := by decide +kernel
theorem dX4_mixedSteps_53 : decode cX4_mixedSteps 53 = .ok (.iaload, 1) := by decide +kernel
theorem dX4_mixedSteps_54 : decode cX4_mixedSteps 54 = .ok (.invokestatic 171, 3) := by decide +kernel
theorem dX4_mixedSteps_57 : decode cX4_mixedSteps 57 = .ok (.lstore_n 3, 1) := by decide +kernel
theorem dX4_mixedSteps_58 : decode cX4_mixedSteps 58 = .ok (.iinc 5 1, 3) := by decide +kernel
theorem dX4_mixedSteps_61 : decode cX4_mixedSteps 61 = .ok (.goto (-56), 3) := by decide +kernel
theorem dX4_mixedSteps_64 : decode cX4_mixedSteps 64 = .ok (.lload_n 3, 1) := by decide +kernel
theorem dX4_mixedSteps_65 : decode cX4_mixedSteps 65 = .ok (.lreturn, 1) := by decide +kernel
theorem dX4_mixedPicture_0 : decode cX4_mixedPicture 0 = .ok (.aload_n 0, 1) := by decide +kernel
theorem dX4_mixedPicture_1 : decode cX4_mixedPicture 1 = .ok (.getfield 19, 3) := by decide +kernel
theorem dX4_mixedPicture_4 : decode cX4_mixedPicture 4 = .ok (.getfield 101, 3) := by decide +kernel
theorem dX4_mixedPicture_7 : decode cX4_mixedPicture 7 = .ok (.aload_n 0, 1) := by decide +kernel
theorem dX4_mixedPicture_8 : decode cX4_mixedPicture 8 = .ok (.getfield 19, 3) := by decide +kernel
theorem dX4_mixedPicture_11 : decode cX4_mixedPicture 11 = .ok (.getfield 90, 3) := by decide +kernel
theorem dX4_mixedPicture_14 : decode cX4_mixedPicture 14 = .ok (.aaload, 1) := by decide +kernel
theorem dX4_mixedPicture_15 : decode cX4_mixedPicture 15 = .ok (.astore_n 3, 1) := by decide +kernel
theorem dX4_mixedPicture_16 : decode cX4_mixedPicture 16 = .ok (.aload_n 0, 1) := by decide +kernel
theorem dX4_mixedPicture_17 : decode cX4_mixedPicture 17 = .ok (.getfield 26, 3) := by decide +kernel
theorem dX4_mixedPicture_20 : decode cX4_mixedPicture 20 = .ok (.aload_n 0, 1) := by decide +kernel
theorem dX4_mixedPicture_21 : decode cX4_mixedPicture 21 = .ok (.getfield 19, 3) := by decide +kernel
theorem dX4_mixedPicture_24 : decode cX4_mixedPicture 24 = .ok (.getfield 90, 3) := by decide +kernel
theorem dX4_mixedPicture_27 : decode cX4_mixedPicture 27 = .ok (.invokevirtual 112, 3) := by decide +kernel
theorem dX4_mixedPicture_30 : decode cX4_mixedPicture 30 = .ok (.iconst 0, 1) := by decide +kernel
theorem dX4_mixedPicture_31 : decode cX4_mixedPicture 31 = .ok (.istore 4, 2) := by decide +kernel
theorem dX4_mixedPicture_33 : decode cX4_mixedPicture 33 = .ok (.iload 4, 2) := by decide +kernel
theorem dX4_mixedPicture_35 : decode cX4_mixedPicture 35 = .ok (.aload_n 3, 1) := by decide +kernel
theorem dX4_mixedPicture_36 : decode cX4_mixedPicture 36 = .ok (.iconst 2, 1) := by decide +kernel
theorem dX4_mixedPicture_37 : decode cX4_mixedPicture 37 = .ok (.iaload, 1) := by decide +kernel
theorem dX4_mixedPicture_38 : decode cX4_mixedPicture 38 = .ok (.if_icmp .ge 26, 3) := by decide +kernel
theorem dX4_mixedPicture_41 : decode cX4_mixedPicture 41 = .ok (.aload_n 0, 1) := by decide +kernel
theorem dX4_mixedPicture_42 : decode cX4_mixedPicture 42 = .ok (.getfield 26, 3) := by decide +kernel
theorem dX4_mixedPicture_45 : decode cX4_mixedPicture 45 = .ok (.iconst 0, 1) := by decide +kernel
theorem dX4_mixedPicture_46 : decode cX4_mixedPicture 46 = .ok (.iconst 0, 1) := by decide +kernel
theorem dX4_mixedPicture_47 : decode cX4_mixedPicture 47 = .ok (.aload_n 3, 1) := by decide +kernel
theorem dX4_mixedPicture_48 : decode cX4_mixedPicture 48 = .ok (.iconst 0, 1) := by decide +kernel
theorem dX4_mixedPicture_49 : decode cX4_mixedPicture 49 = .ok (.iaload, 1) := by decide +kernel
theorem dX4_mixedPicture_50 : decode cX4_mixedPicture 50 = .ok (.aload_n 3, 1) := by decide +kernel
theorem dX4_mixedPicture_51 : decode cX4_mixedPicture 51 = .ok (.iconst 1, 1) := by decide +kernel
theorem dX4_mixedPicture_52 : decode cX4_mixedPicture 52 = .ok (.iaload, 1) := by decide +kernel
theorem dX4_mixedPicture_53 : decode cX4_mixedPicture 53 = .ok (.iload 4, 2) := by decide +kernel
theorem dX4_mixedPicture_55 : decode cX4_mixedPicture 55 = .ok (.invokevirtual 116, 3) := by decide +kernel
theorem dX4_mixedPicture_58 : decode cX4_mixedPicture 58 = .ok (.iinc 4 1, 3) := by decide +kernel
theorem dX4_mixedPicture_61 : decode cX4_mixedPicture 61 = .ok (.goto (-28), 3) := by decide +kernel
theorem dX4_mixedPicture_64 : decode cX4_mixedPicture 64 = .ok (.aload_n 0, 1) := by decide +kernel
theorem dX4_mixedPicture_65 : decode cX4_mixedPicture 65 = .ok (.getfield 33, 3) := by decide +kernel
theorem dX4_mixedPicture_68 : decode cX4_mixedPicture 68 = .ok (.aload_n 0, 1) := by decide +kernel
theorem dX4_mixedPicture_69 : decode cX4_mixedPicture 69 = .ok (.getfield 12, 3) := by decide +kernel
theorem dX4_mixedPicture_72 : decode cX4_mixedPicture 72 = .ok (.aload_n 0, 1) := by decide +kernel
theorem dX4_mixedPicture_73 : decode cX4_mixedPicture 73 = .ok (.getfield 19, 3) := by decide +kernel
theorem dX4_mixedPicture_76 : decode cX4_mixedPicture 76 = .ok (.aload_n 0, 1) := by decide +kernel
theorem dX4_mixedPicture_77 : decode cX4_mixedPicture 77 = .ok (.getfield 26, 3) := by decide +kernel
theorem dX4_mixedPicture_80 : decode cX4_mixedPicture 80 = .ok (.invokevirtual 120, 3) := by decide +kernel
theorem dX4_mixedPicture_83 : decode cX4_mixedPicture 83 = .ok (.lload_n 1, 1) := by decide +kernel
theorem dX4_mixedPicture_84 : decode cX4_mixedPicture 84 = .ok (.lstore 4, 2) := by decide +kernel
theorem dX4_mixedPicture_86 : decode cX4_mixedPicture 86 = .ok (.iconst 0, 1) := by decide +kernel
theorem dX4_mixedPicture_87 : decode cX4_mixedPicture 87 = .ok (.istore 6, 2) := by decide +kernel
theorem dX4_mixedPicture_89 : decode cX4_mixedPicture 89 = .ok (.iload 6, 2) := by decide +kernel
theorem dX4_mixedPicture_91 : decode cX4_mixedPicture 91 = .ok (.aload_n 3, 1) := by decide +kernel
theorem dX4_mixedPicture_92 : decode cX4_mixedPicture 92 = .ok (.iconst 1, 1) := by decide +kernel
theorem dX4_mixedPicture_93 : decode cX4_mixedPicture 93 = .ok (.iaload, 1) := by decide +kernel
theorem dX4_mixedPicture_94 : decode cX4_mixedPicture 94 = .ok (.if_icmp .ge 64, 3) := by decide +kernel
theorem dX4_mixedPicture_97 : decode cX4_mixedPicture 97 = .ok (.iconst 0, 1) := by decide +kernel
theorem dX4_mixedPicture_98 : decode cX4_mixedPicture 98 = .ok (.istore 7, 2) := by decide +kernel
theorem dX4_mixedPicture_100 : decode cX4_mixedPicture 100 = .ok (.iload 7, 2) := by decide +kernel
theorem dX4_mixedPicture_102 : decode cX4_mixedPicture 102 = .ok (.aload_n 3, 1) := by decide +kernel
theorem dX4_mixedPicture_103 : decode cX4_mixedPicture 103 = .ok (.iconst 0, 1) := by decide +kernel
theorem dX4_mixedPicture_104 : decode cX4_mixedPicture 104 = .ok (.iaload, 1) := by decide +kernel
theorem dX4_mixedPicture_105 : decode cX4_mixedPicture 105 = .ok (.if_icmp .ge 47, 3) := by decide +kernel
theorem dX4_mixedPicture_108 : decode cX4_mixedPicture 108 = .ok (.iconst 0, 1) := by decide +kernel
theorem dX4_mixedPicture_109 : decode cX4_mixedPicture 109 = .ok (.istore 8, 2) := by decide +kernel
theorem dX4_mixedPicture_111 : decode cX4_mixedPicture 111 = .ok (.iload 8, 2) := by decide +kernel
theorem dX4_mixedPicture_113 : decode cX4_mixedPicture 113 = .ok (.aload_n 3, 1) := by decide +kernel
theorem dX4_mixedPicture_114 : decode cX4_mixedPicture 114 = .ok (.iconst 2, 1) := by decide +kernel
theorem dX4_mixedPicture_115 : decode cX4_mixedPicture 115 = .ok (.iaload, 1) := by decide +kernel
theorem dX4_mixedPicture_116 : decode cX4_mixedPicture 116 = .ok (.if_icmp .ge 30, 3) := by decide +kernel
theorem dX4_mixedPicture_119 : decode cX4_mixedPicture 119 = .ok (.lload 4, 2) := by decide +kernel
theorem dX4_mixedPicture_121 : decode cX4_mixedPicture 121 = .ok (.aload_n 0, 1) := by decide +kernel
theorem dX4_mixedPicture_122 : decode cX4_mixedPicture 122 = .ok (.getfield 33, 3) := by decide +kernel
theorem dX4_mixedPicture_125 : decode cX4_mixedPicture 125 = .ok (.iload 7, 2) := by decide +kernel
theorem dX4_mixedPicture_127 : decode cX4_mixedPicture 127 = .ok (.iload 6, 2) := by decide +kernel
theorem dX4_mixedPicture_129 : decode cX4_mixedPicture 129 = .ok (.iload 8, 2) := by decide +kernel
theorem dX4_mixedPicture_131 : decode cX4_mixedPicture 131 = .ok (.invokevirtual 124, 3) := by decide +kernel
theorem dX4_mixedPicture_134 : decode cX4_mixedPicture 134 = .ok (.i2l, 1) := by decide +kernel
theorem dX4_mixedPicture_135 : decode cX4_mixedPicture 135 = .ok (.invokestatic 160, 3) := by decide +kernel
theorem dX4_mixedPicture_138 : decode cX4_mixedPicture 138 = .ok (.lstore 4, 2) := by decide +kernel
theorem dX4_mixedPicture_140 : decode cX4_mixedPicture 140 = .ok (.iinc 8 1, 3) := by decide +kernel
theorem dX4_mixedPicture_143 : decode cX4_mixedPicture 143 = .ok (.goto (-32), 3) := by decide +kernel
theorem dX4_mixedPicture_146 : decode cX4_mixedPicture 146 = .ok (.iinc 7 1, 3) := by decide +kernel
theorem dX4_mixedPicture_149 : decode cX4_mixedPicture 149 = .ok (.goto (-49), 3) := by decide +kernel
theorem dX4_mixedPicture_152 : decode cX4_mixedPicture 152 = .ok (.iinc 6 1, 3) := by decide +kernel
theorem dX4_mixedPicture_155 : decode cX4_mixedPicture 155 = .ok (.goto (-66), 3) := by decide +kernel
theorem dX4_mixedPicture_158 : decode cX4_mixedPicture 158 = .ok (.lload 4, 2) := by decide +kernel
theorem dX4_mixedPicture_160 : decode cX4_mixedPicture 160 = .ok (.lreturn, 1) := by decide +kernel
theorem dX4_mixedRow_0 : decode cX4_mixedRow 0 = .ok (.lload_n 0, 1) := by decide +kernel
theorem dX4_mixedRow_1 : decode cX4_mixedRow 1 = .ok (.lstore 4, 2) := by decide +kernel
theorem dX4_mixedRow_3 : decode cX4_mixedRow 3 = .ok (.iconst 0, 1) := by decide +kernel
theorem dX4_mixedRow_4 : decode cX4_mixedRow 4 = .ok (.istore 6, 2) := by decide +kernel
theorem dX4_mixedRow_6 : decode cX4_mixedRow 6 = .ok (.iload 6, 2) := by decide +kernel
theorem dX4_mixedRow_8 : decode cX4_mixedRow 8 = .ok (.iload_n 3, 1) := by decide +kernel
theorem dX4_mixedRow_9 : decode cX4_mixedRow 9 = .ok (.if_icmp .ge 21, 3) := by decide +kernel
theorem dX4_mixedRow_12 : decode cX4_mixedRow 12 = .ok (.lload 4, 2) := by decide +kernel
theorem dX4_mixedRow_14 : decode cX4_mixedRow 14 = .ok (.aload_n 2, 1) := by decide +kernel
theorem dX4_mixedRow_15 : decode cX4_mixedRow 15 = .ok (.iload 6, 2) := by decide +kernel
theorem dX4_mixedRow_17 : decode cX4_mixedRow 17 = .ok (.iaload, 1) := by decide +kernel
theorem dX4_mixedRow_18 : decode cX4_mixedRow 18 = .ok (.i2l, 1) := by decide +kernel
theorem dX4_mixedRow_19 : decode cX4_mixedRow 19 = .ok (.invokestatic 160, 3) := by decide +kernel
theorem dX4_mixedRow_22 : decode cX4_mixedRow 22 = .ok (.lstore 4, 2) := by decide +kernel
theorem dX4_mixedRow_24 : decode cX4_mixedRow 24 = .ok (.iinc 6 1, 3) := by decide +kernel
theorem dX4_mixedRow_27 : decode cX4_mixedRow 27 = .ok (.goto (-21), 3) := by decide +kernel
theorem dX4_mixedRow_30 : decode cX4_mixedRow 30 = .ok (.lload 4, 2) := by decide +kernel
theorem dX4_mixedRow_32 : decode cX4_mixedRow 32 = .ok (.lreturn, 1) := by decide +kernel
theorem dX4_mixed_0 : decode cX4_mixed 0 = .ok (.ldc2_w 191, 3) := by decide +kernel
theorem dX4_mixed_3 : decode cX4_mixed 3 = .ok (.lload_n 0, 1) := by decide +kernel
theorem dX4_mixed_4 : decode cX4_mixed 4 = .ok (.lmul, 1) := by decide +kernel
theorem dX4_mixed_5 : decode cX4_mixed 5 = .ok (.lload_n 2, 1) := by decide +kernel
theorem dX4_mixed_6 : decode cX4_mixed 6 = .ok (.ladd, 1) := by decide +kernel
theorem dX4_mixed_7 : decode cX4_mixed 7 = .ok (.lreturn, 1) := by decide +kernel
theorem dX4_isWithin_0 : decode cX4_isWithin 0 = .ok (.iload_n 0, 1) := by decide +kernel
theorem dX4_isWithin_1 : decode cX4_isWithin 1 = .ok (.iload_n 1, 1) := by decide +kernel
theorem dX4_isWithin_2 : decode cX4_isWithin 2 = .ok (.if_icmp .lt 12, 3) := by decide +kernel
theorem dX4_isWithin_5 : decode cX4_isWithin 5 = .ok (.iload_n 0, 1) := by decide +kernel
theorem dX4_isWithin_6 : decode cX4_isWithin 6 = .ok (.iload_n 2, 1) := by decide +kernel
theorem dX4_isWithin_7 : decode cX4_isWithin 7 = .ok (.if_icmp .gt 7, 3) := by decide +kernel
theorem dX4_isWithin_10 : decode cX4_isWithin 10 = .ok (.iconst 1, 1) := by decide +kernel
theorem dX4_isWithin_11 : decode cX4_isWithin 11 = .ok (.goto 4, 3) := by decide +kernel
theorem dX4_isWithin_14 : decode cX4_isWithin 14 = .ok (.iconst 0, 1) := by decide +kernel
theorem dX4_isWithin_15 : decode cX4_isWithin 15 = .ok (.ireturn, 1) := by decide +kernel
theorem dX4_placeOf_0 : decode cX4_placeOf 0 = .ok (.iload_n 1, 1) := by decide +kernel
theorem dX4_placeOf_1 : decode cX4_placeOf 1 = .ok (.bipush 16, 2) := by decide +kernel
theorem dX4_placeOf_3 : decode cX4_placeOf 3 = .ok (.imul, 1) := by decide +kernel
theorem dX4_placeOf_4 : decode cX4_placeOf 4 = .ok (.iload_n 0, 1) := by decide +kernel
theorem dX4_placeOf_5 : decode cX4_placeOf 5 = .ok (.iadd, 1) := by decide +kernel
theorem dX4_placeOf_6 : decode cX4_placeOf 6 = .ok (.ireturn, 1) := by decide +kernel
theorem dX4_colourOf_0 : decode cX4_colourOf 0 = .ok (.iload_n 0, 1) := by decide +kernel
theorem dX4_colourOf_1 : decode cX4_colourOf 1 = .ok (.iconst 1, 1) := by decide +kernel
theorem dX4_colourOf_2 : decode cX4_colourOf 2 = .ok (.iand, 1) := by decide +kernel
theorem dX4_colourOf_3 : decode cX4_colourOf 3 = .ok (.iload_n 1, 1) := by decide +kernel
theorem dX4_colourOf_4 : decode cX4_colourOf 4 = .ok (.iconst 1, 1) := by decide +kernel
theorem dX4_colourOf_5 : decode cX4_colourOf 5 = .ok (.iand, 1) := by decide +kernel
theorem dX4_colourOf_6 : decode cX4_colourOf 6 = .ok (.iadd, 1) := by decide +kernel
theorem dX4_colourOf_7 : decode cX4_colourOf 7 = .ok (.ireturn, 1) := by decide +kernel
theorem dX5_init_0 : decode cX5_init 0 = .ok (.aload_n 0, 1) := by decide +kernel
theorem dX5_init_1 : decode cX5_init 1 = .ok (.invokespecial 1, 3) := by decide +kernel
theorem dX5_init_4 : decode cX5_init 4 = .ok (.aload_n 0, 1) := by decide +kernel
theorem dX5_init_5 : decode cX5_init 5 = .ok (.iconst 1, 1) := by decide +kernel
theorem dX5_init_6 : decode cX5_init 6 = .ok (.putfield 7, 3) := by decide +kernel
theorem dX5_init_9 : decode cX5_init 9 = .ok (.aload_n 0, 1) := by decide +kernel
theorem dX5_init_10 : decode cX5_init 10 = .ok (.iconst 1, 1) := by decide +kernel
theorem dX5_init_11 : decode cX5_init 11 = .ok (.putfield 13, 3) := by decide +kernel
theorem dX5_init_14 : decode cX5_init 14 = .ok (.aload_n 0, 1) := by decide +kernel
theorem dX5_init_15 : decode cX5_init 15 = .ok (.sipush 256, 3) := by decide +kernel
theorem dX5_init_18 : decode cX5_init 18 = .ok (.newarray .int, 2) := by decide +kernel
theorem dX5_init_20 : decode cX5_init 20 = .ok (.putfield 16, 3) := by decide +kernel
theorem dX5_init_23 : decode cX5_init 23 = .ok (.aload_n 0, 1) := by decide +kernel
theorem dX5_init_24 : decode cX5_init 24 = .ok (.sipush 256, 3) := by decide +kernel
theorem dX5_init_27 : decode cX5_init 27 = .ok (.newarray .boolean, 2) := by decide +kernel
theorem dX5_init_29 : decode cX5_init 29 = .ok (.putfield 20, 3) := by decide +kernel
theorem dX5_init_32 : decode cX5_init 32 = .ok (.aload_n 0, 1) := by decide +kernel
theorem dX5_init_33 : decode cX5_init 33 = .ok (.bipush 10, 2) := by decide +kernel
theorem dX5_init_35 : decode cX5_init 35 = .ok (.newarray .int, 2) := by decide +kernel
theorem dX5_init_37 : decode cX5_init 37 = .ok (.putfield 24, 3) := by decide +kernel
theorem dX5_init_40 : decode cX5_init 40 = .ok (.aload_n 0, 1) := by decide +kernel
theorem dX5_init_41 : decode cX5_init 41 = .ok (.sipush 170, 3) := by decide +kernel
theorem dX5_init_44 : decode cX5_init 44 = .ok (.newarray .int, 2) := by decide +kernel
theorem dX5_init_46 : decode cX5_init 46 = .ok (.putfield 27, 3) := by decide +kernel
theorem dX5_init_49 : decode cX5_init 49 = .ok (.aload_n 0, 1) := by decide +kernel
theorem dX5_init_50 : decode cX5_init 50 = .ok (.bipush 9, 2) := by decide +kernel
theorem dX5_init_52 : decode cX5_init 52 = .ok (.newarray .int, 2) := by decide +kernel
theorem dX5_init_54 : decode cX5_init 54 = .ok (.putfield 30, 3) := by decide +kernel
theorem dX5_init_57 : decode cX5_init 57 = .ok (.aload_n 0, 1) := by decide +kernel
theorem dX5_init_58 : decode cX5_init 58 = .ok (.bipush 17, 2) := by decide +kernel
theorem dX5_init_60 : decode cX5_init 60 = .ok (.newarray .int, 2) := by decide +kernel
theorem dX5_init_62 : decode cX5_init 62 = .ok (.putfield 33, 3) := by decide +kernel
theorem dX5_init_65 : decode cX5_init 65 = .ok (.aload_n 0, 1) := by decide +kernel
theorem dX5_init_66 : decode cX5_init 66 = .ok (.bipush 11, 2) := by decide +kernel
theorem dX5_init_68 : decode cX5_init 68 = .ok (.newarray .int, 2) := by decide +kernel
theorem dX5_init_70 : decode cX5_init 70 = .ok (.putfield 36, 3) := by decide +kernel
theorem dX5_init_73 : decode cX5_init 73 = .ok (.aload_n 0, 1) := by decide +kernel
theorem dX5_init_74 : decode cX5_init 74 = .ok (.bipush 11, 2) := by decide +kernel
theorem dX5_init_76 : decode cX5_init 76 = .ok (.newarray .int, 2) := by decide +kernel
theorem dX5_init_78 : decode cX5_init 78 = .ok (.putfield 39, 3) := by decide +kernel
theorem dX5_init_81 : decode cX5_init 81 = .ok (.aload_n 0, 1) := by decide +kernel
theorem dX5_init_82 : decode cX5_init 82 = .ok (.bipush 11, 2) := by decide +kernel
theorem dX5_init_84 : decode cX5_init 84 = .ok (.newarray .int, 2) := by decide +kernel
theorem dX5_init_86 : decode cX5_init 86 = .ok (.putfield 42, 3) := by decide +kernel
theorem dX5_init_89 : decode cX5_init 89 = .ok (.aload_n 0, 1) := by decide +kernel
theorem dX5_init_90 : decode cX5_init 90 = .ok (.bipush 11, 2) := by decide +kernel
theorem dX5_init_92 : decode cX5_init 92 = .ok (.newarray .int, 2) := by decide +kernel
theorem dX5_init_94 : decode cX5_init 94 = .ok (.putfield 45, 3) := by decide +kernel
theorem dX5_init_97 : decode cX5_init 97 = .ok (.aload_n 0, 1) := by decide +kernel
theorem dX5_init_98 : decode cX5_init 98 = .ok (.bipush 11, 2) := by decide +kernel
theorem dX5_init_100 : decode cX5_init 100 = .ok (.newarray .int, 2) := by decide +kernel
theorem dX5_init_102 : decode cX5_init 102 = .ok (.putfield 48, 3) := by decide +kernel
theorem dX5_init_105 : decode cX5_init 105 = .ok (.aload_n 0, 1) := by decide +kernel
theorem dX5_init_106 : decode cX5_init 106 = .ok (.sipush 8448, 3) := by decide +kernel
theorem dX5_init_109 : decode cX5_init 109 = .ok (.newarray .int, 2) := by decide +kernel
theorem dX5_init_111 : decode cX5_init 111 = .ok (.putfield 51, 3) := by decide +kernel
theorem dX5_init_114 : decode cX5_init 114 = .ok (.aload_n 0, 1) := by decide +kernel
theorem dX5_init_115 : decode cX5_init 115 = .ok (.sipush 8448, 3) := by decide +kernel
theorem dX5_init_118 : decode cX5_init 118 = .ok (.newarray .boolean, 2) := by decide +kernel
theorem dX5_init_120 : decode cX5_init 120 = .ok (.putfield 54, 3) := by decide +kernel
theorem dX5_init_123 : decode cX5_init 123 = .ok (.aload_n 0, 1) := by decide +kernel
theorem dX5_init_124 : decode cX5_init 124 = .ok (.iconst 5, 1) := by decide +kernel
theorem dX5_init_125 : decode cX5_init 125 = .ok (.newarray .int, 2) := by decide +kernel
theorem dX5_init_127 : decode cX5_init 127 = .ok (.putfield 57, 3) := by decide +kernel
theorem dX5_init_130 : decode cX5_init 130 = .ok (.aload_n 0, 1) := by decide +kernel
theorem dX5_init_131 : decode cX5_init 131 = .ok (.getfield 30, 3) := by decide +kernel
theorem dX5_init_134 : decode cX5_init 134 = .ok (.iconst 0, 1) := by decide +kernel
theorem dX5_init_135 : decode cX5_init 135 = .ok (.sipush 1000, 3) := by decide +kernel
theorem dX5_init_138 : decode cX5_init 138 = .ok (.iastore, 1) := by decide +kernel
theorem dX5_init_139 : decode cX5_init 139 = .ok (.aload_n 0, 1) := by decide +kernel
theorem dX5_init_140 : decode cX5_init 140 = .ok (.getfield 30, 3) := by decide +kernel
theorem dX5_init_143 : decode cX5_init 143 = .ok (.iconst 4, 1) := by decide +kernel
theorem dX5_init_144 : decode cX5_init 144 = .ok (.sipush 1000, 3) := by decide +kernel
theorem dX5_init_147 : decode cX5_init 147 = .ok (.iastore, 1) := by decide +kernel
theorem dX5_init_148 : decode cX5_init 148 = .ok (.aload_n 0, 1) := by decide +kernel
theorem dX5_init_149 : decode cX5_init 149 = .ok (.getfield 30, 3) := by decide +kernel
theorem dX5_init_152 : decode cX5_init 152 = .ok (.bipush 8, 2) := by decide +kernel
theorem dX5_init_154 : decode cX5_init 154 = .ok (.sipush 1000, 3) := by decide +kernel
theorem dX5_init_157 : decode cX5_init 157 = .ok (.iastore, 1) := by decide +kernel
theorem dX5_init_158 : decode cX5_init 158 = .ok (.iconst 0, 1) := by decide +kernel
theorem dX5_init_159 : decode cX5_init 159 = .ok (.istore_n 1, 1) := by decide +kernel
theorem dX5_init_160 : decode cX5_init 160 = .ok (.iload_n 1, 1) := by decide +kernel
theorem dX5_init_161 : decode cX5_init 161 = .ok (.bipush 17, 2) := by decide +kernel
theorem dX5_init_163 : decode cX5_init 163 = .ok (.if_icmp .ge 32, 3) := by decide +kernel
theorem dX5_init_166 : decode cX5_init 166 = .ok (.aload_n 0, 1) := by decide +kernel
theorem dX5_init_167 : decode cX5_init 167 = .ok (.getfield 33, 3) := by decide +kernel
theorem dX5_init_170 : decode cX5_init 170 = .ok (.iload_n 1, 1) := by decide +kernel
theorem dX5_init_171 : decode cX5_init 171 = .ok (.iload_n 1, 1) := by decide +kernel
theorem dX5_init_172 : decode cX5_init 172 = .ok (.bipush 16, 2) := by decide +kernel
theorem dX5_init_174 : decode cX5_init 174 = .ok (.if_icmp .ge 11, 3) := by decide +kernel
theorem dX5_init_177 : decode cX5_init 177 = .ok (.sipush 256, 3) := by decide +kernel
theorem dX5_init_180 : decode cX5_init 180 = .ok (.iload_n 1, 1) := by decide +kernel
theorem dX5_init_181 : decode cX5_init 181 = .ok (.imul, 1) := by decide +kernel
theorem dX5_init_182 : decode cX5_init 182 = .ok (.goto 6, 3) := by decide +kernel
theorem dX5_init_185 : decode cX5_init 185 = .ok (.sipush 4095, 3) := by decide +kernel
theorem dX5_init_188 : decode cX5_init 188 = .ok (.iastore, 1) := by decide +kernel
theorem dX5_init_189 : decode cX5_init 189 = .ok (.iinc 1 1, 3) := by decide +kernel
theorem dX5_init_192 : decode cX5_init 192 = .ok (.goto (-32), 3) := by decide +kernel
theorem dX5_init_195 : decode cX5_init 195 = .ok (.return_, 1) := by decide +kernel
theorem dX5_in_0 : decode cX5_in 0 = .ok (.iload_n 0, 1) := by decide +kernel
theorem dX5_in_1 : decode cX5_in 1 = .ok (.iload_n 1, 1) := by decide +kernel
theorem dX5_in_2 : decode cX5_in 2 = .ok (.if_icmp .lt 12, 3) := by decide +kernel
theorem dX5_in_5 : decode cX5_in 5 = .ok (.iload_n 0, 1) := by decide +kernel
theorem dX5_in_6 : decode cX5_in 6 = .ok (.iload_n 2, 1) := by decide +kernel
theorem dX5_in_7 : decode cX5_in 7 = .ok (.if_icmp .gt 7, 3) := by decide +kernel
theorem dX5_in_10 : decode cX5_in 10 = .ok (.iconst 1, 1) := by decide +kernel
theorem dX5_in_11 : decode cX5_in 11 = .ok (.goto 4, 3) := by decide +kernel
theorem dX5_in_14 : decode cX5_in 14 = .ok (.iconst 0, 1) := by decide +kernel
theorem dX5_in_15 : decode cX5_in 15 = .ok (.ireturn, 1) := by decide +kernel
theorem dX5_size_0 : decode cX5_size 0 = .ok (.iload_n 1, 1) := by decide +kernel
theorem dX5_size_1 : decode cX5_size 1 = .ok (.iconst 1, 1) := by decide +kernel
theorem dX5_size_2 : decode cX5_size 2 = .ok (.bipush 16, 2) := by decide +kernel
theorem dX5_size_4 : decode cX5_size 4 = .ok (.invokestatic 60, 3) := by decide +kernel
theorem dX5_size_7 : decode cX5_size 7 = .ok (.ifCond .eq 13, 3) := by decide +kernel
theorem dX5_size_10 : decode cX5_size 10 = .ok (.iload_n 2, 1) := by decide +kernel
theorem dX5_size_11 : decode cX5_size 11 = .ok (.iconst 1, 1) := by decide +kernel
theorem dX5_size_12 : decode cX5_size 12 = .ok (.bipush 16, 2) := by decide +kernel
theorem dX5_size_14 : decode cX5_size 14 = .ok (.invokestatic 60, 3) := by decide +kernel
theorem dX5_size_17 : decode cX5_size 17 = .ok (.ifCond .ne 6, 3) := by decide +kernel
theorem dX5_size_20 : decode cX5_size 20 = .ok (.bipush (-102), 2) := by decide +kernel
theorem dX5_size_22 : decode cX5_size 22 = .ok (.ireturn, 1) := by decide +kernel
theorem dX5_size_23 : decode cX5_size 23 = .ok (.aload_n 0, 1) := by decide +kernel
theorem dX5_size_24 : decode cX5_size 24 = .ok (.iload_n 1, 1) := by decide +kernel
theorem dX5_size_25 : decode cX5_size 25 = .ok (.putfield 7, 3) := by decide +kernel
theorem dX5_size_28 : decode cX5_size 28 = .ok (.aload_n 0, 1) := by decide +kernel
theorem dX5_size_29 : decode cX5_size 29 = .ok (.iload_n 2, 1) := by decide +kernel
theorem dX5_size_30 : decode cX5_size 30 = .ok (.putfield 13, 3) := by decide +kernel
theorem dX5_size_33 : decode cX5_size 33 = .ok (.aload_n 0, 1) := by decide +kernel
theorem dX5_size_34 : decode cX5_size 34 = .ok (.iconst 0, 1) := by decide +kernel
theorem dX5_size_35 : decode cX5_size 35 = .ok (.putfield 64, 3) := by decide +kernel
theorem dX5_size_38 : decode cX5_size 38 = .ok (.iconst 0, 1) := by decide +kernel
theorem dX5_size_39 : decode cX5_size 39 = .ok (.istore_n 3, 1) := by decide +kernel
theorem dX5_size_40 : decode cX5_size 40 = .ok (.iload_n 3, 1) := by decide +kernel
theorem dX5_size_41 : decode cX5_size 41 = .ok (.sipush 256, 3) := by decide +kernel
theorem dX5_size_44 : decode cX5_size 44 = .ok (.if_icmp .ge 23, 3) := by decide +kernel
theorem dX5_size_47 : decode cX5_size 47 = .ok (.aload_n 0, 1) := by decide +kernel
theorem dX5_size_48 : decode cX5_size 48 = .ok (.getfield 16, 3) := by decide +kernel
theorem dX5_size_51 : decode cX5_size 51 = .ok (.iload_n 3, 1) := by decide +kernel
theorem dX5_size_52 : decode cX5_size 52 = .ok (.iconst 0, 1) := by decide +kernel
theorem dX5_size_53 : decode cX5_size 53 = .ok (.iastore, 1) := by decide +kernel
theorem dX5_size_54 : decode cX5_size 54 = .ok (.aload_n 0, 1) := by decide +kernel
theorem dX5_size_55 : decode cX5_size 55 = .ok (.getfield 20, 3) := by decide +kernel
theorem dX5_size_58 : decode cX5_size 58 = .ok (.iload_n 3, 1) := by decide +kernel
theorem dX5_size_59 : decode cX5_size 59 = .ok (.iconst 0, 1) := by decide +kernel
theorem dX5_size_60 : decode cX5_size 60 = .ok (.bastore, 1) := by decide +kernel
theorem dX5_size_61 : decode cX5_size 61 = .ok (.iinc 3 1, 3) := by decide +kernel
theorem dX5_size_64 : decode cX5_size 64 = .ok (.goto (-24), 3) := by decide +kernel
theorem dX5_size_67 : decode cX5_size 67 = .ok (.iload_n 1, 1) := by decide +kernel
theorem dX5_size_68 : decode cX5_size 68 = .ok (.iload_n 2, 1) := by decide +kernel
theorem dX5_size_69 : decode cX5_size 69 = .ok (.imul, 1) := by decide +kernel
theorem dX5_size_70 : decode cX5_size 70 = .ok (.ireturn, 1) := by decide +kernel
theorem dX5_isCell_0 : decode cX5_isCell 0 = .ok (.iload_n 1, 1) := by decide +kernel
theorem dX5_isCell_1 : decode cX5_isCell 1 = .ok (.iconst 0, 1) := by decide +kernel
theorem dX5_isCell_2 : decode cX5_isCell 2 = .ok (.aload_n 0, 1) := by decide +kernel
theorem dX5_isCell_3 : decode cX5_isCell 3 = .ok (.getfield 7, 3) := by decide +kernel
theorem dX5_isCell_6 : decode cX5_isCell 6 = .ok (.iconst 1, 1) := by decide +kernel
theorem dX5_isCell_7 : decode cX5_isCell 7 = .ok (.isub, 1) := by decide +kernel
theorem dX5_isCell_8 : decode cX5_isCell 8 = .ok (.invokestatic 60, 3) := by decide +kernel
theorem dX5_isCell_11 : decode cX5_isCell 11 = .ok (.ifCond .eq 21, 3) := by decide +kernel
theorem dX5_isCell_14 : decode cX5_isCell 14 = .ok (.iload_n 2, 1) := by decide +kernel
theorem dX5_isCell_15 : decode cX5_isCell 15 = .ok (.iconst 0, 1) := by decide +kernel
theorem dX5_isCell_16 : decode cX5_isCell 16 = .ok (.aload_n 0, 1) := by decide +kernel
theorem dX5_isCell_17 : decode cX5_isCell 17 = .ok (.getfield 13, 3) := by decide +kernel
theorem dX5_isCell_20 : decode cX5_isCell 20 = .ok (.iconst 1, 1) := by decide +kernel
theorem dX5_isCell_21 : decode cX5_isCell 21 = .ok (.isub, 1) := by decide +kernel
theorem dX5_isCell_22 : decode cX5_isCell 22 = .ok (.invokestatic 60, 3) := by decide +kernel
theorem dX5_isCell_25 : decode cX5_isCell 25 = .ok (.ifCond .eq 7, 3) := by decide +kernel
theorem dX5_isCell_28 : decode cX5_isCell 28 = .ok (.iconst 1, 1) := by decide +kernel
theorem dX5_isCell_29 : decode cX5_isCell 29 = .ok (.goto 4, 3) := by decide +kernel
theorem dX5_isCell_32 : decode cX5_isCell 32 = .ok (.iconst 0, 1) := by decide +kernel
theorem dX5_isCell_33 : decode cX5_isCell 33 = .ok (.ireturn, 1) := by decide +kernel
theorem dX5_cell_0 : decode cX5_cell 0 = .ok (.aload_n 0, 1) := by decide +kernel
theorem dX5_cell_1 : decode cX5_cell 1 = .ok (.iload_n 1, 1) := by decide +kernel
theorem dX5_cell_2 : decode cX5_cell 2 = .ok (.iload_n 2, 1) := by decide +kernel
theorem dX5_cell_3 : decode cX5_cell 3 = .ok (.invokevirtual 67, 3) := by decide +kernel
theorem dX5_cell_6 : decode cX5_cell 6 = .ok (.ifCond .ne 6, 3) := by decide +kernel
theorem dX5_cell_9 : decode cX5_cell 9 = .ok (.bipush (-101), 2) := by decide +kernel
theorem dX5_cell_11 : decode cX5_cell 11 = .ok (.ireturn, 1) := by decide +kernel
theorem dX5_cell_12 : decode cX5_cell 12 = .ok (.iload_n 3, 1) := by decide +kernel
theorem dX5_cell_13 : decode cX5_cell 13 = .ok (.iconst 0, 1) := by decide +kernel
theorem dX5_cell_14 : decode cX5_cell 14 = .ok (.sipush 1023, 3) := by decide +kernel
theorem dX5_cell_17 : decode cX5_cell 17 = .ok (.invokestatic 60, 3) := by decide +kernel
theorem dX5_cell_20 : decode cX5_cell 20 = .ok (.ifCond .ne 6, 3) := by decide +kernel
theorem dX5_cell_23 : decode cX5_cell 23 = .ok (.bipush (-102), 2) := by decide +kernel
theorem dX5_cell_25 : decode cX5_cell 25 = .ok (.ireturn, 1) := by decide +kernel
theorem dX5_cell_26 : decode cX5_cell 26 = .ok (.aload_n 0, 1) := by decide +kernel
theorem dX5_cell_27 : decode cX5_cell 27 = .ok (.getfield 16, 3) := by decide +kernel
theorem dX5_cell_30 : decode cX5_cell 30 = .ok (.bipush 16, 2) := by decide +kernel
theorem dX5_cell_32 : decode cX5_cell 32 = .ok (.iload_n 2, 1) := by decide +kernel
theorem dX5_cell_33 : decode cX5_cell 33 = .ok (.imul, 1) := by decide +kernel
theorem dX5_cell_34 : decode cX5_cell 34 = .ok (.iload_n 1, 1) := by decide +kernel
theorem dX5_cell_35 : decode cX5_cell 35 = .ok (.iadd, 1) := by decide +kernel
theorem dX5_cell_36 : decode cX5_cell 36 = .ok (.iaload, 1) := by decide +kernel
theorem dX5_cell_37 : decode cX5_cell 37 = .ok (.istore 4, 2) := by decide +kernel
theorem dX5_cell_39 : decode cX5_cell 39 = .ok (.aload_n 0, 1) := by decide +kernel
theorem dX5_cell_40 : decode cX5_cell 40 = .ok (.getfield 16, 3) := by decide +kernel
theorem dX5_cell_43 : decode cX5_cell 43 = .ok (.bipush 16, 2) := by decide +kernel
theorem dX5_cell_45 : decode cX5_cell 45 = .ok (.iload_n 2, 1) := by decide +kernel
theorem dX5_cell_46 : decode cX5_cell 46 = .ok (.imul, 1) := by decide +kernel
theorem dX5_cell_47 : decode cX5_cell 47 = .ok (.iload_n 1, 1) := by decide +kernel
theorem dX5_cell_48 : decode cX5_cell 48 = .ok (.iadd, 1) := by decide +kernel
theorem dX5_cell_49 : decode cX5_cell 49 = .ok (.iload_n 3, 1) := by decide +kernel
theorem dX5_cell_50 : decode cX5_cell 50 = .ok (.iastore, 1) := by decide +kernel
theorem dX5_cell_51 : decode cX5_cell 51 = .ok (.iload 4, 2) := by decide +kernel
theorem dX5_cell_53 : decode cX5_cell 53 = .ok (.ireturn, 1) := by decide +kernel
theorem dX5_dead_0 : decode cX5_dead 0 = .ok (.aload_n 0, 1) := by decide +kernel
theorem dX5_dead_1 : decode cX5_dead 1 = .ok (.iload_n 1, 1) := by decide +kernel
theorem dX5_dead_2 : decode cX5_dead 2 = .ok (.iload_n 2, 1) := by decide +kernel
theorem dX5_dead_3 : decode cX5_dead 3 = .ok (.invokevirtual 67, 3) := by decide +kernel
theorem dX5_dead_6 : decode cX5_dead 6 = .ok (.ifCond .ne 6, 3) := by decide +kernel
theorem dX5_dead_9 : decode cX5_dead 9 = .ok (.bipush (-101), 2) := by decide +kernel
theorem dX5_dead_11 : decode cX5_dead 11 = .ok (.ireturn, 1) := by decide +kernel
theorem dX5_dead_12 : decode cX5_dead 12 = .ok (.aload_n 0, 1) := by decide +kernel
theorem dX5_dead_13 : decode cX5_dead 13 = .ok (.getfield 20, 3) := by decide +kernel
theorem dX5_dead_16 : decode cX5_dead 16 = .ok (.bipush 16, 2) := by decide +kernel
theorem dX5_dead_18 : decode cX5_dead 18 = .ok (.iload_n 2, 1) := by decide +kernel
theorem dX5_dead_19 : decode cX5_dead 19 = .ok (.imul, 1) := by decide +kernel
theorem dX5_dead_20 : decode cX5_dead 20 = .ok (.iload_n 1, 1) := by decide +kernel
theorem dX5_dead_21 : decode cX5_dead 21 = .ok (.iadd, 1) := by decide +kernel
theorem dX5_dead_22 : decode cX5_dead 22 = .ok (.baload, 1) := by decide +kernel
theorem dX5_dead_23 : decode cX5_dead 23 = .ok (.ifCond .eq 7, 3) := by decide +kernel
theorem dX5_dead_26 : decode cX5_dead 26 = .ok (.iconst 1, 1) := by decide +kernel
theorem dX5_dead_27 : decode cX5_dead 27 = .ok (.goto 4, 3) := by decide +kernel
theorem dX5_dead_30 : decode cX5_dead 30 = .ok (.iconst 0, 1) := by decide +kernel
theorem dX5_dead_31 : decode cX5_dead 31 = .ok (.istore 4, 2) := by decide +kernel
theorem dX5_dead_33 : decode cX5_dead 33 = .ok (.aload_n 0, 1) := by decide +kernel
theorem dX5_dead_34 : decode cX5_dead 34 = .ok (.getfield 20, 3) := by decide +kernel
theorem dX5_dead_37 : decode cX5_dead 37 = .ok (.bipush 16, 2) := by decide +kernel
theorem dX5_dead_39 : decode cX5_dead 39 = .ok (.iload_n 2, 1) := by decide +kernel
theorem dX5_dead_40 : decode cX5_dead 40 = .ok (.imul, 1) := by decide +kernel
theorem dX5_dead_41 : decode cX5_dead 41 = .ok (.iload_n 1, 1) := by decide +kernel
theorem dX5_dead_42 : decode cX5_dead 42 = .ok (.iadd, 1) := by decide +kernel
theorem dX5_dead_43 : decode cX5_dead 43 = .ok (.iload_n 3, 1) := by decide +kernel
theorem dX5_dead_44 : decode cX5_dead 44 = .ok (.bastore, 1) := by decide +kernel
theorem dX5_dead_45 : decode cX5_dead 45 = .ok (.iload 4, 2) := by decide +kernel
theorem dX5_dead_47 : decode cX5_dead 47 = .ok (.ireturn, 1) := by decide +kernel
theorem dX5_hasColours_0 : decode cX5_hasColours 0 = .ok (.iconst 0, 1) := by decide +kernel
theorem dX5_hasColours_1 : decode cX5_hasColours 1 = .ok (.istore_n 1, 1) := by decide +kernel
theorem dX5_hasColours_2 : decode cX5_hasColours 2 = .ok (.iconst 0, 1) := by decide +kernel
theorem dX5_hasColours_3 : decode cX5_hasColours 3 = .ok (.istore_n 2, 1) := by decide +kernel
theorem dX5_hasColours_4 : decode cX5_hasColours 4 = .ok (.iload_n 2, 1) := by decide +kernel
theorem dX5_hasColours_5 : decode cX5_hasColours 5 = .ok (.aload_n 0, 1) := by decide +kernel
theorem dX5_hasColours_6 : decode cX5_hasColours 6 = .ok (.getfield 64, 3) := by decide +kernel
theorem dX5_hasColours_9 : decode cX5_hasColours 9 = .ok (.if_icmp .ge 29, 3) := by decide +kernel
theorem dX5_hasColours_12 : decode cX5_hasColours 12 = .ok (.iload_n 1, 1) := by decide +kernel
theorem dX5_hasColours_13 : decode cX5_hasColours 13 = .ok (.ifCond .ne 13, 3) := by decide +kernel
theorem dX5_hasColours_16 : decode cX5_hasColours 16 = .ok (.aload_n 0, 1) := by decide +kernel
theorem dX5_hasColours_17 : decode cX5_hasColours 17 = .ok (.getfield 24, 3) := by decide +kernel
theorem dX5_hasColours_20 : decode cX5_hasColours 20 = .ok (.iload_n 2, 1) := by decide +kernel
theorem dX5_hasColours_21 : decode cX5_hasColours 21 = .ok (.iaload, 1) := by decide +kernel
theorem dX5_hasColours_22 : decode cX5_hasColours 22 = .ok (.iconst 4, 1) := by decide +kernel
theorem dX5_hasColours_23 : decode cX5_hasColours 23 = .ok (.if_icmp .ne 7, 3) := by decide +kernel
theorem dX5_hasColours_26 : decode cX5_hasColours 26 = .ok (.iconst 1, 1) := by decide +kernel
theorem dX5_hasColours_27 : decode cX5_hasColours 27 = .ok (.goto 4, 3) := by decide +kernel
theorem dX5_hasColours_30 : decode cX5_hasColours 30 = .ok (.iconst 0, 1) := by decide +kernel
theorem dX5_hasColours_31 : decode cX5_hasColours 31 = .ok (.istore_n 1, 1) := by decide +kernel
theorem dX5_hasColours_32 : decode cX5_hasColours 32 = .ok (.iinc 2 1, 3) := by decide +kernel
theorem dX5_hasColours_35 : decode cX5_hasColours 35 = .ok (.goto (-31), 3) := by decide +kernel
theorem dX5_hasColours_38 : decode cX5_hasColours 38 = .ok (.iload_n 1, 1) := by decide +kernel
theorem dX5_hasColours_39 : decode cX5_hasColours 39 = .ok (.ireturn, 1) := by decide +kernel
theorem dX5_barred_0 : decode cX5_barred 0 = .ok (.aload_n 0, 1) := by decide +kernel
theorem dX5_barred_1 : decode cX5_barred 1 = .ok (.invokevirtual 71, 3) := by decide +kernel
theorem dX5_barred_4 : decode cX5_barred 4 = .ok (.iload_n 1, 1) := by decide +kernel
theorem dX5_barred_5 : decode cX5_barred 5 = .ok (.iconst 4, 1) := by decide +kernel
theorem dX5_barred_6 : decode cX5_barred 6 = .ok (.if_icmp .gt 18, 3) := by decide +kernel
theorem dX5_barred_9 : decode cX5_barred 9 = .ok (.aload_n 0, 1) := by decide +kernel
theorem dX5_barred_10 : decode cX5_barred 10 = .ok (.invokevirtual 74, 3) := by decide +kernel
theorem dX5_barred_13 : decode cX5_barred 13 = .ok (.ifCond .ne 7, 3) := by decide +kernel
theorem dX5_barred_16 : decode cX5_barred 16 = .ok (.iconst 1, 1) := by decide +kernel
theorem dX5_barred_17 : decode cX5_barred 17 = .ok (.goto 11, 3) := by decide +kernel
theorem dX5_barred_20 : decode cX5_barred 20 = .ok (.iconst 0, 1) := by decide +kernel
theorem dX5_barred_21 : decode cX5_barred 21 = .ok (.goto 7, 3) := by decide +kernel
theorem dX5_barred_24 : decode cX5_barred 24 = .ok (.aload_n 0, 1) := by decide +kernel
theorem dX5_barred_25 : decode cX5_barred 25 = .ok (.invokevirtual 74, 3) := by decide +kernel
theorem dX5_barred_28 : decode cX5_barred 28 = .ok (.istore_n 2, 1) := by decide +kernel
theorem dX5_barred_29 : decode cX5_barred 29 = .ok (.iload_n 2, 1) := by decide +kernel
theorem dX5_barred_30 : decode cX5_barred 30 = .ok (.ifCond .eq 35, 3) := by decide +kernel
theorem dX5_barred_33 : decode cX5_barred 33 = .ok (.iload_n 1, 1) := by decide +kernel
theorem dX5_barred_34 : decode cX5_barred 34 = .ok (.bipush 7, 2) := by decide +kernel
theorem dX5_barred_36 : decode cX5_barred 36 = .ok (.if_icmp .ne 32, 3) := by decide +kernel
theorem dX5_barred_39 : decode cX5_barred 39 = .ok (.aload_n 0, 1) := by decide +kernel
theorem dX5_barred_40 : decode cX5_barred 40 = .ok (.getfield 36, 3) := by decide +kernel
theorem dX5_barred_43 : decode cX5_barred 43 = .ok (.aload_n 0, 1) := by decide +kernel
theorem dX5_barred_44 : decode cX5_barred 44 = .ok (.getfield 64, 3) := by decide +kernel
theorem dX5_barred_47 : decode cX5_barred 47 = .ok (.iaload, 1) := by decide +kernel
theorem dX5_barred_48 : decode cX5_barred 48 = .ok (.iconst 2, 1) := by decide +kernel
theorem dX5_barred_49 : decode cX5_barred 49 = .ok (.if_icmp .lt 16, 3) := by decide +kernel
theorem dX5_barred_52 : decode cX5_barred 52 = .ok (.aload_n 0, 1) := by decide +kernel
theorem dX5_barred_53 : decode cX5_barred 53 = .ok (.getfield 39, 3) := by decide +kernel
theorem dX5_barred_56 : decode cX5_barred 56 = .ok (.aload_n 0, 1) := by decide +kernel
theorem dX5_barred_57 : decode cX5_barred 57 = .ok (.getfield 64, 3) := by decide +kernel
theorem dX5_barred_60 : decode cX5_barred 60 = .ok (.iaload, 1) := by decide +kernel
theorem dX5_barred_61 : decode cX5_barred 61 = .ok (.iconst 2, 1) := by decide +kernel
theorem dX5_barred_62 : decode cX5_barred 62 = .ok (.if_icmp .ge 6, 3) := by decide +kernel
theorem dX5_barred_65 : decode cX5_barred 65 = .ok (.bipush (-103), 2) := by decide +kernel
theorem dX5_barred_67 : decode cX5_barred 67 = .ok (.ireturn, 1) := by decide +kernel
theorem dX5_barred_68 : decode cX5_barred 68 = .ok (.aload_n 0, 1) := by decide +kernel
theorem dX5_barred_69 : decode cX5_barred 69 = .ok (.getfield 64, 3) := by decide +kernel
theorem dX5_barred_72 : decode cX5_barred 72 = .ok (.bipush 10, 2) := by decide +kernel
theorem dX5_barred_74 : decode cX5_barred 74 = .ok (.if_icmp .ne 8, 3) := by decide +kernel
theorem dX5_barred_77 : decode cX5_barred 77 = .ok (.bipush (-104), 2) := by decide +kernel
theorem dX5_barred_79 : decode cX5_barred 79 = .ok (.goto 4, 3) := by decide +kernel
theorem dX5_barred_82 : decode cX5_barred 82 = .ok (.iconst 0, 1) := by decide +kernel
theorem dX5_barred_83 : decode cX5_barred 83 = .ok (.ireturn, 1) := by decide +kernel
theorem dX5_come_0 : decode cX5_come 0 = .ok (.aload_n 0, 1) := by decide +kernel
theorem dX5_come_1 : decode cX5_come 1 = .ok (.getfield 24, 3) := by decide +kernel
theorem dX5_come_4 : decode cX5_come 4 = .ok (.aload_n 0, 1) := by decide +kernel
theorem dX5_come_5 : decode cX5_come 5 = .ok (.getfield 64, 3) := by decide +kernel
theorem dX5_come_8 : decode cX5_come 8 = .ok (.iload_n 1, 1) := by decide +kernel
theorem dX5_come_9 : decode cX5_come 9 = .ok (.iastore, 1) := by decide +kernel
theorem dX5_come_10 : decode cX5_come 10 = .ok (.aload_n 0, 1) := by decide +kernel
theorem dX5_come_11 : decode cX5_come 11 = .ok (.dup, 1) := by decide +kernel
theorem dX5_come_12 : decode cX5_come 12 = .ok (.getfield 64, 3) := by decide +kernel
theorem dX5_come_15 : decode cX5_come 15 = .ok (.iconst 1, 1) := by decide +kernel
theorem dX5_come_16 : decode cX5_come 16 = .ok (.iadd, 1) := by decide +kernel
theorem dX5_come_17 : decode cX5_come 17 = .ok (.putfield 64, 3) := by decide +kernel
theorem dX5_come_20 : decode cX5_come 20 = .ok (.aload_n 0, 1) := by decide +kernel
theorem dX5_come_21 : decode cX5_come 21 = .ok (.getfield 64, 3) := by decide +kernel
theorem dX5_come_24 : decode cX5_come 24 = .ok (.ireturn, 1) := by decide +kernel
theorem dX5_black_0 : decode cX5_black 0 = .ok (.iload_n 1, 1) := by decide +kernel
theorem dX5_black_1 : decode cX5_black 1 = .ok (.iconst 0, 1) := by decide +kernel
theorem dX5_black_2 : decode cX5_black 2 = .ok (.sipush 1023, 3) := by decide +kernel
theorem dX5_black_5 : decode cX5_black 5 = .ok (.invokestatic 60, 3) := by decide +kernel
theorem dX5_black_8 : decode cX5_black 8 = .ok (.ifCond .ne 6, 3) := by decide +kernel
theorem dX5_black_11 : decode cX5_black 11 = .ok (.bipush (-102), 2) := by decide +kernel
theorem dX5_black_13 : decode cX5_black 13 = .ok (.ireturn, 1) := by decide +kernel
theorem dX5_black_14 : decode cX5_black 14 = .ok (.aload_n 0, 1) := by decide +kernel
theorem dX5_black_15 : decode cX5_black 15 = .ok (.iconst 0, 1) := by decide +kernel
theorem dX5_black_16 : decode cX5_black 16 = .ok (.invokevirtual 78, 3) := by decide +kernel
theorem dX5_black_19 : decode cX5_black 19 = .ok (.istore_n 2, 1) := by decide +kernel
theorem dX5_black_20 : decode cX5_black 20 = .ok (.iload_n 2, 1) := by decide +kernel
theorem dX5_black_21 : decode cX5_black 21 = .ok (.ifCond .eq 5, 3) := by decide +kernel
theorem dX5_black_24 : decode cX5_black 24 = .ok (.iload_n 2, 1) := by decide +kernel
theorem dX5_black_25 : decode cX5_black 25 = .ok (.ireturn, 1) := by decide +kernel
theorem dX5_black_26 : decode cX5_black 26 = .ok (.aload_n 0, 1) := by decide +kernel
theorem dX5_black_27 : decode cX5_black 27 = .ok (.getfield 27, 3) := by decide +kernel
theorem dX5_black_30 : decode cX5_black 30 = .ok (.bipush 17, 2) := by decide +kernel
theorem dX5_black_32 : decode cX5_black 32 = .ok (.aload_n 0, 1) := by decide +kernel
theorem dX5_black_33 : decode cX5_black 33 = .ok (.getfield 64, 3) := by decide +kernel
theorem dX5_black_36 : decode cX5_black 36 = .ok (.imul, 1) := by decide +kernel
theorem dX5_black_37 : decode cX5_black 37 = .ok (.iload_n 1, 1) := by decide +kernel
theorem dX5_black_38 : decode cX5_black 38 = .ok (.iastore, 1) := by decide +kernel
theorem dX5_black_39 : decode cX5_black 39 = .ok (.aload_n 0, 1) := by decide +kernel
theorem dX5_black_40 : decode cX5_black 40 = .ok (.iconst 0, 1) := by decide +kernel
theorem dX5_black_41 : decode cX5_black 41 = .ok (.invokevirtual 82, 3) := by decide +kernel
theorem dX5_black_44 : decode cX5_black 44 = .ok (.ireturn, 1) := by decide +kernel
theorem dX5_gain_0 : decode cX5_gain 0 = .ok (.iload_n 1, 1) := by decide +kernel
theorem dX5_gain_1 : decode cX5_gain 1 = .ok (.iconst 0, 1) := by decide +kernel
theorem dX5_gain_2 : decode cX5_gain 2 = .ok (.sipush 8000, 3) := by decide +kernel
theorem dX5_gain_5 : decode cX5_gain 5 = .ok (.invokestatic 60, 3) := by decide +kernel
theorem dX5_gain_8 : decode cX5_gain 8 = .ok (.ifCond .eq 25, 3) := by decide +kernel
theorem dX5_gain_11 : decode cX5_gain 11 = .ok (.iload_n 2, 1) := by decide +kernel
theorem dX5_gain_12 : decode cX5_gain 12 = .ok (.iconst 0, 1) := by decide +kernel
theorem dX5_gain_13 : decode cX5_gain 13 = .ok (.sipush 8000, 3) := by decide +kernel
theorem dX5_gain_16 : decode cX5_gain 16 = .ok (.invokestatic 60, 3) := by decide +kernel
theorem dX5_gain_19 : decode cX5_gain 19 = .ok (.ifCond .eq 14, 3) := by decide +kernel
theorem dX5_gain_22 : decode cX5_gain 22 = .ok (.iload_n 3, 1) := by decide +kernel
theorem dX5_gain_23 : decode cX5_gain 23 = .ok (.iconst 0, 1) := by decide +kernel
theorem dX5_gain_24 : decode cX5_gain 24 = .ok (.sipush 8000, 3) := by decide +kernel
theorem dX5_gain_27 : decode cX5_gain 27 = .ok (.invokestatic 60, 3) := by decide +kernel
theorem dX5_gain_30 : decode cX5_gain 30 = .ok (.ifCond .ne 6, 3) := by decide +kernel
theorem dX5_gain_33 : decode cX5_gain 33 = .ok (.bipush (-102), 2) := by decide +kernel
theorem dX5_gain_35 : decode cX5_gain 35 = .ok (.ireturn, 1) := by decide +kernel
theorem dX5_gain_36 : decode cX5_gain 36 = .ok (.aload_n 0, 1) := by decide +kernel
theorem dX5_gain_37 : decode cX5_gain 37 = .ok (.iconst 1, 1) := by decide +kernel
theorem dX5_gain_38 : decode cX5_gain 38 = .ok (.invokevirtual 78, 3) := by decide +kernel
theorem dX5_gain_41 : decode cX5_gain 41 = .ok (.istore 4, 2) := by decide +kernel
theorem dX5_gain_43 : decode cX5_gain 43 = .ok (.iload 4, 2) := by decide +kernel
theorem dX5_gain_45 : decode cX5_gain 45 = .ok (.ifCond .eq 6, 3) := by decide +kernel
theorem dX5_gain_48 : decode cX5_gain 48 = .ok (.iload 4, 2) := by decide +kernel
theorem dX5_gain_50 : decode cX5_gain 50 = .ok (.ireturn, 1) := by decide +kernel
theorem dX5_gain_51 : decode cX5_gain 51 = .ok (.aload_n 0, 1) := by decide +kernel
theorem dX5_gain_52 : decode cX5_gain 52 = .ok (.getfield 27, 3) := by decide +kernel
theorem dX5_gain_55 : decode cX5_gain 55 = .ok (.bipush 17, 2) := by decide +kernel
theorem dX5_gain_57 : decode cX5_gain 57 = .ok (.aload_n 0, 1) := by decide +kernel
theorem dX5_gain_58 : decode cX5_gain 58 = .ok (.getfield 64, 3) := by decide +kernel
theorem dX5_gain_61 : decode cX5_gain 61 = .ok (.imul, 1) := by decide +kernel
theorem dX5_gain_62 : decode cX5_gain 62 = .ok (.iload_n 1, 1) := by decide +kernel
theorem dX5_gain_63 : decode cX5_gain 63 = .ok (.iastore, 1) := by decide +kernel
theorem dX5_gain_64 : decode cX5_gain 64 = .ok (.aload_n 0, 1) := by decide +kernel
theorem dX5_gain_65 : decode cX5_gain 65 = .ok (.getfield 27, 3) := by decide +kernel
