theorem dX2_mended_89 : decode cX2_mended 89 = .ok (.iload 8, 2) := by decide +kernel
theorem dX2_mended_91 : decode cX2_mended 91 = .ok (.iload 9, 2) := by decide +kernel
theorem dX2_mended_93 : decode cX2_mended 93 = .ok (.iconst 0, 1) := by decide +kernel
theorem dX2_mended_94 : decode cX2_mended 94 = .ok (.invokevirtual 39, 3) := by decide +kernel
theorem dX2_mended_97 : decode cX2_mended 97 = .ok (.iadd, 1) := by decide +kernel
theorem dX2_mended_98 : decode cX2_mended 98 = .ok (.istore 5, 2) := by decide +kernel
theorem dX2_mended_100 : decode cX2_mended 100 = .ok (.iinc 6 1, 3) := by decide +kernel
theorem dX2_mended_103 : decode cX2_mended 103 = .ok (.iinc 7 1, 3) := by decide +kernel
theorem dX2_mended_106 : decode cX2_mended 106 = .ok (.goto (-72), 3) := by decide +kernel
theorem dX2_mended_109 : decode cX2_mended 109 = .ok (.iload 6, 2) := by decide +kernel
theorem dX2_mended_111 : decode cX2_mended 111 = .ok (.ifCond .ne 8, 3) := by decide +kernel
theorem dX2_mended_114 : decode cX2_mended 114 = .ok (.iload 4, 2) := by decide +kernel
theorem dX2_mended_116 : decode cX2_mended 116 = .ok (.goto 8, 3) := by decide +kernel
theorem dX2_mended_119 : decode cX2_mended 119 = .ok (.iload 5, 2) := by decide +kernel
theorem dX2_mended_121 : decode cX2_mended 121 = .ok (.iload 6, 2) := by decide +kernel
theorem dX2_mended_123 : decode cX2_mended 123 = .ok (.idiv, 1) := by decide +kernel
theorem dX2_mended_124 : decode cX2_mended 124 = .ok (.ireturn, 1) := by decide +kernel
theorem dX2_middle_0 : decode cX2_middle 0 = .ok (.aload_n 0, 1) := by decide +kernel
theorem dX2_middle_1 : decode cX2_middle 1 = .ok (.iload_n 2, 1) := by decide +kernel
theorem dX2_middle_2 : decode cX2_middle 2 = .ok (.iload_n 3, 1) := by decide +kernel
theorem dX2_middle_3 : decode cX2_middle 3 = .ok (.iconst 0, 1) := by decide +kernel
theorem dX2_middle_4 : decode cX2_middle 4 = .ok (.invokevirtual 39, 3) := by decide +kernel
theorem dX2_middle_7 : decode cX2_middle 7 = .ok (.istore 4, 2) := by decide +kernel
theorem dX2_middle_9 : decode cX2_middle 9 = .ok (.aload_n 0, 1) := by decide +kernel
theorem dX2_middle_10 : decode cX2_middle 10 = .ok (.getfield 18, 3) := by decide +kernel
theorem dX2_middle_13 : decode cX2_middle 13 = .ok (.iconst 4, 1) := by decide +kernel
theorem dX2_middle_14 : decode cX2_middle 14 = .ok (.iload 4, 2) := by decide +kernel
theorem dX2_middle_16 : decode cX2_middle 16 = .ok (.iastore, 1) := by decide +kernel
theorem dX2_middle_17 : decode cX2_middle 17 = .ok (.iconst 0, 1) := by decide +kernel
theorem dX2_middle_18 : decode cX2_middle 18 = .ok (.istore 5, 2) := by decide +kernel
theorem dX2_middle_20 : decode cX2_middle 20 = .ok (.iload 5, 2) := by decide +kernel
theorem dX2_middle_22 : decode cX2_middle 22 = .ok (.iconst 4, 1) := by decide +kernel
theorem dX2_middle_23 : decode cX2_middle 23 = .ok (.if_icmp .ge 61, 3) := by decide +kernel
theorem dX2_middle_26 : decode cX2_middle 26 = .ok (.iload_n 2, 1) := by decide +kernel
theorem dX2_middle_27 : decode cX2_middle 27 = .ok (.getstatic 119, 3) := by decide +kernel
theorem dX2_middle_30 : decode cX2_middle 30 = .ok (.iload 5, 2) := by decide +kernel
theorem dX2_middle_32 : decode cX2_middle 32 = .ok (.iaload, 1) := by decide +kernel
theorem dX2_middle_33 : decode cX2_middle 33 = .ok (.iadd, 1) := by decide +kernel
theorem dX2_middle_34 : decode cX2_middle 34 = .ok (.istore 6, 2) := by decide +kernel
theorem dX2_middle_36 : decode cX2_middle 36 = .ok (.iload_n 3, 1) := by decide +kernel
theorem dX2_middle_37 : decode cX2_middle 37 = .ok (.getstatic 122, 3) := by decide +kernel
theorem dX2_middle_40 : decode cX2_middle 40 = .ok (.iload 5, 2) := by decide +kernel
theorem dX2_middle_42 : decode cX2_middle 42 = .ok (.iaload, 1) := by decide +kernel
theorem dX2_middle_43 : decode cX2_middle 43 = .ok (.iadd, 1) := by decide +kernel
theorem dX2_middle_44 : decode cX2_middle 44 = .ok (.istore 7, 2) := by decide +kernel
theorem dX2_middle_46 : decode cX2_middle 46 = .ok (.aload_n 0, 1) := by decide +kernel
theorem dX2_middle_47 : decode cX2_middle 47 = .ok (.getfield 18, 3) := by decide +kernel
theorem dX2_middle_50 : decode cX2_middle 50 = .ok (.iload 5, 2) := by decide +kernel
theorem dX2_middle_52 : decode cX2_middle 52 = .ok (.aload_n 1, 1) := by decide +kernel
theorem dX2_middle_53 : decode cX2_middle 53 = .ok (.iload 6, 2) := by decide +kernel
theorem dX2_middle_55 : decode cX2_middle 55 = .ok (.iload 7, 2) := by decide +kernel
theorem dX2_middle_57 : decode cX2_middle 57 = .ok (.invokevirtual 125, 3) := by decide +kernel
theorem dX2_middle_60 : decode cX2_middle 60 = .ok (.ifCond .eq 15, 3) := by decide +kernel
theorem dX2_middle_63 : decode cX2_middle 63 = .ok (.aload_n 0, 1) := by decide +kernel
theorem dX2_middle_64 : decode cX2_middle 64 = .ok (.iload 6, 2) := by decide +kernel
theorem dX2_middle_66 : decode cX2_middle 66 = .ok (.iload 7, 2) := by decide +kernel
theorem dX2_middle_68 : decode cX2_middle 68 = .ok (.iconst 0, 1) := by decide +kernel
theorem dX2_middle_69 : decode cX2_middle 69 = .ok (.invokevirtual 39, 3) := by decide +kernel
theorem dX2_middle_72 : decode cX2_middle 72 = .ok (.goto 5, 3) := by decide +kernel
theorem dX2_middle_75 : decode cX2_middle 75 = .ok (.iload 4, 2) := by decide +kernel
theorem dX2_middle_77 : decode cX2_middle 77 = .ok (.iastore, 1) := by decide +kernel
theorem dX2_middle_78 : decode cX2_middle 78 = .ok (.iinc 5 1, 3) := by decide +kernel
theorem dX2_middle_81 : decode cX2_middle 81 = .ok (.goto (-61), 3) := by decide +kernel
theorem dX2_middle_84 : decode cX2_middle 84 = .ok (.aload_n 0, 1) := by decide +kernel
theorem dX2_middle_85 : decode cX2_middle 85 = .ok (.invokevirtual 128, 3) := by decide +kernel
theorem dX2_middle_88 : decode cX2_middle 88 = .ok (.aload_n 0, 1) := by decide +kernel
theorem dX2_middle_89 : decode cX2_middle 89 = .ok (.getfield 18, 3) := by decide +kernel
theorem dX2_middle_92 : decode cX2_middle 92 = .ok (.iconst 2, 1) := by decide +kernel
theorem dX2_middle_93 : decode cX2_middle 93 = .ok (.iaload, 1) := by decide +kernel
theorem dX2_middle_94 : decode cX2_middle 94 = .ok (.ireturn, 1) := by decide +kernel
theorem dX2_putFiveInOrder_0 : decode cX2_putFiveInOrder 0 = .ok (.iconst 1, 1) := by decide +kernel
theorem dX2_putFiveInOrder_1 : decode cX2_putFiveInOrder 1 = .ok (.istore_n 1, 1) := by decide +kernel
theorem dX2_putFiveInOrder_2 : decode cX2_putFiveInOrder 2 = .ok (.iload_n 1, 1) := by decide +kernel
theorem dX2_putFiveInOrder_3 : decode cX2_putFiveInOrder 3 = .ok (.aload_n 0, 1) := by decide +kernel
theorem dX2_putFiveInOrder_4 : decode cX2_putFiveInOrder 4 = .ok (.getfield 18, 3) := by decide +kernel
theorem dX2_putFiveInOrder_7 : decode cX2_putFiveInOrder 7 = .ok (.arraylength, 1) := by decide +kernel
theorem dX2_putFiveInOrder_8 : decode cX2_putFiveInOrder 8 = .ok (.if_icmp .ge 61, 3) := by decide +kernel
theorem dX2_putFiveInOrder_11 : decode cX2_putFiveInOrder 11 = .ok (.aload_n 0, 1) := by decide +kernel
theorem dX2_putFiveInOrder_12 : decode cX2_putFiveInOrder 12 = .ok (.getfield 18, 3) := by decide +kernel
theorem dX2_putFiveInOrder_15 : decode cX2_putFiveInOrder 15 = .ok (.iload_n 1, 1) := by decide +kernel
theorem dX2_putFiveInOrder_16 : decode cX2_putFiveInOrder 16 = .ok (.iaload, 1) := by decide +kernel
theorem dX2_putFiveInOrder_17 : decode cX2_putFiveInOrder 17 = .ok (.istore_n 2, 1) := by decide +kernel
theorem dX2_putFiveInOrder_18 : decode cX2_putFiveInOrder 18 = .ok (.iload_n 1, 1) := by decide +kernel
theorem dX2_putFiveInOrder_19 : decode cX2_putFiveInOrder 19 = .ok (.istore_n 3, 1) := by decide +kernel
theorem dX2_putFiveInOrder_20 : decode cX2_putFiveInOrder 20 = .ok (.iload_n 3, 1) := by decide +kernel
theorem dX2_putFiveInOrder_21 : decode cX2_putFiveInOrder 21 = .ok (.ifCond .le 35, 3) := by decide +kernel
theorem dX2_putFiveInOrder_24 : decode cX2_putFiveInOrder 24 = .ok (.aload_n 0, 1) := by decide +kernel
theorem dX2_putFiveInOrder_25 : decode cX2_putFiveInOrder 25 = .ok (.getfield 18, 3) := by decide +kernel
theorem dX2_putFiveInOrder_28 : decode cX2_putFiveInOrder 28 = .ok (.iload_n 3, 1) := by decide +kernel
theorem dX2_putFiveInOrder_29 : decode cX2_putFiveInOrder 29 = .ok (.iconst 1, 1) := by decide +kernel
theorem dX2_putFiveInOrder_30 : decode cX2_putFiveInOrder 30 = .ok (.isub, 1) := by decide +kernel
theorem dX2_putFiveInOrder_31 : decode cX2_putFiveInOrder 31 = .ok (.iaload, 1) := by decide +kernel
theorem dX2_putFiveInOrder_32 : decode cX2_putFiveInOrder 32 = .ok (.iload_n 2, 1) := by decide +kernel
theorem dX2_putFiveInOrder_33 : decode cX2_putFiveInOrder 33 = .ok (.if_icmp .le 23, 3) := by decide +kernel
theorem dX2_putFiveInOrder_36 : decode cX2_putFiveInOrder 36 = .ok (.aload_n 0, 1) := by decide +kernel
theorem dX2_putFiveInOrder_37 : decode cX2_putFiveInOrder 37 = .ok (.getfield 18, 3) := by decide +kernel
theorem dX2_putFiveInOrder_40 : decode cX2_putFiveInOrder 40 = .ok (.iload_n 3, 1) := by decide +kernel
theorem dX2_putFiveInOrder_41 : decode cX2_putFiveInOrder 41 = .ok (.aload_n 0, 1) := by decide +kernel
theorem dX2_putFiveInOrder_42 : decode cX2_putFiveInOrder 42 = .ok (.getfield 18, 3) := by decide +kernel
theorem dX2_putFiveInOrder_45 : decode cX2_putFiveInOrder 45 = .ok (.iload_n 3, 1) := by decide +kernel
theorem dX2_putFiveInOrder_46 : decode cX2_putFiveInOrder 46 = .ok (.iconst 1, 1) := by decide +kernel
theorem dX2_putFiveInOrder_47 : decode cX2_putFiveInOrder 47 = .ok (.isub, 1) := by decide +kernel
theorem dX2_putFiveInOrder_48 : decode cX2_putFiveInOrder 48 = .ok (.iaload, 1) := by decide +kernel
theorem dX2_putFiveInOrder_49 : decode cX2_putFiveInOrder 49 = .ok (.iastore, 1) := by decide +kernel
theorem dX2_putFiveInOrder_50 : decode cX2_putFiveInOrder 50 = .ok (.iinc 3 (-1), 3) := by decide +kernel
theorem dX2_putFiveInOrder_53 : decode cX2_putFiveInOrder 53 = .ok (.goto (-33), 3) := by decide +kernel
theorem dX2_putFiveInOrder_56 : decode cX2_putFiveInOrder 56 = .ok (.aload_n 0, 1) := by decide +kernel
theorem dX2_putFiveInOrder_57 : decode cX2_putFiveInOrder 57 = .ok (.getfield 18, 3) := by decide +kernel
theorem dX2_putFiveInOrder_60 : decode cX2_putFiveInOrder 60 = .ok (.iload_n 3, 1) := by decide +kernel
theorem dX2_putFiveInOrder_61 : decode cX2_putFiveInOrder 61 = .ok (.iload_n 2, 1) := by decide +kernel
theorem dX2_putFiveInOrder_62 : decode cX2_putFiveInOrder 62 = .ok (.iastore, 1) := by decide +kernel
theorem dX2_putFiveInOrder_63 : decode cX2_putFiveInOrder 63 = .ok (.iinc 1 1, 3) := by decide +kernel
theorem dX2_putFiveInOrder_66 : decode cX2_putFiveInOrder 66 = .ok (.goto (-64), 3) := by decide +kernel
theorem dX2_putFiveInOrder_69 : decode cX2_putFiveInOrder 69 = .ok (.return_, 1) := by decide +kernel
theorem dX2_filled_0 : decode cX2_filled 0 = .ok (.iload_n 2, 1) := by decide +kernel
theorem dX2_filled_1 : decode cX2_filled 1 = .ok (.iload_n 3, 1) := by decide +kernel
theorem dX2_filled_2 : decode cX2_filled 2 = .ok (.invokestatic 89, 3) := by decide +kernel
theorem dX2_filled_5 : decode cX2_filled 5 = .ok (.iload 4, 2) := by decide +kernel
theorem dX2_filled_7 : decode cX2_filled 7 = .ok (.if_icmp .ne 11, 3) := by decide +kernel
theorem dX2_filled_10 : decode cX2_filled 10 = .ok (.aload_n 0, 1) := by decide +kernel
theorem dX2_filled_11 : decode cX2_filled 11 = .ok (.iload_n 2, 1) := by decide +kernel
theorem dX2_filled_12 : decode cX2_filled 12 = .ok (.iload_n 3, 1) := by decide +kernel
theorem dX2_filled_13 : decode cX2_filled 13 = .ok (.iconst 0, 1) := by decide +kernel
theorem dX2_filled_14 : decode cX2_filled 14 = .ok (.invokevirtual 39, 3) := by decide +kernel
theorem dX2_filled_17 : decode cX2_filled 17 = .ok (.ireturn, 1) := by decide +kernel
theorem dX2_filled_18 : decode cX2_filled 18 = .ok (.iconst 0, 1) := by decide +kernel
theorem dX2_filled_19 : decode cX2_filled 19 = .ok (.istore 5, 2) := by decide +kernel
theorem dX2_filled_21 : decode cX2_filled 21 = .ok (.iconst 0, 1) := by decide +kernel
theorem dX2_filled_22 : decode cX2_filled 22 = .ok (.istore 6, 2) := by decide +kernel
theorem dX2_filled_24 : decode cX2_filled 24 = .ok (.iload_n 3, 1) := by decide +kernel
theorem dX2_filled_25 : decode cX2_filled 25 = .ok (.iconst 1, 1) := by decide +kernel
theorem dX2_filled_26 : decode cX2_filled 26 = .ok (.isub, 1) := by decide +kernel
theorem dX2_filled_27 : decode cX2_filled 27 = .ok (.istore 7, 2) := by decide +kernel
theorem dX2_filled_29 : decode cX2_filled 29 = .ok (.iload 7, 2) := by decide +kernel
theorem dX2_filled_31 : decode cX2_filled 31 = .ok (.iload_n 3, 1) := by decide +kernel
theorem dX2_filled_32 : decode cX2_filled 32 = .ok (.iconst 1, 1) := by decide +kernel
theorem dX2_filled_33 : decode cX2_filled 33 = .ok (.iadd, 1) := by decide +kernel
theorem dX2_filled_34 : decode cX2_filled 34 = .ok (.if_icmp .gt 68, 3) := by decide +kernel
theorem dX2_filled_37 : decode cX2_filled 37 = .ok (.iload_n 2, 1) := by decide +kernel
theorem dX2_filled_38 : decode cX2_filled 38 = .ok (.iconst 1, 1) := by decide +kernel
theorem dX2_filled_39 : decode cX2_filled 39 = .ok (.isub, 1) := by decide +kernel
theorem dX2_filled_40 : decode cX2_filled 40 = .ok (.istore 8, 2) := by decide +kernel
theorem dX2_filled_42 : decode cX2_filled 42 = .ok (.iload 8, 2) := by decide +kernel
theorem dX2_filled_44 : decode cX2_filled 44 = .ok (.iload_n 2, 1) := by decide +kernel
theorem dX2_filled_45 : decode cX2_filled 45 = .ok (.iconst 1, 1) := by decide +kernel
theorem dX2_filled_46 : decode cX2_filled 46 = .ok (.iadd, 1) := by decide +kernel
theorem dX2_filled_47 : decode cX2_filled 47 = .ok (.if_icmp .gt 49, 3) := by decide +kernel
theorem dX2_filled_50 : decode cX2_filled 50 = .ok (.aload_n 1, 1) := by decide +kernel
theorem dX2_filled_51 : decode cX2_filled 51 = .ok (.iload 8, 2) := by decide +kernel
theorem dX2_filled_53 : decode cX2_filled 53 = .ok (.iload 7, 2) := by decide +kernel
theorem dX2_filled_55 : decode cX2_filled 55 = .ok (.invokevirtual 125, 3) := by decide +kernel
theorem dX2_filled_58 : decode cX2_filled 58 = .ok (.ifCond .eq 32, 3) := by decide +kernel
theorem dX2_filled_61 : decode cX2_filled 61 = .ok (.iload 8, 2) := by decide +kernel
theorem dX2_filled_63 : decode cX2_filled 63 = .ok (.iload 7, 2) := by decide +kernel
theorem dX2_filled_65 : decode cX2_filled 65 = .ok (.invokestatic 89, 3) := by decide +kernel
theorem dX2_filled_68 : decode cX2_filled 68 = .ok (.iload 4, 2) := by decide +kernel
theorem dX2_filled_70 : decode cX2_filled 70 = .ok (.if_icmp .ne 20, 3) := by decide +kernel
theorem dX2_filled_73 : decode cX2_filled 73 = .ok (.iload 5, 2) := by decide +kernel
theorem dX2_filled_75 : decode cX2_filled 75 = .ok (.aload_n 0, 1) := by decide +kernel
theorem dX2_filled_76 : decode cX2_filled 76 = .ok (.iload 8, 2) := by decide +kernel
theorem dX2_filled_78 : decode cX2_filled 78 = .ok (.iload 7, 2) := by decide +kernel
theorem dX2_filled_80 : decode cX2_filled 80 = .ok (.iconst 0, 1) := by decide +kernel
theorem dX2_filled_81 : decode cX2_filled 81 = .ok (.invokevirtual 39, 3) := by decide +kernel
theorem dX2_filled_84 : decode cX2_filled 84 = .ok (.iadd, 1) := by decide +kernel
theorem dX2_filled_85 : decode cX2_filled 85 = .ok (.istore 5, 2) := by decide +kernel
theorem dX2_filled_87 : decode cX2_filled 87 = .ok (.iinc 6 1, 3) := by decide +kernel
theorem dX2_filled_90 : decode cX2_filled 90 = .ok (.iinc 8 1, 3) := by decide +kernel
theorem dX2_filled_93 : decode cX2_filled 93 = .ok (.goto (-51), 3) := by decide +kernel
theorem dX2_filled_96 : decode cX2_filled 96 = .ok (.iinc 7 1, 3) := by decide +kernel
theorem dX2_filled_99 : decode cX2_filled 99 = .ok (.goto (-70), 3) := by decide +kernel
theorem dX2_filled_102 : decode cX2_filled 102 = .ok (.iload 6, 2) := by decide +kernel
theorem dX2_filled_104 : decode cX2_filled 104 = .ok (.ifCond .ne 7, 3) := by decide +kernel
theorem dX2_filled_107 : decode cX2_filled 107 = .ok (.iconst 0, 1) := by decide +kernel
theorem dX2_filled_108 : decode cX2_filled 108 = .ok (.goto 8, 3) := by decide +kernel
theorem dX2_filled_111 : decode cX2_filled 111 = .ok (.iload 5, 2) := by decide +kernel
theorem dX2_filled_113 : decode cX2_filled 113 = .ok (.iload 6, 2) := by decide +kernel
theorem dX2_filled_115 : decode cX2_filled 115 = .ok (.idiv, 1) := by decide +kernel
theorem dX2_filled_116 : decode cX2_filled 116 = .ok (.ireturn, 1) := by decide +kernel
theorem dX2_mingled_0 : decode cX2_mingled 0 = .ok (.iconst 0, 1) := by decide +kernel
theorem dX2_mingled_1 : decode cX2_mingled 1 = .ok (.istore 5, 2) := by decide +kernel
theorem dX2_mingled_3 : decode cX2_mingled 3 = .ok (.iconst 0, 1) := by decide +kernel
theorem dX2_mingled_4 : decode cX2_mingled 4 = .ok (.istore 6, 2) := by decide +kernel
theorem dX2_mingled_6 : decode cX2_mingled 6 = .ok (.iload 6, 2) := by decide +kernel
theorem dX2_mingled_8 : decode cX2_mingled 8 = .ok (.iconst 3, 1) := by decide +kernel
theorem dX2_mingled_9 : decode cX2_mingled 9 = .ok (.if_icmp .ge 32, 3) := by decide +kernel
theorem dX2_mingled_12 : decode cX2_mingled 12 = .ok (.iload 5, 2) := by decide +kernel
theorem dX2_mingled_14 : decode cX2_mingled 14 = .ok (.aload_n 1, 1) := by decide +kernel
theorem dX2_mingled_15 : decode cX2_mingled 15 = .ok (.iload 4, 2) := by decide +kernel
theorem dX2_mingled_17 : decode cX2_mingled 17 = .ok (.iconst 3, 1) := by decide +kernel
theorem dX2_mingled_18 : decode cX2_mingled 18 = .ok (.imul, 1) := by decide +kernel
theorem dX2_mingled_19 : decode cX2_mingled 19 = .ok (.iload 6, 2) := by decide +kernel
theorem dX2_mingled_21 : decode cX2_mingled 21 = .ok (.iadd, 1) := by decide +kernel
theorem dX2_mingled_22 : decode cX2_mingled 22 = .ok (.iaload, 1) := by decide +kernel
theorem dX2_mingled_23 : decode cX2_mingled 23 = .ok (.aload_n 0, 1) := by decide +kernel
theorem dX2_mingled_24 : decode cX2_mingled 24 = .ok (.iload_n 2, 1) := by decide +kernel
theorem dX2_mingled_25 : decode cX2_mingled 25 = .ok (.iload_n 3, 1) := by decide +kernel
theorem dX2_mingled_26 : decode cX2_mingled 26 = .ok (.iload 6, 2) := by decide +kernel
theorem dX2_mingled_28 : decode cX2_mingled 28 = .ok (.invokevirtual 39, 3) := by decide +kernel
theorem dX2_mingled_31 : decode cX2_mingled 31 = .ok (.imul, 1) := by decide +kernel
theorem dX2_mingled_32 : decode cX2_mingled 32 = .ok (.iadd, 1) := by decide +kernel
theorem dX2_mingled_33 : decode cX2_mingled 33 = .ok (.istore 5, 2) := by decide +kernel
theorem dX2_mingled_35 : decode cX2_mingled 35 = .ok (.iinc 6 1, 3) := by decide +kernel
theorem dX2_mingled_38 : decode cX2_mingled 38 = .ok (.goto (-32), 3) := by decide +kernel
theorem dX2_mingled_41 : decode cX2_mingled 41 = .ok (.iload 5, 2) := by decide +kernel
theorem dX2_mingled_43 : decode cX2_mingled 43 = .ok (.sipush 1000, 3) := by decide +kernel
theorem dX2_mingled_46 : decode cX2_mingled 46 = .ok (.invokestatic 131, 3) := by decide +kernel
theorem dX2_mingled_49 : decode cX2_mingled 49 = .ok (.ireturn, 1) := by decide +kernel
theorem dX2_bent_0 : decode cX2_bent 0 = .ok (.iload_n 1, 1) := by decide +kernel
theorem dX2_bent_1 : decode cX2_bent 1 = .ok (.sipush 256, 3) := by decide +kernel
theorem dX2_bent_4 : decode cX2_bent 4 = .ok (.idiv, 1) := by decide +kernel
theorem dX2_bent_5 : decode cX2_bent 5 = .ok (.istore_n 2, 1) := by decide +kernel
theorem dX2_bent_6 : decode cX2_bent 6 = .ok (.iload_n 1, 1) := by decide +kernel
theorem dX2_bent_7 : decode cX2_bent 7 = .ok (.sipush 256, 3) := by decide +kernel
theorem dX2_bent_10 : decode cX2_bent 10 = .ok (.irem, 1) := by decide +kernel
theorem dX2_bent_11 : decode cX2_bent 11 = .ok (.istore_n 3, 1) := by decide +kernel
theorem dX2_bent_12 : decode cX2_bent 12 = .ok (.aload_n 0, 1) := by decide +kernel
theorem dX2_bent_13 : decode cX2_bent 13 = .ok (.iload_n 2, 1) := by decide +kernel
theorem dX2_bent_14 : decode cX2_bent 14 = .ok (.iaload, 1) := by decide +kernel
theorem dX2_bent_15 : decode cX2_bent 15 = .ok (.aload_n 0, 1) := by decide +kernel
theorem dX2_bent_16 : decode cX2_bent 16 = .ok (.iload_n 2, 1) := by decide +kernel
theorem dX2_bent_17 : decode cX2_bent 17 = .ok (.iconst 1, 1) := by decide +kernel
theorem dX2_bent_18 : decode cX2_bent 18 = .ok (.iadd, 1) := by decide +kernel
theorem dX2_bent_19 : decode cX2_bent 19 = .ok (.iaload, 1) := by decide +kernel
theorem dX2_bent_20 : decode cX2_bent 20 = .ok (.aload_n 0, 1) := by decide +kernel
theorem dX2_bent_21 : decode cX2_bent 21 = .ok (.iload_n 2, 1) := by decide +kernel
theorem dX2_bent_22 : decode cX2_bent 22 = .ok (.iaload, 1) := by decide +kernel
theorem dX2_bent_23 : decode cX2_bent 23 = .ok (.isub, 1) := by decide +kernel
theorem dX2_bent_24 : decode cX2_bent 24 = .ok (.iload_n 3, 1) := by decide +kernel
theorem dX2_bent_25 : decode cX2_bent 25 = .ok (.imul, 1) := by decide +kernel
theorem dX2_bent_26 : decode cX2_bent 26 = .ok (.sipush 256, 3) := by decide +kernel
theorem dX2_bent_29 : decode cX2_bent 29 = .ok (.idiv, 1) := by decide +kernel
theorem dX2_bent_30 : decode cX2_bent 30 = .ok (.iadd, 1) := by decide +kernel
theorem dX2_bent_31 : decode cX2_bent 31 = .ok (.ireturn, 1) := by decide +kernel
theorem dX3_init_0 : decode cX3_init 0 = .ok (.aload_n 0, 1) := by decide +kernel
theorem dX3_init_1 : decode cX3_init 1 = .ok (.invokespecial 3, 3) := by decide +kernel
theorem dX3_init_4 : decode cX3_init 4 = .ok (.aload_n 0, 1) := by decide +kernel
theorem dX3_init_5 : decode cX3_init 5 = .ok (.bipush 10, 2) := by decide +kernel
theorem dX3_init_7 : decode cX3_init 7 = .ok (.newarray .int, 2) := by decide +kernel
theorem dX3_init_9 : decode cX3_init 9 = .ok (.putfield 9, 3) := by decide +kernel
theorem dX3_init_12 : decode cX3_init 12 = .ok (.aload_n 0, 1) := by decide +kernel
theorem dX3_init_13 : decode cX3_init 13 = .ok (.bipush 10, 2) := by decide +kernel
theorem dX3_init_15 : decode cX3_init 15 = .ok (.bipush 17, 2) := by decide +kernel
theorem dX3_init_17 : decode cX3_init 17 = .ok (.multianewarray 15 2, 4) := by decide +kernel
theorem dX3_init_21 : decode cX3_init 21 = .ok (.putfield 17, 3) := by decide +kernel
theorem dX3_init_24 : decode cX3_init 24 = .ok (.aload_n 0, 1) := by decide +kernel
theorem dX3_init_25 : decode cX3_init 25 = .ok (.bipush 11, 2) := by decide +kernel
theorem dX3_init_27 : decode cX3_init 27 = .ok (.iconst 5, 1) := by decide +kernel
theorem dX3_init_28 : decode cX3_init 28 = .ok (.multianewarray 15 2, 4) := by decide +kernel
theorem dX3_init_32 : decode cX3_init 32 = .ok (.putfield 20, 3) := by decide +kernel
theorem dX3_init_35 : decode cX3_init 35 = .ok (.return_, 1) := by decide +kernel
theorem dX3_restart_0 : decode cX3_restart 0 = .ok (.aload_n 0, 1) := by decide +kernel
theorem dX3_restart_1 : decode cX3_restart 1 = .ok (.iconst 0, 1) := by decide +kernel
theorem dX3_restart_2 : decode cX3_restart 2 = .ok (.putfield 23, 3) := by decide +kernel
theorem dX3_restart_5 : decode cX3_restart 5 = .ok (.aload_n 0, 1) := by decide +kernel
theorem dX3_restart_6 : decode cX3_restart 6 = .ok (.getfield 20, 3) := by decide +kernel
theorem dX3_restart_9 : decode cX3_restart 9 = .ok (.iconst 0, 1) := by decide +kernel
theorem dX3_restart_10 : decode cX3_restart 10 = .ok (.aaload, 1) := by decide +kernel
theorem dX3_restart_11 : decode cX3_restart 11 = .ok (.iconst 0, 1) := by decide +kernel
theorem dX3_restart_12 : decode cX3_restart 12 = .ok (.iload_n 1, 1) := by decide +kernel
theorem dX3_restart_13 : decode cX3_restart 13 = .ok (.iastore, 1) := by decide +kernel
theorem dX3_restart_14 : decode cX3_restart 14 = .ok (.aload_n 0, 1) := by decide +kernel
theorem dX3_restart_15 : decode cX3_restart 15 = .ok (.getfield 20, 3) := by decide +kernel
theorem dX3_restart_18 : decode cX3_restart 18 = .ok (.iconst 0, 1) := by decide +kernel
theorem dX3_restart_19 : decode cX3_restart 19 = .ok (.aaload, 1) := by decide +kernel
theorem dX3_restart_20 : decode cX3_restart 20 = .ok (.iconst 1, 1) := by decide +kernel
theorem dX3_restart_21 : decode cX3_restart 21 = .ok (.iload_n 2, 1) := by decide +kernel
theorem dX3_restart_22 : decode cX3_restart 22 = .ok (.iastore, 1) := by decide +kernel
theorem dX3_restart_23 : decode cX3_restart 23 = .ok (.aload_n 0, 1) := by decide +kernel
theorem dX3_restart_24 : decode cX3_restart 24 = .ok (.getfield 20, 3) := by decide +kernel
theorem dX3_restart_27 : decode cX3_restart 27 = .ok (.iconst 0, 1) := by decide +kernel
theorem dX3_restart_28 : decode cX3_restart 28 = .ok (.aaload, 1) := by decide +kernel
theorem dX3_restart_29 : decode cX3_restart 29 = .ok (.iconst 2, 1) := by decide +kernel
theorem dX3_restart_30 : decode cX3_restart 30 = .ok (.iconst 1, 1) := by decide +kernel
theorem dX3_restart_31 : decode cX3_restart 31 = .ok (.iastore, 1) := by decide +kernel
theorem dX3_restart_32 : decode cX3_restart 32 = .ok (.aload_n 0, 1) := by decide +kernel
theorem dX3_restart_33 : decode cX3_restart 33 = .ok (.getfield 20, 3) := by decide +kernel
theorem dX3_restart_36 : decode cX3_restart 36 = .ok (.iconst 0, 1) := by decide +kernel
theorem dX3_restart_37 : decode cX3_restart 37 = .ok (.aaload, 1) := by decide +kernel
theorem dX3_restart_38 : decode cX3_restart 38 = .ok (.iconst 3, 1) := by decide +kernel
theorem dX3_restart_39 : decode cX3_restart 39 = .ok (.iconst 0, 1) := by decide +kernel
theorem dX3_restart_40 : decode cX3_restart 40 = .ok (.iastore, 1) := by decide +kernel
theorem dX3_restart_41 : decode cX3_restart 41 = .ok (.aload_n 0, 1) := by decide +kernel
theorem dX3_restart_42 : decode cX3_restart 42 = .ok (.getfield 20, 3) := by decide +kernel
theorem dX3_restart_45 : decode cX3_restart 45 = .ok (.iconst 0, 1) := by decide +kernel
theorem dX3_restart_46 : decode cX3_restart 46 = .ok (.aaload, 1) := by decide +kernel
theorem dX3_restart_47 : decode cX3_restart 47 = .ok (.iconst 4, 1) := by decide +kernel
theorem dX3_restart_48 : decode cX3_restart 48 = .ok (.iconst 1, 1) := by decide +kernel
theorem dX3_restart_49 : decode cX3_restart 49 = .ok (.iastore, 1) := by decide +kernel
theorem dX3_restart_50 : decode cX3_restart 50 = .ok (.return_, 1) := by decide +kernel
theorem dX3_mayTake_0 : decode cX3_mayTake 0 = .ok (.aload_n 0, 1) := by decide +kernel
theorem dX3_mayTake_1 : decode cX3_mayTake 1 = .ok (.getfield 20, 3) := by decide +kernel
theorem dX3_mayTake_4 : decode cX3_mayTake 4 = .ok (.aload_n 0, 1) := by decide +kernel
theorem dX3_mayTake_5 : decode cX3_mayTake 5 = .ok (.getfield 23, 3) := by decide +kernel
theorem dX3_mayTake_8 : decode cX3_mayTake 8 = .ok (.aaload, 1) := by decide +kernel
theorem dX3_mayTake_9 : decode cX3_mayTake 9 = .ok (.astore_n 2, 1) := by decide +kernel
theorem dX3_mayTake_10 : decode cX3_mayTake 10 = .ok (.aload_n 2, 1) := by decide +kernel
theorem dX3_mayTake_11 : decode cX3_mayTake 11 = .ok (.iconst 2, 1) := by decide +kernel
theorem dX3_mayTake_12 : decode cX3_mayTake 12 = .ok (.iaload, 1) := by decide +kernel
theorem dX3_mayTake_13 : decode cX3_mayTake 13 = .ok (.iconst 3, 1) := by decide +kernel
theorem dX3_mayTake_14 : decode cX3_mayTake 14 = .ok (.if_icmp .ne 7, 3) := by decide +kernel
theorem dX3_mayTake_17 : decode cX3_mayTake 17 = .ok (.iconst 1, 1) := by decide +kernel
theorem dX3_mayTake_18 : decode cX3_mayTake 18 = .ok (.goto 4, 3) := by decide +kernel
theorem dX3_mayTake_21 : decode cX3_mayTake 21 = .ok (.iconst 0, 1) := by decide +kernel
theorem dX3_mayTake_22 : decode cX3_mayTake 22 = .ok (.istore_n 3, 1) := by decide +kernel
theorem dX3_mayTake_23 : decode cX3_mayTake 23 = .ok (.iload_n 1, 1) := by decide +kernel
theorem dX3_mayTake_24 : decode cX3_mayTake 24 = .ok (.iconst 4, 1) := by decide +kernel
theorem dX3_mayTake_25 : decode cX3_mayTake 25 = .ok (.if_icmp .gt 13, 3) := by decide +kernel
theorem dX3_mayTake_28 : decode cX3_mayTake 28 = .ok (.iload_n 3, 1) := by decide +kernel
theorem dX3_mayTake_29 : decode cX3_mayTake 29 = .ok (.ifCond .ne 7, 3) := by decide +kernel
theorem dX3_mayTake_32 : decode cX3_mayTake 32 = .ok (.iconst 1, 1) := by decide +kernel
theorem dX3_mayTake_33 : decode cX3_mayTake 33 = .ok (.goto 4, 3) := by decide +kernel
theorem dX3_mayTake_36 : decode cX3_mayTake 36 = .ok (.iconst 0, 1) := by decide +kernel
theorem dX3_mayTake_37 : decode cX3_mayTake 37 = .ok (.ireturn, 1) := by decide +kernel
theorem dX3_mayTake_38 : decode cX3_mayTake 38 = .ok (.iload_n 1, 1) := by decide +kernel
theorem dX3_mayTake_39 : decode cX3_mayTake 39 = .ok (.bipush 7, 2) := by decide +kernel
theorem dX3_mayTake_41 : decode cX3_mayTake 41 = .ok (.if_icmp .ne 27, 3) := by decide +kernel
theorem dX3_mayTake_44 : decode cX3_mayTake 44 = .ok (.iload_n 3, 1) := by decide +kernel
theorem dX3_mayTake_45 : decode cX3_mayTake 45 = .ok (.ifCond .eq 21, 3) := by decide +kernel
theorem dX3_mayTake_48 : decode cX3_mayTake 48 = .ok (.aload_n 2, 1) := by decide +kernel
theorem dX3_mayTake_49 : decode cX3_mayTake 49 = .ok (.iconst 0, 1) := by decide +kernel
theorem dX3_mayTake_50 : decode cX3_mayTake 50 = .ok (.iaload, 1) := by decide +kernel
theorem dX3_mayTake_51 : decode cX3_mayTake 51 = .ok (.iconst 2, 1) := by decide +kernel
theorem dX3_mayTake_52 : decode cX3_mayTake 52 = .ok (.if_icmp .lt 14, 3) := by decide +kernel
theorem dX3_mayTake_55 : decode cX3_mayTake 55 = .ok (.aload_n 2, 1) := by decide +kernel
theorem dX3_mayTake_56 : decode cX3_mayTake 56 = .ok (.iconst 1, 1) := by decide +kernel
theorem dX3_mayTake_57 : decode cX3_mayTake 57 = .ok (.iaload, 1) := by decide +kernel
theorem dX3_mayTake_58 : decode cX3_mayTake 58 = .ok (.iconst 2, 1) := by decide +kernel
theorem dX3_mayTake_59 : decode cX3_mayTake 59 = .ok (.if_icmp .lt 7, 3) := by decide +kernel
theorem dX3_mayTake_62 : decode cX3_mayTake 62 = .ok (.iconst 1, 1) := by decide +kernel
theorem dX3_mayTake_63 : decode cX3_mayTake 63 = .ok (.goto 4, 3) := by decide +kernel
theorem dX3_mayTake_66 : decode cX3_mayTake 66 = .ok (.iconst 0, 1) := by decide +kernel
theorem dX3_mayTake_67 : decode cX3_mayTake 67 = .ok (.ireturn, 1) := by decide +kernel
theorem dX3_mayTake_68 : decode cX3_mayTake 68 = .ok (.iload_n 3, 1) := by decide +kernel
theorem dX3_mayTake_69 : decode cX3_mayTake 69 = .ok (.ireturn, 1) := by decide +kernel
theorem dX3_append_0 : decode cX3_append 0 = .ok (.aload_n 0, 1) := by decide +kernel
theorem dX3_append_1 : decode cX3_append 1 = .ok (.getfield 9, 3) := by decide +kernel
theorem dX3_append_4 : decode cX3_append 4 = .ok (.aload_n 0, 1) := by decide +kernel
theorem dX3_append_5 : decode cX3_append 5 = .ok (.getfield 23, 3) := by decide +kernel
theorem dX3_append_8 : decode cX3_append 8 = .ok (.iload_n 1, 1) := by decide +kernel
theorem dX3_append_9 : decode cX3_append 9 = .ok (.iastore, 1) := by decide +kernel
theorem dX3_append_10 : decode cX3_append 10 = .ok (.aload_n 2, 1) := by decide +kernel
theorem dX3_append_11 : decode cX3_append 11 = .ok (.iconst 0, 1) := by decide +kernel
theorem dX3_append_12 : decode cX3_append 12 = .ok (.aload_n 0, 1) := by decide +kernel
theorem dX3_append_13 : decode cX3_append 13 = .ok (.getfield 17, 3) := by decide +kernel
theorem dX3_append_16 : decode cX3_append 16 = .ok (.aload_n 0, 1) := by decide +kernel
theorem dX3_append_17 : decode cX3_append 17 = .ok (.getfield 23, 3) := by decide +kernel
theorem dX3_append_20 : decode cX3_append 20 = .ok (.aaload, 1) := by decide +kernel
theorem dX3_append_21 : decode cX3_append 21 = .ok (.iconst 0, 1) := by decide +kernel
theorem dX3_append_22 : decode cX3_append 22 = .ok (.getstatic 27, 3) := by decide +kernel
theorem dX3_append_25 : decode cX3_append 25 = .ok (.iload_n 1, 1) := by decide +kernel
theorem dX3_append_26 : decode cX3_append 26 = .ok (.iaload, 1) := by decide +kernel
theorem dX3_append_27 : decode cX3_append 27 = .ok (.invokestatic 30, 3) := by decide +kernel
theorem dX3_append_30 : decode cX3_append 30 = .ok (.aload_n 0, 1) := by decide +kernel
theorem dX3_append_31 : decode cX3_append 31 = .ok (.getfield 20, 3) := by decide +kernel
theorem dX3_append_34 : decode cX3_append 34 = .ok (.aload_n 0, 1) := by decide +kernel
theorem dX3_append_35 : decode cX3_append 35 = .ok (.getfield 23, 3) := by decide +kernel
theorem dX3_append_38 : decode cX3_append 38 = .ok (.aaload, 1) := by decide +kernel
theorem dX3_append_39 : decode cX3_append 39 = .ok (.astore_n 3, 1) := by decide +kernel
theorem dX3_append_40 : decode cX3_append 40 = .ok (.aload_n 0, 1) := by decide +kernel
theorem dX3_append_41 : decode cX3_append 41 = .ok (.getfield 20, 3) := by decide +kernel
theorem dX3_append_44 : decode cX3_append 44 = .ok (.aload_n 0, 1) := by decide +kernel
theorem dX3_append_45 : decode cX3_append 45 = .ok (.getfield 23, 3) := by decide +kernel
theorem dX3_append_48 : decode cX3_append 48 = .ok (.iconst 1, 1) := by decide +kernel
theorem dX3_append_49 : decode cX3_append 49 = .ok (.iadd, 1) := by decide +kernel
theorem dX3_append_50 : decode cX3_append 50 = .ok (.aaload, 1) := by decide +kernel
theorem dX3_append_51 : decode cX3_append 51 = .ok (.astore 4, 2) := by decide +kernel
theorem dX3_append_53 : decode cX3_append 53 = .ok (.iload_n 1, 1) := by decide +kernel
theorem dX3_append_54 : decode cX3_append 54 = .ok (.bipush 7, 2) := by decide +kernel
theorem dX3_append_56 : decode cX3_append 56 = .ok (.if_icmp .ne 7, 3) := by decide +kernel
theorem dX3_append_59 : decode cX3_append 59 = .ok (.iconst 2, 1) := by decide +kernel
theorem dX3_append_60 : decode cX3_append 60 = .ok (.goto 4, 3) := by decide +kernel
theorem dX3_append_63 : decode cX3_append 63 = .ok (.iconst 1, 1) := by decide +kernel
theorem dX3_append_64 : decode cX3_append 64 = .ok (.istore 5, 2) := by decide +kernel
theorem dX3_append_66 : decode cX3_append 66 = .ok (.aload 4, 2) := by decide +kernel
theorem dX3_append_68 : decode cX3_append 68 = .ok (.iconst 0, 1) := by decide +kernel
theorem dX3_append_69 : decode cX3_append 69 = .ok (.aload_n 3, 1) := by decide +kernel
theorem dX3_append_70 : decode cX3_append 70 = .ok (.iconst 0, 1) := by decide +kernel
theorem dX3_append_71 : decode cX3_append 71 = .ok (.iaload, 1) := by decide +kernel
theorem dX3_append_72 : decode cX3_append 72 = .ok (.iload 5, 2) := by decide +kernel
theorem dX3_append_74 : decode cX3_append 74 = .ok (.idiv, 1) := by decide +kernel
theorem dX3_append_75 : decode cX3_append 75 = .ok (.iastore, 1) := by decide +kernel
theorem dX3_append_76 : decode cX3_append 76 = .ok (.aload 4, 2) := by decide +kernel
theorem dX3_append_78 : decode cX3_append 78 = .ok (.iconst 1, 1) := by decide +kernel
theorem dX3_append_79 : decode cX3_append 79 = .ok (.aload_n 3, 1) := by decide +kernel
theorem dX3_append_80 : decode cX3_append 80 = .ok (.iconst 1, 1) := by decide +kernel
theorem dX3_append_81 : decode cX3_append 81 = .ok (.iaload, 1) := by decide +kernel
theorem dX3_append_82 : decode cX3_append 82 = .ok (.iload 5, 2) := by decide +kernel
theorem dX3_append_84 : decode cX3_append 84 = .ok (.idiv, 1) := by decide +kernel
theorem dX3_append_85 : decode cX3_append 85 = .ok (.iastore, 1) := by decide +kernel
theorem dX3_append_86 : decode cX3_append 86 = .ok (.aload 4, 2) := by decide +kernel
theorem dX3_append_88 : decode cX3_append 88 = .ok (.iconst 2, 1) := by decide +kernel
theorem dX3_append_89 : decode cX3_append 89 = .ok (.iload_n 1, 1) := by decide +kernel
theorem dX3_append_90 : decode cX3_append 90 = .ok (.iconst 4, 1) := by decide +kernel
theorem dX3_append_91 : decode cX3_append 91 = .ok (.if_icmp .ne 7, 3) := by decide +kernel
theorem dX3_append_94 : decode cX3_append 94 = .ok (.iconst 3, 1) := by decide +kernel
theorem dX3_append_95 : decode cX3_append 95 = .ok (.goto 6, 3) := by decide +kernel
theorem dX3_append_98 : decode cX3_append 98 = .ok (.aload_n 3, 1) := by decide +kernel
theorem dX3_append_99 : decode cX3_append 99 = .ok (.iconst 2, 1) := by decide +kernel
theorem dX3_append_100 : decode cX3_append 100 = .ok (.iaload, 1) := by decide +kernel
theorem dX3_append_101 : decode cX3_append 101 = .ok (.iastore, 1) := by decide +kernel
theorem dX3_append_102 : decode cX3_append 102 = .ok (.aload 4, 2) := by decide +kernel
theorem dX3_append_104 : decode cX3_append 104 = .ok (.iconst 3, 1) := by decide +kernel
theorem dX3_append_105 : decode cX3_append 105 = .ok (.aload_n 3, 1) := by decide +kernel
theorem dX3_append_106 : decode cX3_append 106 = .ok (.iconst 3, 1) := by decide +kernel
theorem dX3_append_107 : decode cX3_append 107 = .ok (.iaload, 1) := by decide +kernel
theorem dX3_append_108 : decode cX3_append 108 = .ok (.iload_n 1, 1) := by decide +kernel
theorem dX3_append_109 : decode cX3_append 109 = .ok (.aload_n 3, 1) := by decide +kernel
theorem dX3_append_110 : decode cX3_append 110 = .ok (.iconst 4, 1) := by decide +kernel
theorem dX3_append_111 : decode cX3_append 111 = .ok (.iaload, 1) := by decide +kernel
theorem dX3_append_112 : decode cX3_append 112 = .ok (.invokestatic 36, 3) := by decide +kernel
theorem dX3_append_115 : decode cX3_append 115 = .ok (.iadd, 1) := by decide +kernel
theorem dX3_append_116 : decode cX3_append 116 = .ok (.iastore, 1) := by decide +kernel
theorem dX3_append_117 : decode cX3_append 117 = .ok (.aload 4, 2) := by decide +kernel
theorem dX3_append_119 : decode cX3_append 119 = .ok (.iconst 4, 1) := by decide +kernel
theorem dX3_append_120 : decode cX3_append 120 = .ok (.aload_n 3, 1) := by decide +kernel
theorem dX3_append_121 : decode cX3_append 121 = .ok (.iconst 4, 1) := by decide +kernel
theorem dX3_append_122 : decode cX3_append 122 = .ok (.iaload, 1) := by decide +kernel
theorem dX3_append_123 : decode cX3_append 123 = .ok (.iload 5, 2) := by decide +kernel
theorem dX3_append_125 : decode cX3_append 125 = .ok (.imul, 1) := by decide +kernel
theorem dX3_append_126 : decode cX3_append 126 = .ok (.iastore, 1) := by decide +kernel
theorem dX3_append_127 : decode cX3_append 127 = .ok (.aload_n 0, 1) := by decide +kernel
theorem dX3_append_128 : decode cX3_append 128 = .ok (.dup, 1) := by decide +kernel
theorem dX3_append_129 : decode cX3_append 129 = .ok (.getfield 23, 3) := by decide +kernel
theorem dX3_append_132 : decode cX3_append 132 = .ok (.iconst 1, 1) := by decide +kernel
theorem dX3_append_133 : decode cX3_append 133 = .ok (.iadd, 1) := by decide +kernel
theorem dX3_append_134 : decode cX3_append 134 = .ok (.putfield 23, 3) := by decide +kernel
theorem dX3_append_137 : decode cX3_append 137 = .ok (.return_, 1) := by decide +kernel
theorem dX3_lagOf_0 : decode cX3_lagOf 0 = .ok (.iload_n 0, 1) := by decide +kernel
theorem dX3_lagOf_1 : decode cX3_lagOf 1 = .ok (.tableswitch 45 2 7 #[39, 39, 41, 45, 45, 43], 39) := by decide +kernel
theorem dX3_lagOf_40 : decode cX3_lagOf 40 = .ok (.iconst 2, 1) := by decide +kernel
theorem dX3_lagOf_41 : decode cX3_lagOf 41 = .ok (.ireturn, 1) := by decide +kernel
theorem dX3_lagOf_42 : decode cX3_lagOf 42 = .ok (.iconst 1, 1) := by decide +kernel
theorem dX3_lagOf_43 : decode cX3_lagOf 43 = .ok (.ireturn, 1) := by decide +kernel
theorem dX3_lagOf_44 : decode cX3_lagOf 44 = .ok (.iload_n 1, 1) := by decide +kernel
theorem dX3_lagOf_45 : decode cX3_lagOf 45 = .ok (.ireturn, 1) := by decide +kernel
theorem dX3_lagOf_46 : decode cX3_lagOf 46 = .ok (.iconst 0, 1) := by decide +kernel
theorem dX3_lagOf_47 : decode cX3_lagOf 47 = .ok (.ireturn, 1) := by decide +kernel
theorem dX3_hasStage_0 : decode cX3_hasStage 0 = .ok (.iload_n 1, 1) := by decide +kernel
theorem dX3_hasStage_1 : decode cX3_hasStage 1 = .ok (.iconst 0, 1) := by decide +kernel
theorem dX3_hasStage_2 : decode cX3_hasStage 2 = .ok (.aload_n 0, 1) := by decide +kernel
theorem dX3_hasStage_3 : decode cX3_hasStage 3 = .ok (.getfield 23, 3) := by decide +kernel
theorem dX3_hasStage_6 : decode cX3_hasStage 6 = .ok (.invokestatic 40, 3) := by decide +kernel
theorem dX3_hasStage_9 : decode cX3_hasStage 9 = .ok (.ireturn, 1) := by decide +kernel
theorem dX3_hasPlane_0 : decode cX3_hasPlane 0 = .ok (.iload_n 2, 1) := by decide +kernel
theorem dX3_hasPlane_1 : decode cX3_hasPlane 1 = .ok (.iconst 0, 1) := by decide +kernel
theorem dX3_hasPlane_2 : decode cX3_hasPlane 2 = .ok (.aload_n 0, 1) := by decide +kernel
theorem dX3_hasPlane_3 : decode cX3_hasPlane 3 = .ok (.getfield 20, 3) := by decide +kernel
theorem dX3_hasPlane_6 : decode cX3_hasPlane 6 = .ok (.iload_n 1, 1) := by decide +kernel
theorem dX3_hasPlane_7 : decode cX3_hasPlane 7 = .ok (.aaload, 1) := by decide +kernel
theorem dX3_hasPlane_8 : decode cX3_hasPlane 8 = .ok (.iconst 2, 1) := by decide +kernel
theorem dX3_hasPlane_9 : decode cX3_hasPlane 9 = .ok (.iaload, 1) := by decide +kernel
theorem dX3_hasPlane_10 : decode cX3_hasPlane 10 = .ok (.iconst 1, 1) := by decide +kernel
theorem dX3_hasPlane_11 : decode cX3_hasPlane 11 = .ok (.isub, 1) := by decide +kernel
theorem dX3_hasPlane_12 : decode cX3_hasPlane 12 = .ok (.invokestatic 40, 3) := by decide +kernel
theorem dX3_hasPlane_15 : decode cX3_hasPlane 15 = .ok (.ireturn, 1) := by decide +kernel
theorem dX3_holdsPart_0 : decode cX3_holdsPart 0 = .ok (.iload_n 2, 1) := by decide +kernel
theorem dX3_holdsPart_1 : decode cX3_holdsPart 1 = .ok (.ifCond .lt 53, 3) := by decide +kernel
theorem dX3_holdsPart_4 : decode cX3_holdsPart 4 = .ok (.iload_n 3, 1) := by decide +kernel
theorem dX3_holdsPart_5 : decode cX3_holdsPart 5 = .ok (.ifCond .lt 49, 3) := by decide +kernel
theorem dX3_holdsPart_8 : decode cX3_holdsPart 8 = .ok (.iload 4, 2) := by decide +kernel
theorem dX3_holdsPart_10 : decode cX3_holdsPart 10 = .ok (.iconst 1, 1) := by decide +kernel
theorem dX3_holdsPart_11 : decode cX3_holdsPart 11 = .ok (.if_icmp .lt 43, 3) := by decide +kernel
theorem dX3_holdsPart_14 : decode cX3_holdsPart 14 = .ok (.iload 5, 2) := by decide +kernel
theorem dX3_holdsPart_16 : decode cX3_holdsPart 16 = .ok (.iconst 1, 1) := by decide +kernel
theorem dX3_holdsPart_17 : decode cX3_holdsPart 17 = .ok (.if_icmp .lt 37, 3) := by decide +kernel
theorem dX3_holdsPart_20 : decode cX3_holdsPart 20 = .ok (.iload 4, 2) := by decide +kernel
theorem dX3_holdsPart_22 : decode cX3_holdsPart 22 = .ok (.aload_n 0, 1) := by decide +kernel
theorem dX3_holdsPart_23 : decode cX3_holdsPart 23 = .ok (.getfield 20, 3) := by decide +kernel
theorem dX3_holdsPart_26 : decode cX3_holdsPart 26 = .ok (.iload_n 1, 1) := by decide +kernel
theorem dX3_holdsPart_27 : decode cX3_holdsPart 27 = .ok (.aaload, 1) := by decide +kernel
theorem dX3_holdsPart_28 : decode cX3_holdsPart 28 = .ok (.iconst 0, 1) := by decide +kernel
theorem dX3_holdsPart_29 : decode cX3_holdsPart 29 = .ok (.iaload, 1) := by decide +kernel
theorem dX3_holdsPart_30 : decode cX3_holdsPart 30 = .ok (.iload_n 2, 1) := by decide +kernel
theorem dX3_holdsPart_31 : decode cX3_holdsPart 31 = .ok (.isub, 1) := by decide +kernel
theorem dX3_holdsPart_32 : decode cX3_holdsPart 32 = .ok (.if_icmp .gt 22, 3) := by decide +kernel
theorem dX3_holdsPart_35 : decode cX3_holdsPart 35 = .ok (.iload 5, 2) := by decide +kernel
theorem dX3_holdsPart_37 : decode cX3_holdsPart 37 = .ok (.aload_n 0, 1) := by decide +kernel
theorem dX3_holdsPart_38 : decode cX3_holdsPart 38 = .ok (.getfield 20, 3) := by decide +kernel
theorem dX3_holdsPart_41 : decode cX3_holdsPart 41 = .ok (.iload_n 1, 1) := by decide +kernel
theorem dX3_holdsPart_42 : decode cX3_holdsPart 42 = .ok (.aaload, 1) := by decide +kernel
theorem dX3_holdsPart_43 : decode cX3_holdsPart 43 = .ok (.iconst 1, 1) := by decide +kernel
theorem dX3_holdsPart_44 : decode cX3_holdsPart 44 = .ok (.iaload, 1) := by decide +kernel
theorem dX3_holdsPart_45 : decode cX3_holdsPart 45 = .ok (.iload_n 3, 1) := by decide +kernel
theorem dX3_holdsPart_46 : decode cX3_holdsPart 46 = .ok (.isub, 1) := by decide +kernel
theorem dX3_holdsPart_47 : decode cX3_holdsPart 47 = .ok (.if_icmp .gt 7, 3) := by decide +kernel
theorem dX3_holdsPart_50 : decode cX3_holdsPart 50 = .ok (.iconst 1, 1) := by decide +kernel
theorem dX3_holdsPart_51 : decode cX3_holdsPart 51 = .ok (.goto 4, 3) := by decide +kernel
theorem dX3_holdsPart_54 : decode cX3_holdsPart 54 = .ok (.iconst 0, 1) := by decide +kernel
theorem dX3_holdsPart_55 : decode cX3_holdsPart 55 = .ok (.ireturn, 1) := by decide +kernel
theorem dX4_init_0 : decode cX4_init 0 = .ok (.aload_n 0, 1) := by decide +kernel
theorem dX4_init_1 : decode cX4_init 1 = .ok (.invokespecial 3, 3) := by decide +kernel
theorem dX4_init_4 : decode cX4_init 4 = .ok (.aload_n 0, 1) := by decide +kernel
theorem dX4_init_5 : decode cX4_init 5 = .ok (.new 9, 3) := by decide +kernel
theorem dX4_init_8 : decode cX4_init 8 = .ok (.dup, 1) := by decide +kernel
theorem dX4_init_9 : decode cX4_init 9 = .ok (.invokespecial 11, 3) := by decide +kernel
theorem dX4_init_12 : decode cX4_init 12 = .ok (.putfield 12, 3) := by decide +kernel
theorem dX4_init_15 : decode cX4_init 15 = .ok (.aload_n 0, 1) := by decide +kernel
theorem dX4_init_16 : decode cX4_init 16 = .ok (.new 16, 3) := by decide +kernel
theorem dX4_init_19 : decode cX4_init 19 = .ok (.dup, 1) := by decide +kernel
theorem dX4_init_20 : decode cX4_init 20 = .ok (.invokespecial 18, 3) := by decide +kernel
theorem dX4_init_23 : decode cX4_init 23 = .ok (.putfield 19, 3) := by decide +kernel
theorem dX4_init_26 : decode cX4_init 26 = .ok (.aload_n 0, 1) := by decide +kernel
theorem dX4_init_27 : decode cX4_init 27 = .ok (.new 23, 3) := by decide +kernel
theorem dX4_init_30 : decode cX4_init 30 = .ok (.dup, 1) := by decide +kernel
theorem dX4_init_31 : decode cX4_init 31 = .ok (.invokespecial 25, 3) := by decide +kernel
theorem dX4_init_34 : decode cX4_init 34 = .ok (.putfield 26, 3) := by decide +kernel
theorem dX4_init_37 : decode cX4_init 37 = .ok (.aload_n 0, 1) := by decide +kernel
theorem dX4_init_38 : decode cX4_init 38 = .ok (.new 30, 3) := by decide +kernel
theorem dX4_init_41 : decode cX4_init 41 = .ok (.dup, 1) := by decide +kernel
theorem dX4_init_42 : decode cX4_init 42 = .ok (.invokespecial 32, 3) := by decide +kernel
theorem dX4_init_45 : decode cX4_init 45 = .ok (.putfield 33, 3) := by decide +kernel
theorem dX4_init_48 : decode cX4_init 48 = .ok (.aload_n 0, 1) := by decide +kernel
theorem dX4_init_49 : decode cX4_init 49 = .ok (.getstatic 37, 3) := by decide +kernel
theorem dX4_init_52 : decode cX4_init 52 = .ok (.invokevirtual 41, 3) := by decide +kernel
theorem dX4_init_55 : decode cX4_init 55 = .ok (.checkcast 42, 3) := by decide +kernel
theorem dX4_init_58 : decode cX4_init 58 = .ok (.putfield 46, 3) := by decide +kernel
theorem dX4_init_61 : decode cX4_init 61 = .ok (.aload_n 0, 1) := by decide +kernel
theorem dX4_init_62 : decode cX4_init 62 = .ok (.bipush 17, 2) := by decide +kernel
theorem dX4_init_64 : decode cX4_init 64 = .ok (.newarray .int, 2) := by decide +kernel
theorem dX4_init_66 : decode cX4_init 66 = .ok (.putfield 49, 3) := by decide +kernel
theorem dX4_init_69 : decode cX4_init 69 = .ok (.aload_n 0, 1) := by decide +kernel
theorem dX4_init_70 : decode cX4_init 70 = .ok (.getfield 12, 3) := by decide +kernel
theorem dX4_init_73 : decode cX4_init 73 = .ok (.iconst 1, 1) := by decide +kernel
theorem dX4_init_74 : decode cX4_init 74 = .ok (.iconst 1, 1) := by decide +kernel
theorem dX4_init_75 : decode cX4_init 75 = .ok (.invokevirtual 52, 3) := by decide +kernel
theorem dX4_init_78 : decode cX4_init 78 = .ok (.aload_n 0, 1) := by decide +kernel
theorem dX4_init_79 : decode cX4_init 79 = .ok (.getfield 19, 3) := by decide +kernel
theorem dX4_init_82 : decode cX4_init 82 = .ok (.iconst 1, 1) := by decide +kernel
theorem dX4_init_83 : decode cX4_init 83 = .ok (.iconst 1, 1) := by decide +kernel
theorem dX4_init_84 : decode cX4_init 84 = .ok (.invokevirtual 56, 3) := by decide +kernel
theorem dX4_init_87 : decode cX4_init 87 = .ok (.iconst 0, 1) := by decide +kernel
theorem dX4_init_88 : decode cX4_init 88 = .ok (.istore_n 1, 1) := by decide +kernel
theorem dX4_init_89 : decode cX4_init 89 = .ok (.iload_n 1, 1) := by decide +kernel
theorem dX4_init_90 : decode cX4_init 90 = .ok (.bipush 17, 2) := by decide +kernel
theorem dX4_init_92 : decode cX4_init 92 = .ok (.if_icmp .ge 26, 3) := by decide +kernel
theorem dX4_init_95 : decode cX4_init 95 = .ok (.aload_n 0, 1) := by decide +kernel
theorem dX4_init_96 : decode cX4_init 96 = .ok (.getfield 49, 3) := by decide +kernel
theorem dX4_init_99 : decode cX4_init 99 = .ok (.iload_n 1, 1) := by decide +kernel
theorem dX4_init_100 : decode cX4_init 100 = .ok (.sipush 256, 3) := by decide +kernel
theorem dX4_init_103 : decode cX4_init 103 = .ok (.iload_n 1, 1) := by decide +kernel
theorem dX4_init_104 : decode cX4_init 104 = .ok (.imul, 1) := by decide +kernel
theorem dX4_init_105 : decode cX4_init 105 = .ok (.sipush 4095, 3) := by decide +kernel
theorem dX4_init_108 : decode cX4_init 108 = .ok (.invokestatic 59, 3) := by decide +kernel
theorem dX4_init_111 : decode cX4_init 111 = .ok (.iastore, 1) := by decide +kernel
theorem dX4_init_112 : decode cX4_init 112 = .ok (.iinc 1 1, 3) := by decide +kernel
theorem dX4_init_115 : decode cX4_init 115 = .ok (.goto (-26), 3) := by decide +kernel
theorem dX4_init_118 : decode cX4_init 118 = .ok (.return_, 1) := by decide +kernel
theorem dX4_size_0 : decode cX4_size 0 = .ok (.iload_n 1, 1) := by decide +kernel
theorem dX4_size_1 : decode cX4_size 1 = .ok (.iconst 1, 1) := by decide +kernel
theorem dX4_size_2 : decode cX4_size 2 = .ok (.bipush 16, 2) := by decide +kernel
theorem dX4_size_4 : decode cX4_size 4 = .ok (.invokestatic 65, 3) := by decide +kernel
theorem dX4_size_7 : decode cX4_size 7 = .ok (.ifCond .eq 13, 3) := by decide +kernel
theorem dX4_size_10 : decode cX4_size 10 = .ok (.iload_n 2, 1) := by decide +kernel
theorem dX4_size_11 : decode cX4_size 11 = .ok (.iconst 1, 1) := by decide +kernel
theorem dX4_size_12 : decode cX4_size 12 = .ok (.bipush 16, 2) := by decide +kernel
theorem dX4_size_14 : decode cX4_size 14 = .ok (.invokestatic 65, 3) := by decide +kernel
theorem dX4_size_17 : decode cX4_size 17 = .ok (.ifCond .ne 6, 3) := by decide +kernel
theorem dX4_size_20 : decode cX4_size 20 = .ok (.bipush (-102), 2) := by decide +kernel
theorem dX4_size_22 : decode cX4_size 22 = .ok (.ireturn, 1) := by decide +kernel
theorem dX4_size_23 : decode cX4_size 23 = .ok (.aload_n 0, 1) := by decide +kernel
theorem dX4_size_24 : decode cX4_size 24 = .ok (.getfield 12, 3) := by decide +kernel
theorem dX4_size_27 : decode cX4_size 27 = .ok (.iload_n 1, 1) := by decide +kernel
theorem dX4_size_28 : decode cX4_size 28 = .ok (.iload_n 2, 1) := by decide +kernel
theorem dX4_size_29 : decode cX4_size 29 = .ok (.invokevirtual 52, 3) := by decide +kernel
theorem dX4_size_32 : decode cX4_size 32 = .ok (.aload_n 0, 1) := by decide +kernel
theorem dX4_size_33 : decode cX4_size 33 = .ok (.getfield 19, 3) := by decide +kernel
theorem dX4_size_36 : decode cX4_size 36 = .ok (.iload_n 1, 1) := by decide +kernel
theorem dX4_size_37 : decode cX4_size 37 = .ok (.iload_n 2, 1) := by decide +kernel
theorem dX4_size_38 : decode cX4_size 38 = .ok (.invokevirtual 56, 3) := by decide +kernel
theorem dX4_size_41 : decode cX4_size 41 = .ok (.iload_n 1, 1) := by decide +kernel
theorem dX4_size_42 : decode cX4_size 42 = .ok (.iload_n 2, 1) := by decide +kernel
theorem dX4_size_43 : decode cX4_size 43 = .ok (.imul, 1) := by decide +kernel
theorem dX4_size_44 : decode cX4_size 44 = .ok (.ireturn, 1) := by decide +kernel
theorem dX4_cell_0 : decode cX4_cell 0 = .ok (.aload_n 0, 1) := by decide +kernel
theorem dX4_cell_1 : decode cX4_cell 1 = .ok (.getfield 12, 3) := by decide +kernel
theorem dX4_cell_4 : decode cX4_cell 4 = .ok (.iload_n 1, 1) := by decide +kernel
theorem dX4_cell_5 : decode cX4_cell 5 = .ok (.iload_n 2, 1) := by decide +kernel
theorem dX4_cell_6 : decode cX4_cell 6 = .ok (.invokevirtual 69, 3) := by decide +kernel
theorem dX4_cell_9 : decode cX4_cell 9 = .ok (.ifCond .ne 6, 3) := by decide +kernel
theorem dX4_cell_12 : decode cX4_cell 12 = .ok (.bipush (-101), 2) := by decide +kernel
theorem dX4_cell_14 : decode cX4_cell 14 = .ok (.ireturn, 1) := by decide +kernel
theorem dX4_cell_15 : decode cX4_cell 15 = .ok (.iload_n 3, 1) := by decide +kernel
theorem dX4_cell_16 : decode cX4_cell 16 = .ok (.iconst 0, 1) := by decide +kernel
theorem dX4_cell_17 : decode cX4_cell 17 = .ok (.sipush 1023, 3) := by decide +kernel
theorem dX4_cell_20 : decode cX4_cell 20 = .ok (.invokestatic 65, 3) := by decide +kernel
theorem dX4_cell_23 : decode cX4_cell 23 = .ok (.ifCond .ne 6, 3) := by decide +kernel
theorem dX4_cell_26 : decode cX4_cell 26 = .ok (.bipush (-102), 2) := by decide +kernel
theorem dX4_cell_28 : decode cX4_cell 28 = .ok (.ireturn, 1) := by decide +kernel
theorem dX4_cell_29 : decode cX4_cell 29 = .ok (.iload_n 1, 1) := by decide +kernel
theorem dX4_cell_30 : decode cX4_cell 30 = .ok (.iload_n 2, 1) := by decide +kernel
theorem dX4_cell_31 : decode cX4_cell 31 = .ok (.invokestatic 73, 3) := by decide +kernel
theorem dX4_cell_34 : decode cX4_cell 34 = .ok (.istore 4, 2) := by decide +kernel
theorem dX4_cell_36 : decode cX4_cell 36 = .ok (.aload_n 0, 1) := by decide +kernel
theorem dX4_cell_37 : decode cX4_cell 37 = .ok (.getfield 12, 3) := by decide +kernel
theorem dX4_cell_40 : decode cX4_cell 40 = .ok (.getfield 76, 3) := by decide +kernel
theorem dX4_cell_43 : decode cX4_cell 43 = .ok (.iload 4, 2) := by decide +kernel
theorem dX4_cell_45 : decode cX4_cell 45 = .ok (.iaload, 1) := by decide +kernel
theorem dX4_cell_46 : decode cX4_cell 46 = .ok (.istore 5, 2) := by decide +kernel
theorem dX4_cell_48 : decode cX4_cell 48 = .ok (.aload_n 0, 1) := by decide +kernel
theorem dX4_cell_49 : decode cX4_cell 49 = .ok (.getfield 12, 3) := by decide +kernel
theorem dX4_cell_52 : decode cX4_cell 52 = .ok (.getfield 76, 3) := by decide +kernel
theorem dX4_cell_55 : decode cX4_cell 55 = .ok (.iload 4, 2) := by decide +kernel
theorem dX4_cell_57 : decode cX4_cell 57 = .ok (.iload_n 3, 1) := by decide +kernel
theorem dX4_cell_58 : decode cX4_cell 58 = .ok (.iastore, 1) := by decide +kernel
theorem dX4_cell_59 : decode cX4_cell 59 = .ok (.iload 5, 2) := by decide +kernel
theorem dX4_cell_61 : decode cX4_cell 61 = .ok (.ireturn, 1) := by decide +kernel
theorem dX4_dead_0 : decode cX4_dead 0 = .ok (.aload_n 0, 1) := by decide +kernel
theorem dX4_dead_1 : decode cX4_dead 1 = .ok (.getfield 12, 3) := by decide +kernel
theorem dX4_dead_4 : decode cX4_dead 4 = .ok (.iload_n 1, 1) := by decide +kernel
theorem dX4_dead_5 : decode cX4_dead 5 = .ok (.iload_n 2, 1) := by decide +kernel
theorem dX4_dead_6 : decode cX4_dead 6 = .ok (.invokevirtual 69, 3) := by decide +kernel
theorem dX4_dead_9 : decode cX4_dead 9 = .ok (.ifCond .ne 6, 3) := by decide +kernel
theorem dX4_dead_12 : decode cX4_dead 12 = .ok (.bipush (-101), 2) := by decide +kernel
theorem dX4_dead_14 : decode cX4_dead 14 = .ok (.ireturn, 1) := by decide +kernel
theorem dX4_dead_15 : decode cX4_dead 15 = .ok (.iload_n 1, 1) := by decide +kernel
theorem dX4_dead_16 : decode cX4_dead 16 = .ok (.iload_n 2, 1) := by decide +kernel
theorem dX4_dead_17 : decode cX4_dead 17 = .ok (.invokestatic 73, 3) := by decide +kernel
theorem dX4_dead_20 : decode cX4_dead 20 = .ok (.istore 4, 2) := by decide +kernel
theorem dX4_dead_22 : decode cX4_dead 22 = .ok (.aload_n 0, 1) := by decide +kernel
theorem dX4_dead_23 : decode cX4_dead 23 = .ok (.getfield 12, 3) := by decide +kernel
theorem dX4_dead_26 : decode cX4_dead 26 = .ok (.getfield 79, 3) := by decide +kernel
theorem dX4_dead_29 : decode cX4_dead 29 = .ok (.iload 4, 2) := by decide +kernel
theorem dX4_dead_31 : decode cX4_dead 31 = .ok (.baload, 1) := by decide +kernel
theorem dX4_dead_32 : decode cX4_dead 32 = .ok (.ifCond .eq 7, 3) := by decide +kernel
theorem dX4_dead_35 : decode cX4_dead 35 = .ok (.iconst 1, 1) := by decide +kernel
theorem dX4_dead_36 : decode cX4_dead 36 = .ok (.goto 4, 3) := by decide +kernel
theorem dX4_dead_39 : decode cX4_dead 39 = .ok (.iconst 0, 1) := by decide +kernel
theorem dX4_dead_40 : decode cX4_dead 40 = .ok (.istore 5, 2) := by decide +kernel
theorem dX4_dead_42 : decode cX4_dead 42 = .ok (.aload_n 0, 1) := by decide +kernel
theorem dX4_dead_43 : decode cX4_dead 43 = .ok (.getfield 12, 3) := by decide +kernel
theorem dX4_dead_46 : decode cX4_dead 46 = .ok (.getfield 79, 3) := by decide +kernel
theorem dX4_dead_49 : decode cX4_dead 49 = .ok (.iload 4, 2) := by decide +kernel
theorem dX4_dead_51 : decode cX4_dead 51 = .ok (.iload_n 3, 1) := by decide +kernel
theorem dX4_dead_52 : decode cX4_dead 52 = .ok (.bastore, 1) := by decide +kernel
theorem dX4_dead_53 : decode cX4_dead 53 = .ok (.iload 5, 2) := by decide +kernel
theorem dX4_dead_55 : decode cX4_dead 55 = .ok (.ireturn, 1) := by decide +kernel
theorem dX4_black_0 : decode cX4_black 0 = .ok (.iload_n 1, 1) := by decide +kernel
theorem dX4_black_1 : decode cX4_black 1 = .ok (.iconst 0, 1) := by decide +kernel
theorem dX4_black_2 : decode cX4_black 2 = .ok (.sipush 1023, 3) := by decide +kernel
theorem dX4_black_5 : decode cX4_black 5 = .ok (.invokestatic 65, 3) := by decide +kernel
theorem dX4_black_8 : decode cX4_black 8 = .ok (.ifCond .ne 6, 3) := by decide +kernel
theorem dX4_black_11 : decode cX4_black 11 = .ok (.bipush (-102), 2) := by decide +kernel
theorem dX4_black_13 : decode cX4_black 13 = .ok (.ireturn, 1) := by decide +kernel
theorem dX4_black_14 : decode cX4_black 14 = .ok (.aload_n 0, 1) := by decide +kernel
theorem dX4_black_15 : decode cX4_black 15 = .ok (.iconst 0, 1) := by decide +kernel
theorem dX4_black_16 : decode cX4_black 16 = .ok (.iconst 1, 1) := by decide +kernel
theorem dX4_black_17 : decode cX4_black 17 = .ok (.newarray .int, 2) := by decide +kernel
theorem dX4_black_19 : decode cX4_black 19 = .ok (.dup, 1) := by decide +kernel
theorem dX4_black_20 : decode cX4_black 20 = .ok (.iconst 0, 1) := by decide +kernel
theorem dX4_black_21 : decode cX4_black 21 = .ok (.iload_n 1, 1) := by decide +kernel
theorem dX4_black_22 : decode cX4_black 22 = .ok (.iastore, 1) := by decide +kernel
theorem dX4_black_23 : decode cX4_black 23 = .ok (.invokevirtual 83, 3) := by decide +kernel
theorem dX4_black_26 : decode cX4_black 26 = .ok (.ireturn, 1) := by decide +kernel
theorem dX4_gain_0 : decode cX4_gain 0 = .ok (.iload_n 1, 1) := by decide +kernel
theorem dX4_gain_1 : decode cX4_gain 1 = .ok (.iconst 0, 1) := by decide +kernel
theorem dX4_gain_2 : decode cX4_gain 2 = .ok (.sipush 8000, 3) := by decide +kernel
theorem dX4_gain_5 : decode cX4_gain 5 = .ok (.invokestatic 65, 3) := by decide +kernel
theorem dX4_gain_8 : decode cX4_gain 8 = .ok (.ifCond .eq 25, 3) := by decide +kernel
theorem dX4_gain_11 : decode cX4_gain 11 = .ok (.iload_n 2, 1) := by decide +kernel
theorem dX4_gain_12 : decode cX4_gain 12 = .ok (.iconst 0, 1) := by decide +kernel
theorem dX4_gain_13 : decode cX4_gain 13 = .ok (.sipush 8000, 3) := by decide +kernel
theorem dX4_gain_16 : decode cX4_gain 16 = .ok (.invokestatic 65, 3) := by decide +kernel
theorem dX4_gain_19 : decode cX4_gain 19 = .ok (.ifCond .eq 14, 3) := by decide +kernel
theorem dX4_gain_22 : decode cX4_gain 22 = .ok (.iload_n 3, 1) := by decide +kernel
theorem dX4_gain_23 : decode cX4_gain 23 = .ok (.iconst 0, 1) := by decide +kernel
theorem dX4_gain_24 : decode cX4_gain 24 = .ok (.sipush 8000, 3) := by decide +kernel
theorem dX4_gain_27 : decode cX4_gain 27 = .ok (.invokestatic 65, 3) := by decide +kernel
theorem dX4_gain_30 : decode cX4_gain 30 = .ok (.ifCond .ne 6, 3) := by decide +kernel
theorem dX4_gain_33 : decode cX4_gain 33 = .ok (.bipush (-102), 2) := by decide +kernel
theorem dX4_gain_35 : decode cX4_gain 35 = .ok (.ireturn, 1) := by decide +kernel
theorem dX4_gain_36 : decode cX4_gain 36 = .ok (.aload_n 0, 1) := by decide +kernel
theorem dX4_gain_37 : decode cX4_gain 37 = .ok (.iconst 1, 1) := by decide +kernel
theorem dX4_gain_38 : decode cX4_gain 38 = .ok (.iconst 3, 1) := by decide +kernel
theorem dX4_gain_39 : decode cX4_gain 39 = .ok (.newarray .int, 2) := by decide +kernel
theorem dX4_gain_41 : decode cX4_gain 41 = .ok (.dup, 1) := by decide +kernel
theorem dX4_gain_42 : decode cX4_gain 42 = .ok (.iconst 0, 1) := by decide +kernel
theorem dX4_gain_43 : decode cX4_gain 43 = .ok (.iload_n 1, 1) := by decide +kernel
theorem dX4_gain_44 : decode cX4_gain 44 = .ok (.iastore, 1) := by decide +kernel
theorem dX4_gain_45 : decode cX4_gain 45 = .ok (.dup, 1) := by decide +kernel
theorem dX4_gain_46 : decode cX4_gain 46 = .ok (.iconst 1, 1) := by decide +kernel
theorem dX4_gain_47 : decode cX4_gain 47 = .ok (.iload_n 2, 1) := by decide +kernel
theorem dX4_gain_48 : decode cX4_gain 48 = .ok (.iastore, 1) := by decide +kernel
theorem dX4_gain_49 : decode cX4_gain 49 = .ok (.dup, 1) := by decide +kernel
theorem dX4_gain_50 : decode cX4_gain 50 = .ok (.iconst 2, 1) := by decide +kernel
theorem dX4_gain_51 : decode cX4_gain 51 = .ok (.iload_n 3, 1) := by decide +kernel
theorem dX4_gain_52 : decode cX4_gain 52 = .ok (.iastore, 1) := by decide +kernel
theorem dX4_gain_53 : decode cX4_gain 53 = .ok (.invokevirtual 83, 3) := by decide +kernel
theorem dX4_gain_56 : decode cX4_gain 56 = .ok (.ireturn, 1) := by decide +kernel
theorem dX4_step_0 : decode cX4_step 0 = .ok (.iload_n 1, 1) := by decide +kernel
theorem dX4_step_1 : decode cX4_step 1 = .ok (.iconst 2, 1) := by decide +kernel
theorem dX4_step_2 : decode cX4_step 2 = .ok (.if_icmp .eq 22, 3) := by decide +kernel
theorem dX4_step_5 : decode cX4_step 5 = .ok (.iload_n 1, 1) := by decide +kernel
theorem dX4_step_6 : decode cX4_step 6 = .ok (.iconst 3, 1) := by decide +kernel
theorem dX4_step_7 : decode cX4_step 7 = .ok (.if_icmp .eq 17, 3) := by decide +kernel
theorem dX4_step_10 : decode cX4_step 10 = .ok (.iload_n 1, 1) := by decide +kernel
theorem dX4_step_11 : decode cX4_step 11 = .ok (.iconst 4, 1) := by decide +kernel
theorem dX4_step_12 : decode cX4_step 12 = .ok (.if_icmp .eq 12, 3) := by decide +kernel
theorem dX4_step_15 : decode cX4_step 15 = .ok (.iload_n 1, 1) := by decide +kernel
theorem dX4_step_16 : decode cX4_step 16 = .ok (.bipush 7, 2) := by decide +kernel
theorem dX4_step_18 : decode cX4_step 18 = .ok (.if_icmp .eq 6, 3) := by decide +kernel
theorem dX4_step_21 : decode cX4_step 21 = .ok (.bipush (-102), 2) := by decide +kernel
theorem dX4_step_23 : decode cX4_step 23 = .ok (.ireturn, 1) := by decide +kernel
theorem dX4_step_24 : decode cX4_step 24 = .ok (.aload_n 0, 1) := by decide +kernel
theorem dX4_step_25 : decode cX4_step 25 = .ok (.iload_n 1, 1) := by decide +kernel
theorem dX4_step_26 : decode cX4_step 26 = .ok (.getstatic 87, 3) := by decide +kernel
theorem dX4_step_29 : decode cX4_step 29 = .ok (.invokevirtual 83, 3) := by decide +kernel
theorem dX4_step_32 : decode cX4_step 32 = .ok (.ireturn, 1) := by decide +kernel
theorem dX4_entry_0 : decode cX4_entry 0 = .ok (.iload_n 1, 1) := by decide +kernel
theorem dX4_entry_1 : decode cX4_entry 1 = .ok (.iconst 0, 1) := by decide +kernel
theorem dX4_entry_2 : decode cX4_entry 2 = .ok (.bipush 8, 2) := by decide +kernel
theorem dX4_entry_4 : decode cX4_entry 4 = .ok (.invokestatic 65, 3) := by decide +kernel
theorem dX4_entry_7 : decode cX4_entry 7 = .ok (.ifCond .ne 6, 3) := by decide +kernel
theorem dX4_entry_10 : decode cX4_entry 10 = .ok (.bipush (-101), 2) := by decide +kernel
theorem dX4_entry_12 : decode cX4_entry 12 = .ok (.ireturn, 1) := by decide +kernel
theorem dX4_entry_13 : decode cX4_entry 13 = .ok (.iload_n 2, 1) := by decide +kernel
theorem dX4_entry_14 : decode cX4_entry 14 = .ok (.sipush (-4000), 3) := by decide +kernel
theorem dX4_entry_17 : decode cX4_entry 17 = .ok (.sipush 4000, 3) := by decide +kernel
theorem dX4_entry_20 : decode cX4_entry 20 = .ok (.invokestatic 65, 3) := by decide +kernel
theorem dX4_entry_23 : decode cX4_entry 23 = .ok (.ifCond .ne 6, 3) := by decide +kernel
theorem dX4_entry_26 : decode cX4_entry 26 = .ok (.bipush (-102), 2) := by decide +kernel
theorem dX4_entry_28 : decode cX4_entry 28 = .ok (.ireturn, 1) := by decide +kernel
theorem dX4_entry_29 : decode cX4_entry 29 = .ok (.aload_n 0, 1) := by decide +kernel
theorem dX4_entry_30 : decode cX4_entry 30 = .ok (.getfield 46, 3) := by decide +kernel
theorem dX4_entry_33 : decode cX4_entry 33 = .ok (.iload_n 1, 1) := by decide +kernel
theorem dX4_entry_34 : decode cX4_entry 34 = .ok (.iaload, 1) := by decide +kernel
theorem dX4_entry_35 : decode cX4_entry 35 = .ok (.istore_n 3, 1) := by decide +kernel
theorem dX4_entry_36 : decode cX4_entry 36 = .ok (.aload_n 0, 1) := by decide +kernel
theorem dX4_entry_37 : decode cX4_entry 37 = .ok (.getfield 46, 3) := by decide +kernel
theorem dX4_entry_40 : decode cX4_entry 40 = .ok (.iload_n 1, 1) := by decide +kernel
theorem dX4_entry_41 : decode cX4_entry 41 = .ok (.iload_n 2, 1) := by decide +kernel
theorem dX4_entry_42 : decode cX4_entry 42 = .ok (.iastore, 1) := by decide +kernel
theorem dX4_entry_43 : decode cX4_entry 43 = .ok (.iload_n 3, 1) := by decide +kernel
theorem dX4_entry_44 : decode cX4_entry 44 = .ok (.ireturn, 1) := by decide +kernel
theorem dX4_matrix_0 : decode cX4_matrix 0 = .ok (.aload_n 0, 1) := by decide +kernel
theorem dX4_matrix_1 : decode cX4_matrix 1 = .ok (.iconst 5, 1) := by decide +kernel
theorem dX4_matrix_2 : decode cX4_matrix 2 = .ok (.aload_n 0, 1) := by decide +kernel
theorem dX4_matrix_3 : decode cX4_matrix 3 = .ok (.getfield 46, 3) := by decide +kernel
theorem dX4_matrix_6 : decode cX4_matrix 6 = .ok (.invokevirtual 83, 3) := by decide +kernel
theorem dX4_matrix_9 : decode cX4_matrix 9 = .ok (.ireturn, 1) := by decide +kernel
theorem dX4_point_0 : decode cX4_point 0 = .ok (.iload_n 1, 1) := by decide +kernel
theorem dX4_point_1 : decode cX4_point 1 = .ok (.iconst 0, 1) := by decide +kernel
theorem dX4_point_2 : decode cX4_point 2 = .ok (.bipush 16, 2) := by decide +kernel
theorem dX4_point_4 : decode cX4_point 4 = .ok (.invokestatic 65, 3) := by decide +kernel
theorem dX4_point_7 : decode cX4_point 7 = .ok (.ifCond .ne 6, 3) := by decide +kernel
theorem dX4_point_10 : decode cX4_point 10 = .ok (.bipush (-101), 2) := by decide +kernel
theorem dX4_point_12 : decode cX4_point 12 = .ok (.ireturn, 1) := by decide +kernel
theorem dX4_point_13 : decode cX4_point 13 = .ok (.iload_n 2, 1) := by decide +kernel
theorem dX4_point_14 : decode cX4_point 14 = .ok (.iconst 0, 1) := by decide +kernel
theorem dX4_point_15 : decode cX4_point 15 = .ok (.sipush 4095, 3) := by decide +kernel
theorem dX4_point_18 : decode cX4_point 18 = .ok (.invokestatic 65, 3) := by decide +kernel
theorem dX4_point_21 : decode cX4_point 21 = .ok (.ifCond .ne 6, 3) := by decide +kernel
theorem dX4_point_24 : decode cX4_point 24 = .ok (.bipush (-102), 2) := by decide +kernel
theorem dX4_point_26 : decode cX4_point 26 = .ok (.ireturn, 1) := by decide +kernel
theorem dX4_point_27 : decode cX4_point 27 = .ok (.aload_n 0, 1) := by decide +kernel
theorem dX4_point_28 : decode cX4_point 28 = .ok (.getfield 49, 3) := by decide +kernel
theorem dX4_point_31 : decode cX4_point 31 = .ok (.iload_n 1, 1) := by decide +kernel
theorem dX4_point_32 : decode cX4_point 32 = .ok (.iaload, 1) := by decide +kernel
theorem dX4_point_33 : decode cX4_point 33 = .ok (.istore_n 3, 1) := by decide +kernel
theorem dX4_point_34 : decode cX4_point 34 = .ok (.aload_n 0, 1) := by decide +kernel
theorem dX4_point_35 : decode cX4_point 35 = .ok (.getfield 49, 3) := by decide +kernel
theorem dX4_point_38 : decode cX4_point 38 = .ok (.iload_n 1, 1) := by decide +kernel
theorem dX4_point_39 : decode cX4_point 39 = .ok (.iload_n 2, 1) := by decide +kernel
theorem dX4_point_40 : decode cX4_point 40 = .ok (.iastore, 1) := by decide +kernel
theorem dX4_point_41 : decode cX4_point 41 = .ok (.iload_n 3, 1) := by decide +kernel
theorem dX4_point_42 : decode cX4_point 42 = .ok (.ireturn, 1) := by decide +kernel
theorem dX4_curve_0 : decode cX4_curve 0 = .ok (.iconst 1, 1) := by decide +kernel
theorem dX4_curve_1 : decode cX4_curve 1 = .ok (.istore_n 1, 1) := by decide +kernel
theorem dX4_curve_2 : decode cX4_curve 2 = .ok (.iload_n 1, 1) := by decide +kernel
theorem dX4_curve_3 : decode cX4_curve 3 = .ok (.bipush 17, 2) := by decide +kernel
theorem dX4_curve_5 : decode cX4_curve 5 = .ok (.if_icmp .ge 29, 3) := by decide +kernel
theorem dX4_curve_8 : decode cX4_curve 8 = .ok (.aload_n 0, 1) := by decide +kernel
theorem dX4_curve_9 : decode cX4_curve 9 = .ok (.getfield 49, 3) := by decide +kernel
theorem dX4_curve_12 : decode cX4_curve 12 = .ok (.iload_n 1, 1) := by decide +kernel
theorem dX4_curve_13 : decode cX4_curve 13 = .ok (.iaload, 1) := by decide +kernel
theorem dX4_curve_14 : decode cX4_curve 14 = .ok (.aload_n 0, 1) := by decide +kernel
theorem dX4_curve_15 : decode cX4_curve 15 = .ok (.getfield 49, 3) := by decide +kernel
theorem dX4_curve_18 : decode cX4_curve 18 = .ok (.iload_n 1, 1) := by decide +kernel
theorem dX4_curve_19 : decode cX4_curve 19 = .ok (.iconst 1, 1) := by decide +kernel
theorem dX4_curve_20 : decode cX4_curve 20 = .ok (.isub, 1) := by decide +kernel
theorem dX4_curve_21 : decode cX4_curve 21 = .ok (.iaload, 1) := by decide +kernel
theorem dX4_curve_22 : decode cX4_curve 22 = .ok (.if_icmp .ge 6, 3) := by decide +kernel
theorem dX4_curve_25 : decode cX4_curve 25 = .ok (.bipush (-102), 2) := by decide +kernel
theorem dX4_curve_27 : decode cX4_curve 27 = .ok (.ireturn, 1) := by decide +kernel
theorem dX4_curve_28 : decode cX4_curve 28 = .ok (.iinc 1 1, 3) := by decide +kernel
theorem dX4_curve_31 : decode cX4_curve 31 = .ok (.goto (-29), 3) := by decide +kernel
theorem dX4_curve_34 : decode cX4_curve 34 = .ok (.aload_n 0, 1) := by decide +kernel
theorem dX4_curve_35 : decode cX4_curve 35 = .ok (.bipush 6, 2) := by decide +kernel
theorem dX4_curve_37 : decode cX4_curve 37 = .ok (.aload_n 0, 1) := by decide +kernel
theorem dX4_curve_38 : decode cX4_curve 38 = .ok (.getfield 49, 3) := by decide +kernel
theorem dX4_curve_41 : decode cX4_curve 41 = .ok (.invokevirtual 83, 3) := by decide +kernel
theorem dX4_curve_44 : decode cX4_curve 44 = .ok (.ireturn, 1) := by decide +kernel
theorem dX4_undo_0 : decode cX4_undo 0 = .ok (.aload_n 0, 1) := by decide +kernel
theorem dX4_undo_1 : decode cX4_undo 1 = .ok (.getfield 19, 3) := by decide +kernel
theorem dX4_undo_4 : decode cX4_undo 4 = .ok (.getfield 90, 3) := by decide +kernel
theorem dX4_undo_7 : decode cX4_undo 7 = .ok (.ifCond .ne 6, 3) := by decide +kernel
theorem dX4_undo_10 : decode cX4_undo 10 = .ok (.bipush (-103), 2) := by decide +kernel
theorem dX4_undo_12 : decode cX4_undo 12 = .ok (.ireturn, 1) := by decide +kernel
theorem dX4_undo_13 : decode cX4_undo 13 = .ok (.aload_n 0, 1) := by decide +kernel
theorem dX4_undo_14 : decode cX4_undo 14 = .ok (.getfield 19, 3) := by decide +kernel
theorem dX4_undo_17 : decode cX4_undo 17 = .ok (.dup, 1) := by decide +kernel
theorem dX4_undo_18 : decode cX4_undo 18 = .ok (.getfield 90, 3) := by decide +kernel
theorem dX4_undo_21 : decode cX4_undo 21 = .ok (.iconst 1, 1) := by decide +kernel
theorem dX4_undo_22 : decode cX4_undo 22 = .ok (.isub, 1) := by decide +kernel
theorem dX4_undo_23 : decode cX4_undo 23 = .ok (.putfield 90, 3) := by decide +kernel
theorem dX4_undo_26 : decode cX4_undo 26 = .ok (.aload_n 0, 1) := by decide +kernel
theorem dX4_undo_27 : decode cX4_undo 27 = .ok (.getfield 19, 3) := by decide +kernel
theorem dX4_undo_30 : decode cX4_undo 30 = .ok (.getfield 90, 3) := by decide +kernel
theorem dX4_undo_33 : decode cX4_undo 33 = .ok (.ireturn, 1) := by decide +kernel
theorem dX4_kind_0 : decode cX4_kind 0 = .ok (.iload_n 1, 1) := by decide +kernel
theorem dX4_kind_1 : decode cX4_kind 1 = .ok (.iconst 0, 1) := by decide +kernel
theorem dX4_kind_2 : decode cX4_kind 2 = .ok (.aload_n 0, 1) := by decide +kernel
theorem dX4_kind_3 : decode cX4_kind 3 = .ok (.getfield 19, 3) := by decide +kernel
theorem dX4_kind_6 : decode cX4_kind 6 = .ok (.getfield 90, 3) := by decide +kernel
theorem dX4_kind_9 : decode cX4_kind 9 = .ok (.iconst 1, 1) := by decide +kernel
theorem dX4_kind_10 : decode cX4_kind 10 = .ok (.isub, 1) := by decide +kernel
theorem dX4_kind_11 : decode cX4_kind 11 = .ok (.invokestatic 65, 3) := by decide +kernel
theorem dX4_kind_14 : decode cX4_kind 14 = .ok (.ifCond .eq 15, 3) := by decide +kernel
theorem dX4_kind_17 : decode cX4_kind 17 = .ok (.aload_n 0, 1) := by decide +kernel
theorem dX4_kind_18 : decode cX4_kind 18 = .ok (.getfield 19, 3) := by decide +kernel
theorem dX4_kind_21 : decode cX4_kind 21 = .ok (.getfield 94, 3) := by decide +kernel
theorem dX4_kind_24 : decode cX4_kind 24 = .ok (.iload_n 1, 1) := by decide +kernel
theorem dX4_kind_25 : decode cX4_kind 25 = .ok (.iaload, 1) := by decide +kernel
theorem dX4_kind_26 : decode cX4_kind 26 = .ok (.goto 4, 3) := by decide +kernel
theorem dX4_kind_29 : decode cX4_kind 29 = .ok (.iconst (-1), 1) := by decide +kernel
theorem dX4_kind_30 : decode cX4_kind 30 = .ok (.ireturn, 1) := by decide +kernel
theorem dX4_stage_0 : decode cX4_stage 0 = .ok (.aload_n 0, 1) := by decide +kernel
theorem dX4_stage_1 : decode cX4_stage 1 = .ok (.getfield 19, 3) := by decide +kernel
theorem dX4_stage_4 : decode cX4_stage 4 = .ok (.iload_n 1, 1) := by decide +kernel
theorem dX4_stage_5 : decode cX4_stage 5 = .ok (.invokevirtual 97, 3) := by decide +kernel
theorem dX4_stage_8 : decode cX4_stage 8 = .ok (.ifCond .ne 6, 3) := by decide +kernel
theorem dX4_stage_11 : decode cX4_stage 11 = .ok (.bipush (-101), 2) := by decide +kernel
theorem dX4_stage_13 : decode cX4_stage 13 = .ok (.ireturn, 1) := by decide +kernel
theorem dX4_stage_14 : decode cX4_stage 14 = .ok (.iload_n 2, 1) := by decide +kernel
theorem dX4_stage_15 : decode cX4_stage 15 = .ok (.iconst 0, 1) := by decide +kernel
theorem dX4_stage_16 : decode cX4_stage 16 = .ok (.iconst 4, 1) := by decide +kernel
theorem dX4_stage_17 : decode cX4_stage 17 = .ok (.invokestatic 65, 3) := by decide +kernel
theorem dX4_stage_20 : decode cX4_stage 20 = .ok (.ifCond .ne 6, 3) := by decide +kernel
theorem dX4_stage_23 : decode cX4_stage 23 = .ok (.bipush (-102), 2) := by decide +kernel
theorem dX4_stage_25 : decode cX4_stage 25 = .ok (.ireturn, 1) := by decide +kernel
theorem dX4_stage_26 : decode cX4_stage 26 = .ok (.aload_n 0, 1) := by decide +kernel
theorem dX4_stage_27 : decode cX4_stage 27 = .ok (.getfield 19, 3) := by decide +kernel
theorem dX4_stage_30 : decode cX4_stage 30 = .ok (.getfield 101, 3) := by decide +kernel
theorem dX4_stage_33 : decode cX4_stage 33 = .ok (.iload_n 1, 1) := by decide +kernel
theorem dX4_stage_34 : decode cX4_stage 34 = .ok (.aaload, 1) := by decide +kernel
theorem dX4_stage_35 : decode cX4_stage 35 = .ok (.iload_n 2, 1) := by decide +kernel
theorem dX4_stage_36 : decode cX4_stage 36 = .ok (.iaload, 1) := by decide +kernel
theorem dX4_stage_37 : decode cX4_stage 37 = .ok (.ireturn, 1) := by decide +kernel
theorem dX4_at_0 : decode cX4_at 0 = .ok (.aload_n 0, 1) := by decide +kernel
theorem dX4_at_1 : decode cX4_at 1 = .ok (.getfield 19, 3) := by decide +kernel
theorem dX4_at_4 : decode cX4_at 4 = .ok (.iload_n 1, 1) := by decide +kernel
theorem dX4_at_5 : decode cX4_at 5 = .ok (.invokevirtual 97, 3) := by decide +kernel
theorem dX4_at_8 : decode cX4_at 8 = .ok (.ifCond .ne 6, 3) := by decide +kernel
theorem dX4_at_11 : decode cX4_at 11 = .ok (.bipush (-101), 2) := by decide +kernel
theorem dX4_at_13 : decode cX4_at 13 = .ok (.ireturn, 1) := by decide +kernel
theorem dX4_at_14 : decode cX4_at 14 = .ok (.aload_n 0, 1) := by decide +kernel
theorem dX4_at_15 : decode cX4_at 15 = .ok (.getfield 19, 3) := by decide +kernel
theorem dX4_at_18 : decode cX4_at 18 = .ok (.iload_n 1, 1) := by decide +kernel
theorem dX4_at_19 : decode cX4_at 19 = .ok (.iload_n 2, 1) := by decide +kernel
theorem dX4_at_20 : decode cX4_at 20 = .ok (.iload_n 3, 1) := by decide +kernel
theorem dX4_at_21 : decode cX4_at 21 = .ok (.iconst 1, 1) := by decide +kernel
theorem dX4_at_22 : decode cX4_at 22 = .ok (.iconst 1, 1) := by decide +kernel
theorem dX4_at_23 : decode cX4_at 23 = .ok (.invokevirtual 105, 3) := by decide +kernel
theorem dX4_at_26 : decode cX4_at 26 = .ok (.ifCond .eq 16, 3) := by decide +kernel
theorem dX4_at_29 : decode cX4_at 29 = .ok (.aload_n 0, 1) := by decide +kernel
theorem dX4_at_30 : decode cX4_at 30 = .ok (.getfield 19, 3) := by decide +kernel
theorem dX4_at_33 : decode cX4_at 33 = .ok (.iload_n 1, 1) := by decide +kernel
theorem dX4_at_34 : decode cX4_at 34 = .ok (.iload 4, 2) := by decide +kernel
theorem dX4_at_36 : decode cX4_at 36 = .ok (.invokevirtual 109, 3) := by decide +kernel
theorem dX4_at_39 : decode cX4_at 39 = .ok (.ifCond .ne 6, 3) := by decide +kernel
theorem dX4_at_42 : decode cX4_at 42 = .ok (.bipush (-102), 2) := by decide +kernel
theorem dX4_at_44 : decode cX4_at 44 = .ok (.ireturn, 1) := by decide +kernel
theorem dX4_at_45 : decode cX4_at 45 = .ok (.aload_n 0, 1) := by decide +kernel
theorem dX4_at_46 : decode cX4_at 46 = .ok (.getfield 26, 3) := by decide +kernel
theorem dX4_at_49 : decode cX4_at 49 = .ok (.iload_n 1, 1) := by decide +kernel
theorem dX4_at_50 : decode cX4_at 50 = .ok (.invokevirtual 112, 3) := by decide +kernel
theorem dX4_at_53 : decode cX4_at 53 = .ok (.aload_n 0, 1) := by decide +kernel
theorem dX4_at_54 : decode cX4_at 54 = .ok (.getfield 26, 3) := by decide +kernel
theorem dX4_at_57 : decode cX4_at 57 = .ok (.iload_n 2, 1) := by decide +kernel
theorem dX4_at_58 : decode cX4_at 58 = .ok (.iload_n 3, 1) := by decide +kernel
theorem dX4_at_59 : decode cX4_at 59 = .ok (.iconst 1, 1) := by decide +kernel
theorem dX4_at_60 : decode cX4_at 60 = .ok (.iconst 1, 1) := by decide +kernel
theorem dX4_at_61 : decode cX4_at 61 = .ok (.iload 4, 2) := by decide +kernel
theorem dX4_at_63 : decode cX4_at 63 = .ok (.invokevirtual 116, 3) := by decide +kernel
theorem dX4_at_66 : decode cX4_at 66 = .ok (.aload_n 0, 1) := by decide +kernel
theorem dX4_at_67 : decode cX4_at 67 = .ok (.getfield 33, 3) := by decide +kernel
theorem dX4_at_70 : decode cX4_at 70 = .ok (.aload_n 0, 1) := by decide +kernel
theorem dX4_at_71 : decode cX4_at 71 = .ok (.getfield 12, 3) := by decide +kernel
theorem dX4_at_74 : decode cX4_at 74 = .ok (.aload_n 0, 1) := by decide +kernel
theorem dX4_at_75 : decode cX4_at 75 = .ok (.getfield 19, 3) := by decide +kernel
theorem dX4_at_78 : decode cX4_at 78 = .ok (.aload_n 0, 1) := by decide +kernel
theorem dX4_at_79 : decode cX4_at 79 = .ok (.getfield 26, 3) := by decide +kernel
theorem dX4_at_82 : decode cX4_at 82 = .ok (.invokevirtual 120, 3) := by decide +kernel
theorem dX4_at_85 : decode cX4_at 85 = .ok (.aload_n 0, 1) := by decide +kernel
theorem dX4_at_86 : decode cX4_at 86 = .ok (.getfield 33, 3) := by decide +kernel
theorem dX4_at_89 : decode cX4_at 89 = .ok (.iload_n 2, 1) := by decide +kernel
theorem dX4_at_90 : decode cX4_at 90 = .ok (.iload_n 3, 1) := by decide +kernel
theorem dX4_at_91 : decode cX4_at 91 = .ok (.iload 4, 2) := by decide +kernel
theorem dX4_at_93 : decode cX4_at 93 = .ok (.invokevirtual 124, 3) := by decide +kernel
theorem dX4_at_96 : decode cX4_at 96 = .ok (.ireturn, 1) := by decide +kernel
theorem dX4_part_0 : decode cX4_part 0 = .ok (.aload_n 0, 1) := by decide +kernel
