theorem dX5_made_159 : decode cX5_made 159 = .ok (.ireturn, 1) := by decide +kernel
theorem dX5_made_160 : decode cX5_made 160 = .ok (.aload_n 0, 1) := by decide +kernel
theorem dX5_made_161 : decode cX5_made 161 = .ok (.iload_n 1, 1) := by decide +kernel
theorem dX5_made_162 : decode cX5_made 162 = .ok (.iload 5, 2) := by decide +kernel
theorem dX5_made_164 : decode cX5_made 164 = .ok (.invokevirtual 115, 3) := by decide +kernel
theorem dX5_made_167 : decode cX5_made 167 = .ok (.ireturn, 1) := by decide +kernel
theorem dX5_made_168 : decode cX5_made 168 = .ok (.aload_n 0, 1) := by decide +kernel
theorem dX5_made_169 : decode cX5_made 169 = .ok (.iload_n 1, 1) := by decide +kernel
theorem dX5_made_170 : decode cX5_made 170 = .ok (.iload_n 2, 1) := by decide +kernel
theorem dX5_made_171 : decode cX5_made 171 = .ok (.iload_n 3, 1) := by decide +kernel
theorem dX5_made_172 : decode cX5_made 172 = .ok (.iload 4, 2) := by decide +kernel
theorem dX5_made_174 : decode cX5_made 174 = .ok (.invokevirtual 118, 3) := by decide +kernel
theorem dX5_made_177 : decode cX5_made 177 = .ok (.ireturn, 1) := by decide +kernel
theorem dX5_make_0 : decode cX5_make 0 = .ok (.aload_n 0, 1) := by decide +kernel
theorem dX5_make_1 : decode cX5_make 1 = .ok (.invokevirtual 71, 3) := by decide +kernel
theorem dX5_make_4 : decode cX5_make 4 = .ok (.iconst 0, 1) := by decide +kernel
theorem dX5_make_5 : decode cX5_make 5 = .ok (.istore_n 2, 1) := by decide +kernel
theorem dX5_make_6 : decode cX5_make 6 = .ok (.iload_n 2, 1) := by decide +kernel
theorem dX5_make_7 : decode cX5_make 7 = .ok (.aload_n 0, 1) := by decide +kernel
theorem dX5_make_8 : decode cX5_make 8 = .ok (.getfield 13, 3) := by decide +kernel
theorem dX5_make_11 : decode cX5_make 11 = .ok (.if_icmp .ge 48, 3) := by decide +kernel
theorem dX5_make_14 : decode cX5_make 14 = .ok (.iconst 0, 1) := by decide +kernel
theorem dX5_make_15 : decode cX5_make 15 = .ok (.istore_n 3, 1) := by decide +kernel
theorem dX5_make_16 : decode cX5_make 16 = .ok (.iload_n 3, 1) := by decide +kernel
theorem dX5_make_17 : decode cX5_make 17 = .ok (.aload_n 0, 1) := by decide +kernel
theorem dX5_make_18 : decode cX5_make 18 = .ok (.getfield 7, 3) := by decide +kernel
theorem dX5_make_21 : decode cX5_make 21 = .ok (.if_icmp .ge 32, 3) := by decide +kernel
theorem dX5_make_24 : decode cX5_make 24 = .ok (.aload_n 0, 1) := by decide +kernel
theorem dX5_make_25 : decode cX5_make 25 = .ok (.getfield 51, 3) := by decide +kernel
theorem dX5_make_28 : decode cX5_make 28 = .ok (.iconst 0, 1) := by decide +kernel
theorem dX5_make_29 : decode cX5_make 29 = .ok (.iload_n 3, 1) := by decide +kernel
theorem dX5_make_30 : decode cX5_make 30 = .ok (.iload_n 2, 1) := by decide +kernel
theorem dX5_make_31 : decode cX5_make 31 = .ok (.iconst 0, 1) := by decide +kernel
theorem dX5_make_32 : decode cX5_make 32 = .ok (.invokestatic 85, 3) := by decide +kernel
theorem dX5_make_35 : decode cX5_make 35 = .ok (.aload_n 0, 1) := by decide +kernel
theorem dX5_make_36 : decode cX5_make 36 = .ok (.getfield 16, 3) := by decide +kernel
theorem dX5_make_39 : decode cX5_make 39 = .ok (.bipush 16, 2) := by decide +kernel
theorem dX5_make_41 : decode cX5_make 41 = .ok (.iload_n 2, 1) := by decide +kernel
theorem dX5_make_42 : decode cX5_make 42 = .ok (.imul, 1) := by decide +kernel
theorem dX5_make_43 : decode cX5_make 43 = .ok (.iload_n 3, 1) := by decide +kernel
theorem dX5_make_44 : decode cX5_make 44 = .ok (.iadd, 1) := by decide +kernel
theorem dX5_make_45 : decode cX5_make 45 = .ok (.iaload, 1) := by decide +kernel
theorem dX5_make_46 : decode cX5_make 46 = .ok (.iastore, 1) := by decide +kernel
theorem dX5_make_47 : decode cX5_make 47 = .ok (.iinc 3 1, 3) := by decide +kernel
theorem dX5_make_50 : decode cX5_make 50 = .ok (.goto (-34), 3) := by decide +kernel
theorem dX5_make_53 : decode cX5_make 53 = .ok (.iinc 2 1, 3) := by decide +kernel
theorem dX5_make_56 : decode cX5_make 56 = .ok (.goto (-50), 3) := by decide +kernel
theorem dX5_make_59 : decode cX5_make 59 = .ok (.iconst 0, 1) := by decide +kernel
theorem dX5_make_60 : decode cX5_make 60 = .ok (.istore_n 2, 1) := by decide +kernel
theorem dX5_make_61 : decode cX5_make 61 = .ok (.iload_n 2, 1) := by decide +kernel
theorem dX5_make_62 : decode cX5_make 62 = .ok (.iload_n 1, 1) := by decide +kernel
theorem dX5_make_63 : decode cX5_make 63 = .ok (.if_icmp .ge 126, 3) := by decide +kernel
theorem dX5_make_66 : decode cX5_make 66 = .ok (.iconst 0, 1) := by decide +kernel
theorem dX5_make_67 : decode cX5_make 67 = .ok (.istore_n 3, 1) := by decide +kernel
theorem dX5_make_68 : decode cX5_make 68 = .ok (.iload_n 3, 1) := by decide +kernel
theorem dX5_make_69 : decode cX5_make 69 = .ok (.aload_n 0, 1) := by decide +kernel
theorem dX5_make_70 : decode cX5_make 70 = .ok (.getfield 39, 3) := by decide +kernel
theorem dX5_make_73 : decode cX5_make 73 = .ok (.iload_n 2, 1) := by decide +kernel
theorem dX5_make_74 : decode cX5_make 74 = .ok (.iconst 1, 1) := by decide +kernel
theorem dX5_make_75 : decode cX5_make 75 = .ok (.iadd, 1) := by decide +kernel
theorem dX5_make_76 : decode cX5_make 76 = .ok (.iaload, 1) := by decide +kernel
theorem dX5_make_77 : decode cX5_make 77 = .ok (.if_icmp .ge 106, 3) := by decide +kernel
theorem dX5_make_80 : decode cX5_make 80 = .ok (.iconst 0, 1) := by decide +kernel
theorem dX5_make_81 : decode cX5_make 81 = .ok (.istore 4, 2) := by decide +kernel
theorem dX5_make_83 : decode cX5_make 83 = .ok (.iload 4, 2) := by decide +kernel
theorem dX5_make_85 : decode cX5_make 85 = .ok (.aload_n 0, 1) := by decide +kernel
theorem dX5_make_86 : decode cX5_make 86 = .ok (.getfield 36, 3) := by decide +kernel
theorem dX5_make_89 : decode cX5_make 89 = .ok (.iload_n 2, 1) := by decide +kernel
theorem dX5_make_90 : decode cX5_make 90 = .ok (.iconst 1, 1) := by decide +kernel
theorem dX5_make_91 : decode cX5_make 91 = .ok (.iadd, 1) := by decide +kernel
theorem dX5_make_92 : decode cX5_make 92 = .ok (.iaload, 1) := by decide +kernel
theorem dX5_make_93 : decode cX5_make 93 = .ok (.if_icmp .ge 84, 3) := by decide +kernel
theorem dX5_make_96 : decode cX5_make 96 = .ok (.iconst 0, 1) := by decide +kernel
theorem dX5_make_97 : decode cX5_make 97 = .ok (.istore 5, 2) := by decide +kernel
theorem dX5_make_99 : decode cX5_make 99 = .ok (.iload 5, 2) := by decide +kernel
theorem dX5_make_101 : decode cX5_make 101 = .ok (.aload_n 0, 1) := by decide +kernel
theorem dX5_make_102 : decode cX5_make 102 = .ok (.getfield 42, 3) := by decide +kernel
theorem dX5_make_105 : decode cX5_make 105 = .ok (.iload_n 2, 1) := by decide +kernel
theorem dX5_make_106 : decode cX5_make 106 = .ok (.iconst 1, 1) := by decide +kernel
theorem dX5_make_107 : decode cX5_make 107 = .ok (.iadd, 1) := by decide +kernel
theorem dX5_make_108 : decode cX5_make 108 = .ok (.iaload, 1) := by decide +kernel
theorem dX5_make_109 : decode cX5_make 109 = .ok (.if_icmp .ge 62, 3) := by decide +kernel
theorem dX5_make_112 : decode cX5_make 112 = .ok (.aload_n 0, 1) := by decide +kernel
theorem dX5_make_113 : decode cX5_make 113 = .ok (.iload_n 2, 1) := by decide +kernel
theorem dX5_make_114 : decode cX5_make 114 = .ok (.iload 4, 2) := by decide +kernel
theorem dX5_make_116 : decode cX5_make 116 = .ok (.iload_n 3, 1) := by decide +kernel
theorem dX5_make_117 : decode cX5_make 117 = .ok (.iload 5, 2) := by decide +kernel
theorem dX5_make_119 : decode cX5_make 119 = .ok (.invokevirtual 121, 3) := by decide +kernel
theorem dX5_make_122 : decode cX5_make 122 = .ok (.istore 6, 2) := by decide +kernel
theorem dX5_make_124 : decode cX5_make 124 = .ok (.aload_n 0, 1) := by decide +kernel
theorem dX5_make_125 : decode cX5_make 125 = .ok (.getfield 51, 3) := by decide +kernel
theorem dX5_make_128 : decode cX5_make 128 = .ok (.iload_n 2, 1) := by decide +kernel
theorem dX5_make_129 : decode cX5_make 129 = .ok (.iconst 1, 1) := by decide +kernel
theorem dX5_make_130 : decode cX5_make 130 = .ok (.iadd, 1) := by decide +kernel
theorem dX5_make_131 : decode cX5_make 131 = .ok (.iload 4, 2) := by decide +kernel
theorem dX5_make_133 : decode cX5_make 133 = .ok (.iload_n 3, 1) := by decide +kernel
theorem dX5_make_134 : decode cX5_make 134 = .ok (.iload 5, 2) := by decide +kernel
theorem dX5_make_136 : decode cX5_make 136 = .ok (.invokestatic 85, 3) := by decide +kernel
theorem dX5_make_139 : decode cX5_make 139 = .ok (.iload 6, 2) := by decide +kernel
theorem dX5_make_141 : decode cX5_make 141 = .ok (.ifCond .ge 7, 3) := by decide +kernel
theorem dX5_make_144 : decode cX5_make 144 = .ok (.iconst 0, 1) := by decide +kernel
theorem dX5_make_145 : decode cX5_make 145 = .ok (.goto 19, 3) := by decide +kernel
theorem dX5_make_148 : decode cX5_make 148 = .ok (.iload 6, 2) := by decide +kernel
theorem dX5_make_150 : decode cX5_make 150 = .ok (.sipush 4095, 3) := by decide +kernel
theorem dX5_make_153 : decode cX5_make 153 = .ok (.if_icmp .le 9, 3) := by decide +kernel
theorem dX5_make_156 : decode cX5_make 156 = .ok (.sipush 4095, 3) := by decide +kernel
theorem dX5_make_159 : decode cX5_make 159 = .ok (.goto 5, 3) := by decide +kernel
theorem dX5_make_162 : decode cX5_make 162 = .ok (.iload 6, 2) := by decide +kernel
theorem dX5_make_164 : decode cX5_make 164 = .ok (.iastore, 1) := by decide +kernel
theorem dX5_make_165 : decode cX5_make 165 = .ok (.iinc 5 1, 3) := by decide +kernel
theorem dX5_make_168 : decode cX5_make 168 = .ok (.goto (-69), 3) := by decide +kernel
theorem dX5_make_171 : decode cX5_make 171 = .ok (.iinc 4 1, 3) := by decide +kernel
theorem dX5_make_174 : decode cX5_make 174 = .ok (.goto (-91), 3) := by decide +kernel
theorem dX5_make_177 : decode cX5_make 177 = .ok (.iinc 3 1, 3) := by decide +kernel
theorem dX5_make_180 : decode cX5_make 180 = .ok (.goto (-112), 3) := by decide +kernel
theorem dX5_make_183 : decode cX5_make 183 = .ok (.iinc 2 1, 3) := by decide +kernel
theorem dX5_make_186 : decode cX5_make 186 = .ok (.goto (-125), 3) := by decide +kernel
theorem dX5_make_189 : decode cX5_make 189 = .ok (.return_, 1) := by decide +kernel
theorem dX5_stage_0 : decode cX5_stage 0 = .ok (.iload_n 1, 1) := by decide +kernel
theorem dX5_stage_1 : decode cX5_stage 1 = .ok (.iconst 0, 1) := by decide +kernel
theorem dX5_stage_2 : decode cX5_stage 2 = .ok (.aload_n 0, 1) := by decide +kernel
theorem dX5_stage_3 : decode cX5_stage 3 = .ok (.getfield 64, 3) := by decide +kernel
theorem dX5_stage_6 : decode cX5_stage 6 = .ok (.invokestatic 60, 3) := by decide +kernel
theorem dX5_stage_9 : decode cX5_stage 9 = .ok (.ifCond .ne 6, 3) := by decide +kernel
theorem dX5_stage_12 : decode cX5_stage 12 = .ok (.bipush (-101), 2) := by decide +kernel
theorem dX5_stage_14 : decode cX5_stage 14 = .ok (.ireturn, 1) := by decide +kernel
theorem dX5_stage_15 : decode cX5_stage 15 = .ok (.aload_n 0, 1) := by decide +kernel
theorem dX5_stage_16 : decode cX5_stage 16 = .ok (.invokevirtual 71, 3) := by decide +kernel
theorem dX5_stage_19 : decode cX5_stage 19 = .ok (.iload_n 2, 1) := by decide +kernel
theorem dX5_stage_20 : decode cX5_stage 20 = .ok (.ifCond .ne 12, 3) := by decide +kernel
theorem dX5_stage_23 : decode cX5_stage 23 = .ok (.aload_n 0, 1) := by decide +kernel
theorem dX5_stage_24 : decode cX5_stage 24 = .ok (.getfield 36, 3) := by decide +kernel
theorem dX5_stage_27 : decode cX5_stage 27 = .ok (.iload_n 1, 1) := by decide +kernel
theorem dX5_stage_28 : decode cX5_stage 28 = .ok (.iaload, 1) := by decide +kernel
theorem dX5_stage_29 : decode cX5_stage 29 = .ok (.goto 61, 3) := by decide +kernel
theorem dX5_stage_32 : decode cX5_stage 32 = .ok (.iload_n 2, 1) := by decide +kernel
theorem dX5_stage_33 : decode cX5_stage 33 = .ok (.iconst 1, 1) := by decide +kernel
theorem dX5_stage_34 : decode cX5_stage 34 = .ok (.if_icmp .ne 12, 3) := by decide +kernel
theorem dX5_stage_37 : decode cX5_stage 37 = .ok (.aload_n 0, 1) := by decide +kernel
theorem dX5_stage_38 : decode cX5_stage 38 = .ok (.getfield 39, 3) := by decide +kernel
theorem dX5_stage_41 : decode cX5_stage 41 = .ok (.iload_n 1, 1) := by decide +kernel
theorem dX5_stage_42 : decode cX5_stage 42 = .ok (.iaload, 1) := by decide +kernel
theorem dX5_stage_43 : decode cX5_stage 43 = .ok (.goto 47, 3) := by decide +kernel
theorem dX5_stage_46 : decode cX5_stage 46 = .ok (.iload_n 2, 1) := by decide +kernel
theorem dX5_stage_47 : decode cX5_stage 47 = .ok (.iconst 2, 1) := by decide +kernel
theorem dX5_stage_48 : decode cX5_stage 48 = .ok (.if_icmp .ne 12, 3) := by decide +kernel
theorem dX5_stage_51 : decode cX5_stage 51 = .ok (.aload_n 0, 1) := by decide +kernel
theorem dX5_stage_52 : decode cX5_stage 52 = .ok (.getfield 42, 3) := by decide +kernel
theorem dX5_stage_55 : decode cX5_stage 55 = .ok (.iload_n 1, 1) := by decide +kernel
theorem dX5_stage_56 : decode cX5_stage 56 = .ok (.iaload, 1) := by decide +kernel
theorem dX5_stage_57 : decode cX5_stage 57 = .ok (.goto 33, 3) := by decide +kernel
theorem dX5_stage_60 : decode cX5_stage 60 = .ok (.iload_n 2, 1) := by decide +kernel
theorem dX5_stage_61 : decode cX5_stage 61 = .ok (.iconst 3, 1) := by decide +kernel
theorem dX5_stage_62 : decode cX5_stage 62 = .ok (.if_icmp .ne 12, 3) := by decide +kernel
theorem dX5_stage_65 : decode cX5_stage 65 = .ok (.aload_n 0, 1) := by decide +kernel
theorem dX5_stage_66 : decode cX5_stage 66 = .ok (.getfield 45, 3) := by decide +kernel
theorem dX5_stage_69 : decode cX5_stage 69 = .ok (.iload_n 1, 1) := by decide +kernel
theorem dX5_stage_70 : decode cX5_stage 70 = .ok (.iaload, 1) := by decide +kernel
theorem dX5_stage_71 : decode cX5_stage 71 = .ok (.goto 19, 3) := by decide +kernel
theorem dX5_stage_74 : decode cX5_stage 74 = .ok (.iload_n 2, 1) := by decide +kernel
theorem dX5_stage_75 : decode cX5_stage 75 = .ok (.iconst 4, 1) := by decide +kernel
theorem dX5_stage_76 : decode cX5_stage 76 = .ok (.if_icmp .ne 12, 3) := by decide +kernel
theorem dX5_stage_79 : decode cX5_stage 79 = .ok (.aload_n 0, 1) := by decide +kernel
theorem dX5_stage_80 : decode cX5_stage 80 = .ok (.getfield 48, 3) := by decide +kernel
theorem dX5_stage_83 : decode cX5_stage 83 = .ok (.iload_n 1, 1) := by decide +kernel
theorem dX5_stage_84 : decode cX5_stage 84 = .ok (.iaload, 1) := by decide +kernel
theorem dX5_stage_85 : decode cX5_stage 85 = .ok (.goto 5, 3) := by decide +kernel
theorem dX5_stage_88 : decode cX5_stage 88 = .ok (.bipush (-102), 2) := by decide +kernel
theorem dX5_stage_90 : decode cX5_stage 90 = .ok (.ireturn, 1) := by decide +kernel
theorem dX5_at_0 : decode cX5_at 0 = .ok (.iload_n 1, 1) := by decide +kernel
theorem dX5_at_1 : decode cX5_at 1 = .ok (.iconst 0, 1) := by decide +kernel
theorem dX5_at_2 : decode cX5_at 2 = .ok (.aload_n 0, 1) := by decide +kernel
theorem dX5_at_3 : decode cX5_at 3 = .ok (.getfield 64, 3) := by decide +kernel
theorem dX5_at_6 : decode cX5_at 6 = .ok (.invokestatic 60, 3) := by decide +kernel
theorem dX5_at_9 : decode cX5_at 9 = .ok (.ifCond .ne 6, 3) := by decide +kernel
theorem dX5_at_12 : decode cX5_at 12 = .ok (.bipush (-101), 2) := by decide +kernel
theorem dX5_at_14 : decode cX5_at 14 = .ok (.ireturn, 1) := by decide +kernel
theorem dX5_at_15 : decode cX5_at 15 = .ok (.aload_n 0, 1) := by decide +kernel
theorem dX5_at_16 : decode cX5_at 16 = .ok (.iload_n 1, 1) := by decide +kernel
theorem dX5_at_17 : decode cX5_at 17 = .ok (.invokevirtual 124, 3) := by decide +kernel
theorem dX5_at_20 : decode cX5_at 20 = .ok (.aload_n 0, 1) := by decide +kernel
theorem dX5_at_21 : decode cX5_at 21 = .ok (.iload_n 1, 1) := by decide +kernel
theorem dX5_at_22 : decode cX5_at 22 = .ok (.iload_n 2, 1) := by decide +kernel
theorem dX5_at_23 : decode cX5_at 23 = .ok (.iload_n 3, 1) := by decide +kernel
theorem dX5_at_24 : decode cX5_at 24 = .ok (.invokevirtual 95, 3) := by decide +kernel
theorem dX5_at_27 : decode cX5_at 27 = .ok (.ifCond .eq 36, 3) := by decide +kernel
theorem dX5_at_30 : decode cX5_at 30 = .ok (.iload 4, 2) := by decide +kernel
theorem dX5_at_32 : decode cX5_at 32 = .ok (.iconst 0, 1) := by decide +kernel
theorem dX5_at_33 : decode cX5_at 33 = .ok (.aload_n 0, 1) := by decide +kernel
theorem dX5_at_34 : decode cX5_at 34 = .ok (.getfield 42, 3) := by decide +kernel
theorem dX5_at_37 : decode cX5_at 37 = .ok (.iload_n 1, 1) := by decide +kernel
theorem dX5_at_38 : decode cX5_at 38 = .ok (.iaload, 1) := by decide +kernel
theorem dX5_at_39 : decode cX5_at 39 = .ok (.iconst 1, 1) := by decide +kernel
theorem dX5_at_40 : decode cX5_at 40 = .ok (.isub, 1) := by decide +kernel
theorem dX5_at_41 : decode cX5_at 41 = .ok (.invokestatic 60, 3) := by decide +kernel
theorem dX5_at_44 : decode cX5_at 44 = .ok (.ifCond .eq 19, 3) := by decide +kernel
theorem dX5_at_47 : decode cX5_at 47 = .ok (.aload_n 0, 1) := by decide +kernel
theorem dX5_at_48 : decode cX5_at 48 = .ok (.getfield 51, 3) := by decide +kernel
theorem dX5_at_51 : decode cX5_at 51 = .ok (.iload_n 1, 1) := by decide +kernel
theorem dX5_at_52 : decode cX5_at 52 = .ok (.iload_n 2, 1) := by decide +kernel
theorem dX5_at_53 : decode cX5_at 53 = .ok (.iload_n 3, 1) := by decide +kernel
theorem dX5_at_54 : decode cX5_at 54 = .ok (.iload 4, 2) := by decide +kernel
theorem dX5_at_56 : decode cX5_at 56 = .ok (.invokestatic 85, 3) := by decide +kernel
theorem dX5_at_59 : decode cX5_at 59 = .ok (.iaload, 1) := by decide +kernel
theorem dX5_at_60 : decode cX5_at 60 = .ok (.goto 5, 3) := by decide +kernel
theorem dX5_at_63 : decode cX5_at 63 = .ok (.bipush (-102), 2) := by decide +kernel
theorem dX5_at_65 : decode cX5_at 65 = .ok (.ireturn, 1) := by decide +kernel
theorem dX5_isPart_0 : decode cX5_isPart 0 = .ok (.iload_n 1, 1) := by decide +kernel
theorem dX5_isPart_1 : decode cX5_isPart 1 = .ok (.iconst 0, 1) := by decide +kernel
theorem dX5_isPart_2 : decode cX5_isPart 2 = .ok (.aload_n 0, 1) := by decide +kernel
theorem dX5_isPart_3 : decode cX5_isPart 3 = .ok (.getfield 36, 3) := by decide +kernel
theorem dX5_isPart_6 : decode cX5_isPart 6 = .ok (.aload_n 0, 1) := by decide +kernel
theorem dX5_isPart_7 : decode cX5_isPart 7 = .ok (.getfield 64, 3) := by decide +kernel
theorem dX5_isPart_10 : decode cX5_isPart 10 = .ok (.iaload, 1) := by decide +kernel
theorem dX5_isPart_11 : decode cX5_isPart 11 = .ok (.iconst 1, 1) := by decide +kernel
theorem dX5_isPart_12 : decode cX5_isPart 12 = .ok (.isub, 1) := by decide +kernel
theorem dX5_isPart_13 : decode cX5_isPart 13 = .ok (.invokestatic 60, 3) := by decide +kernel
theorem dX5_isPart_16 : decode cX5_isPart 16 = .ok (.ifCond .eq 65, 3) := by decide +kernel
theorem dX5_isPart_19 : decode cX5_isPart 19 = .ok (.iload_n 2, 1) := by decide +kernel
theorem dX5_isPart_20 : decode cX5_isPart 20 = .ok (.iconst 0, 1) := by decide +kernel
theorem dX5_isPart_21 : decode cX5_isPart 21 = .ok (.aload_n 0, 1) := by decide +kernel
theorem dX5_isPart_22 : decode cX5_isPart 22 = .ok (.getfield 39, 3) := by decide +kernel
theorem dX5_isPart_25 : decode cX5_isPart 25 = .ok (.aload_n 0, 1) := by decide +kernel
theorem dX5_isPart_26 : decode cX5_isPart 26 = .ok (.getfield 64, 3) := by decide +kernel
theorem dX5_isPart_29 : decode cX5_isPart 29 = .ok (.iaload, 1) := by decide +kernel
theorem dX5_isPart_30 : decode cX5_isPart 30 = .ok (.iconst 1, 1) := by decide +kernel
theorem dX5_isPart_31 : decode cX5_isPart 31 = .ok (.isub, 1) := by decide +kernel
theorem dX5_isPart_32 : decode cX5_isPart 32 = .ok (.invokestatic 60, 3) := by decide +kernel
theorem dX5_isPart_35 : decode cX5_isPart 35 = .ok (.ifCond .eq 46, 3) := by decide +kernel
theorem dX5_isPart_38 : decode cX5_isPart 38 = .ok (.iload_n 3, 1) := by decide +kernel
theorem dX5_isPart_39 : decode cX5_isPart 39 = .ok (.iconst 1, 1) := by decide +kernel
theorem dX5_isPart_40 : decode cX5_isPart 40 = .ok (.aload_n 0, 1) := by decide +kernel
theorem dX5_isPart_41 : decode cX5_isPart 41 = .ok (.getfield 36, 3) := by decide +kernel
theorem dX5_isPart_44 : decode cX5_isPart 44 = .ok (.aload_n 0, 1) := by decide +kernel
theorem dX5_isPart_45 : decode cX5_isPart 45 = .ok (.getfield 64, 3) := by decide +kernel
theorem dX5_isPart_48 : decode cX5_isPart 48 = .ok (.iaload, 1) := by decide +kernel
theorem dX5_isPart_49 : decode cX5_isPart 49 = .ok (.iload_n 1, 1) := by decide +kernel
theorem dX5_isPart_50 : decode cX5_isPart 50 = .ok (.isub, 1) := by decide +kernel
theorem dX5_isPart_51 : decode cX5_isPart 51 = .ok (.invokestatic 60, 3) := by decide +kernel
theorem dX5_isPart_54 : decode cX5_isPart 54 = .ok (.ifCond .eq 27, 3) := by decide +kernel
theorem dX5_isPart_57 : decode cX5_isPart 57 = .ok (.iload 4, 2) := by decide +kernel
theorem dX5_isPart_59 : decode cX5_isPart 59 = .ok (.iconst 1, 1) := by decide +kernel
theorem dX5_isPart_60 : decode cX5_isPart 60 = .ok (.aload_n 0, 1) := by decide +kernel
theorem dX5_isPart_61 : decode cX5_isPart 61 = .ok (.getfield 39, 3) := by decide +kernel
theorem dX5_isPart_64 : decode cX5_isPart 64 = .ok (.aload_n 0, 1) := by decide +kernel
theorem dX5_isPart_65 : decode cX5_isPart 65 = .ok (.getfield 64, 3) := by decide +kernel
theorem dX5_isPart_68 : decode cX5_isPart 68 = .ok (.iaload, 1) := by decide +kernel
theorem dX5_isPart_69 : decode cX5_isPart 69 = .ok (.iload_n 2, 1) := by decide +kernel
theorem dX5_isPart_70 : decode cX5_isPart 70 = .ok (.isub, 1) := by decide +kernel
theorem dX5_isPart_71 : decode cX5_isPart 71 = .ok (.invokestatic 60, 3) := by decide +kernel
theorem dX5_isPart_74 : decode cX5_isPart 74 = .ok (.ifCond .eq 7, 3) := by decide +kernel
theorem dX5_isPart_77 : decode cX5_isPart 77 = .ok (.iconst 1, 1) := by decide +kernel
theorem dX5_isPart_78 : decode cX5_isPart 78 = .ok (.goto 4, 3) := by decide +kernel
theorem dX5_isPart_81 : decode cX5_isPart 81 = .ok (.iconst 0, 1) := by decide +kernel
theorem dX5_isPart_82 : decode cX5_isPart 82 = .ok (.ireturn, 1) := by decide +kernel
theorem dX5_part_0 : decode cX5_part 0 = .ok (.aload_n 0, 1) := by decide +kernel
theorem dX5_part_1 : decode cX5_part 1 = .ok (.aload_n 0, 1) := by decide +kernel
theorem dX5_part_2 : decode cX5_part 2 = .ok (.getfield 64, 3) := by decide +kernel
theorem dX5_part_5 : decode cX5_part 5 = .ok (.invokevirtual 124, 3) := by decide +kernel
theorem dX5_part_8 : decode cX5_part 8 = .ok (.aload_n 0, 1) := by decide +kernel
theorem dX5_part_9 : decode cX5_part 9 = .ok (.iload_n 1, 1) := by decide +kernel
theorem dX5_part_10 : decode cX5_part 10 = .ok (.iload_n 2, 1) := by decide +kernel
theorem dX5_part_11 : decode cX5_part 11 = .ok (.iload_n 3, 1) := by decide +kernel
theorem dX5_part_12 : decode cX5_part 12 = .ok (.iload 4, 2) := by decide +kernel
theorem dX5_part_14 : decode cX5_part 14 = .ok (.invokevirtual 128, 3) := by decide +kernel
theorem dX5_part_17 : decode cX5_part 17 = .ok (.ifCond .eq 23, 3) := by decide +kernel
theorem dX5_part_20 : decode cX5_part 20 = .ok (.iload 5, 2) := by decide +kernel
theorem dX5_part_22 : decode cX5_part 22 = .ok (.iconst 0, 1) := by decide +kernel
theorem dX5_part_23 : decode cX5_part 23 = .ok (.aload_n 0, 1) := by decide +kernel
theorem dX5_part_24 : decode cX5_part 24 = .ok (.getfield 42, 3) := by decide +kernel
theorem dX5_part_27 : decode cX5_part 27 = .ok (.aload_n 0, 1) := by decide +kernel
theorem dX5_part_28 : decode cX5_part 28 = .ok (.getfield 64, 3) := by decide +kernel
theorem dX5_part_31 : decode cX5_part 31 = .ok (.iaload, 1) := by decide +kernel
theorem dX5_part_32 : decode cX5_part 32 = .ok (.iconst 1, 1) := by decide +kernel
theorem dX5_part_33 : decode cX5_part 33 = .ok (.isub, 1) := by decide +kernel
theorem dX5_part_34 : decode cX5_part 34 = .ok (.invokestatic 60, 3) := by decide +kernel
theorem dX5_part_37 : decode cX5_part 37 = .ok (.ifCond .ne 6, 3) := by decide +kernel
theorem dX5_part_40 : decode cX5_part 40 = .ok (.bipush (-102), 2) := by decide +kernel
theorem dX5_part_42 : decode cX5_part 42 = .ok (.ireturn, 1) := by decide +kernel
theorem dX5_part_43 : decode cX5_part 43 = .ok (.iconst 0, 1) := by decide +kernel
theorem dX5_part_44 : decode cX5_part 44 = .ok (.istore 6, 2) := by decide +kernel
theorem dX5_part_46 : decode cX5_part 46 = .ok (.iload_n 2, 1) := by decide +kernel
theorem dX5_part_47 : decode cX5_part 47 = .ok (.istore 7, 2) := by decide +kernel
theorem dX5_part_49 : decode cX5_part 49 = .ok (.iload 7, 2) := by decide +kernel
theorem dX5_part_51 : decode cX5_part 51 = .ok (.iload_n 2, 1) := by decide +kernel
theorem dX5_part_52 : decode cX5_part 52 = .ok (.iload 4, 2) := by decide +kernel
theorem dX5_part_54 : decode cX5_part 54 = .ok (.iadd, 1) := by decide +kernel
theorem dX5_part_55 : decode cX5_part 55 = .ok (.if_icmp .ge 49, 3) := by decide +kernel
theorem dX5_part_58 : decode cX5_part 58 = .ok (.iload_n 1, 1) := by decide +kernel
theorem dX5_part_59 : decode cX5_part 59 = .ok (.istore 8, 2) := by decide +kernel
theorem dX5_part_61 : decode cX5_part 61 = .ok (.iload 8, 2) := by decide +kernel
theorem dX5_part_63 : decode cX5_part 63 = .ok (.iload_n 1, 1) := by decide +kernel
theorem dX5_part_64 : decode cX5_part 64 = .ok (.iload_n 3, 1) := by decide +kernel
theorem dX5_part_65 : decode cX5_part 65 = .ok (.iadd, 1) := by decide +kernel
theorem dX5_part_66 : decode cX5_part 66 = .ok (.if_icmp .ge 32, 3) := by decide +kernel
theorem dX5_part_69 : decode cX5_part 69 = .ok (.iload 6, 2) := by decide +kernel
theorem dX5_part_71 : decode cX5_part 71 = .ok (.aload_n 0, 1) := by decide +kernel
theorem dX5_part_72 : decode cX5_part 72 = .ok (.getfield 51, 3) := by decide +kernel
theorem dX5_part_75 : decode cX5_part 75 = .ok (.aload_n 0, 1) := by decide +kernel
theorem dX5_part_76 : decode cX5_part 76 = .ok (.getfield 64, 3) := by decide +kernel
theorem dX5_part_79 : decode cX5_part 79 = .ok (.iload 8, 2) := by decide +kernel
theorem dX5_part_81 : decode cX5_part 81 = .ok (.iload 7, 2) := by decide +kernel
theorem dX5_part_83 : decode cX5_part 83 = .ok (.iload 5, 2) := by decide +kernel
theorem dX5_part_85 : decode cX5_part 85 = .ok (.invokestatic 85, 3) := by decide +kernel
theorem dX5_part_88 : decode cX5_part 88 = .ok (.iaload, 1) := by decide +kernel
theorem dX5_part_89 : decode cX5_part 89 = .ok (.iadd, 1) := by decide +kernel
theorem dX5_part_90 : decode cX5_part 90 = .ok (.istore 6, 2) := by decide +kernel
theorem dX5_part_92 : decode cX5_part 92 = .ok (.iinc 8 1, 3) := by decide +kernel
theorem dX5_part_95 : decode cX5_part 95 = .ok (.goto (-34), 3) := by decide +kernel
theorem dX5_part_98 : decode cX5_part 98 = .ok (.iinc 7 1, 3) := by decide +kernel
theorem dX5_part_101 : decode cX5_part 101 = .ok (.goto (-52), 3) := by decide +kernel
theorem dX5_part_104 : decode cX5_part 104 = .ok (.iload 6, 2) := by decide +kernel
theorem dX5_part_106 : decode cX5_part 106 = .ok (.ireturn, 1) := by decide +kernel
theorem dX5_touch_0 : decode cX5_touch 0 = .ok (.aload_n 0, 1) := by decide +kernel
theorem dX5_touch_1 : decode cX5_touch 1 = .ok (.iload_n 1, 1) := by decide +kernel
theorem dX5_touch_2 : decode cX5_touch 2 = .ok (.iload_n 2, 1) := by decide +kernel
theorem dX5_touch_3 : decode cX5_touch 3 = .ok (.iload_n 3, 1) := by decide +kernel
theorem dX5_touch_4 : decode cX5_touch 4 = .ok (.invokevirtual 95, 3) := by decide +kernel
theorem dX5_touch_7 : decode cX5_touch 7 = .ok (.ifCond .eq 17, 3) := by decide +kernel
theorem dX5_touch_10 : decode cX5_touch 10 = .ok (.aload_n 0, 1) := by decide +kernel
theorem dX5_touch_11 : decode cX5_touch 11 = .ok (.getfield 54, 3) := by decide +kernel
theorem dX5_touch_14 : decode cX5_touch 14 = .ok (.iload_n 1, 1) := by decide +kernel
theorem dX5_touch_15 : decode cX5_touch 15 = .ok (.iload_n 2, 1) := by decide +kernel
theorem dX5_touch_16 : decode cX5_touch 16 = .ok (.iload_n 3, 1) := by decide +kernel
theorem dX5_touch_17 : decode cX5_touch 17 = .ok (.iload 4, 2) := by decide +kernel
theorem dX5_touch_19 : decode cX5_touch 19 = .ok (.invokestatic 85, 3) := by decide +kernel
theorem dX5_touch_22 : decode cX5_touch 22 = .ok (.iconst 1, 1) := by decide +kernel
theorem dX5_touch_23 : decode cX5_touch 23 = .ok (.bastore, 1) := by decide +kernel
theorem dX5_touch_24 : decode cX5_touch 24 = .ok (.return_, 1) := by decide +kernel
theorem dX5_countFor_0 : decode cX5_countFor 0 = .ok (.aload_n 0, 1) := by decide +kernel
theorem dX5_countFor_1 : decode cX5_countFor 1 = .ok (.getfield 24, 3) := by decide +kernel
theorem dX5_countFor_4 : decode cX5_countFor 4 = .ok (.iload_n 1, 1) := by decide +kernel
theorem dX5_countFor_5 : decode cX5_countFor 5 = .ok (.iaload, 1) := by decide +kernel
theorem dX5_countFor_6 : decode cX5_countFor 6 = .ok (.tableswitch 286 2 7 #[38, 38, 84, 218, 286, 245], 38) := by decide +kernel
theorem dX5_countFor_44 : decode cX5_countFor 44 = .ok (.iconst 0, 1) := by decide +kernel
theorem dX5_countFor_45 : decode cX5_countFor 45 = .ok (.istore 5, 2) := by decide +kernel
theorem dX5_countFor_47 : decode cX5_countFor 47 = .ok (.iload 5, 2) := by decide +kernel
theorem dX5_countFor_49 : decode cX5_countFor 49 = .ok (.iconst 4, 1) := by decide +kernel
theorem dX5_countFor_50 : decode cX5_countFor 50 = .ok (.if_icmp .ge 29, 3) := by decide +kernel
theorem dX5_countFor_53 : decode cX5_countFor 53 = .ok (.aload_n 0, 1) := by decide +kernel
theorem dX5_countFor_54 : decode cX5_countFor 54 = .ok (.iload_n 1, 1) := by decide +kernel
theorem dX5_countFor_55 : decode cX5_countFor 55 = .ok (.iload_n 2, 1) := by decide +kernel
theorem dX5_countFor_56 : decode cX5_countFor 56 = .ok (.iload 5, 2) := by decide +kernel
theorem dX5_countFor_58 : decode cX5_countFor 58 = .ok (.invokestatic 89, 3) := by decide +kernel
theorem dX5_countFor_61 : decode cX5_countFor 61 = .ok (.iadd, 1) := by decide +kernel
theorem dX5_countFor_62 : decode cX5_countFor 62 = .ok (.iload_n 3, 1) := by decide +kernel
theorem dX5_countFor_63 : decode cX5_countFor 63 = .ok (.iload 5, 2) := by decide +kernel
theorem dX5_countFor_65 : decode cX5_countFor 65 = .ok (.invokestatic 92, 3) := by decide +kernel
theorem dX5_countFor_68 : decode cX5_countFor 68 = .ok (.iadd, 1) := by decide +kernel
theorem dX5_countFor_69 : decode cX5_countFor 69 = .ok (.iconst 0, 1) := by decide +kernel
theorem dX5_countFor_70 : decode cX5_countFor 70 = .ok (.invokevirtual 132, 3) := by decide +kernel
theorem dX5_countFor_73 : decode cX5_countFor 73 = .ok (.iinc 5 1, 3) := by decide +kernel
theorem dX5_countFor_76 : decode cX5_countFor 76 = .ok (.goto (-29), 3) := by decide +kernel
theorem dX5_countFor_79 : decode cX5_countFor 79 = .ok (.aload_n 0, 1) := by decide +kernel
theorem dX5_countFor_80 : decode cX5_countFor 80 = .ok (.iload_n 1, 1) := by decide +kernel
theorem dX5_countFor_81 : decode cX5_countFor 81 = .ok (.iload_n 2, 1) := by decide +kernel
theorem dX5_countFor_82 : decode cX5_countFor 82 = .ok (.iload_n 3, 1) := by decide +kernel
theorem dX5_countFor_83 : decode cX5_countFor 83 = .ok (.iconst 0, 1) := by decide +kernel
theorem dX5_countFor_84 : decode cX5_countFor 84 = .ok (.invokevirtual 132, 3) := by decide +kernel
theorem dX5_countFor_87 : decode cX5_countFor 87 = .ok (.goto 214, 3) := by decide +kernel
theorem dX5_countFor_90 : decode cX5_countFor 90 = .ok (.iload_n 2, 1) := by decide +kernel
theorem dX5_countFor_91 : decode cX5_countFor 91 = .ok (.iload_n 3, 1) := by decide +kernel
theorem dX5_countFor_92 : decode cX5_countFor 92 = .ok (.invokestatic 98, 3) := by decide +kernel
theorem dX5_countFor_95 : decode cX5_countFor 95 = .ok (.iload 4, 2) := by decide +kernel
theorem dX5_countFor_97 : decode cX5_countFor 97 = .ok (.if_icmp .ne 7, 3) := by decide +kernel
theorem dX5_countFor_100 : decode cX5_countFor 100 = .ok (.iconst 1, 1) := by decide +kernel
theorem dX5_countFor_101 : decode cX5_countFor 101 = .ok (.goto 4, 3) := by decide +kernel
theorem dX5_countFor_104 : decode cX5_countFor 104 = .ok (.iconst 0, 1) := by decide +kernel
theorem dX5_countFor_105 : decode cX5_countFor 105 = .ok (.istore 5, 2) := by decide +kernel
theorem dX5_countFor_107 : decode cX5_countFor 107 = .ok (.iload_n 3, 1) := by decide +kernel
theorem dX5_countFor_108 : decode cX5_countFor 108 = .ok (.iconst 1, 1) := by decide +kernel
theorem dX5_countFor_109 : decode cX5_countFor 109 = .ok (.isub, 1) := by decide +kernel
theorem dX5_countFor_110 : decode cX5_countFor 110 = .ok (.istore 6, 2) := by decide +kernel
theorem dX5_countFor_112 : decode cX5_countFor 112 = .ok (.iload 6, 2) := by decide +kernel
theorem dX5_countFor_114 : decode cX5_countFor 114 = .ok (.iload_n 3, 1) := by decide +kernel
theorem dX5_countFor_115 : decode cX5_countFor 115 = .ok (.iconst 1, 1) := by decide +kernel
theorem dX5_countFor_116 : decode cX5_countFor 116 = .ok (.iadd, 1) := by decide +kernel
theorem dX5_countFor_117 : decode cX5_countFor 117 = .ok (.if_icmp .gt 104, 3) := by decide +kernel
theorem dX5_countFor_120 : decode cX5_countFor 120 = .ok (.iload_n 2, 1) := by decide +kernel
theorem dX5_countFor_121 : decode cX5_countFor 121 = .ok (.iconst 1, 1) := by decide +kernel
theorem dX5_countFor_122 : decode cX5_countFor 122 = .ok (.isub, 1) := by decide +kernel
theorem dX5_countFor_123 : decode cX5_countFor 123 = .ok (.istore 7, 2) := by decide +kernel
theorem dX5_countFor_125 : decode cX5_countFor 125 = .ok (.iload 7, 2) := by decide +kernel
theorem dX5_countFor_127 : decode cX5_countFor 127 = .ok (.iload_n 2, 1) := by decide +kernel
theorem dX5_countFor_128 : decode cX5_countFor 128 = .ok (.iconst 1, 1) := by decide +kernel
theorem dX5_countFor_129 : decode cX5_countFor 129 = .ok (.iadd, 1) := by decide +kernel
theorem dX5_countFor_130 : decode cX5_countFor 130 = .ok (.if_icmp .gt 85, 3) := by decide +kernel
theorem dX5_countFor_133 : decode cX5_countFor 133 = .ok (.iload 7, 2) := by decide +kernel
theorem dX5_countFor_135 : decode cX5_countFor 135 = .ok (.iconst 0, 1) := by decide +kernel
theorem dX5_countFor_136 : decode cX5_countFor 136 = .ok (.bipush 16, 2) := by decide +kernel
theorem dX5_countFor_138 : decode cX5_countFor 138 = .ok (.invokestatic 60, 3) := by decide +kernel
theorem dX5_countFor_141 : decode cX5_countFor 141 = .ok (.ifCond .eq 68, 3) := by decide +kernel
theorem dX5_countFor_144 : decode cX5_countFor 144 = .ok (.iload 6, 2) := by decide +kernel
theorem dX5_countFor_146 : decode cX5_countFor 146 = .ok (.iconst 0, 1) := by decide +kernel
theorem dX5_countFor_147 : decode cX5_countFor 147 = .ok (.bipush 16, 2) := by decide +kernel
theorem dX5_countFor_149 : decode cX5_countFor 149 = .ok (.invokestatic 60, 3) := by decide +kernel
theorem dX5_countFor_152 : decode cX5_countFor 152 = .ok (.ifCond .eq 57, 3) := by decide +kernel
theorem dX5_countFor_155 : decode cX5_countFor 155 = .ok (.iload 7, 2) := by decide +kernel
theorem dX5_countFor_157 : decode cX5_countFor 157 = .ok (.iload 6, 2) := by decide +kernel
theorem dX5_countFor_159 : decode cX5_countFor 159 = .ok (.invokestatic 98, 3) := by decide +kernel
theorem dX5_countFor_162 : decode cX5_countFor 162 = .ok (.iload 4, 2) := by decide +kernel
theorem dX5_countFor_164 : decode cX5_countFor 164 = .ok (.if_icmp .ne 45, 3) := by decide +kernel
theorem dX5_countFor_167 : decode cX5_countFor 167 = .ok (.iload 5, 2) := by decide +kernel
theorem dX5_countFor_169 : decode cX5_countFor 169 = .ok (.ifCond .eq 18, 3) := by decide +kernel
theorem dX5_countFor_172 : decode cX5_countFor 172 = .ok (.iload 7, 2) := by decide +kernel
theorem dX5_countFor_174 : decode cX5_countFor 174 = .ok (.iload_n 2, 1) := by decide +kernel
theorem dX5_countFor_175 : decode cX5_countFor 175 = .ok (.if_icmp .ne 34, 3) := by decide +kernel
theorem dX5_countFor_178 : decode cX5_countFor 178 = .ok (.iload 6, 2) := by decide +kernel
theorem dX5_countFor_180 : decode cX5_countFor 180 = .ok (.iload_n 3, 1) := by decide +kernel
theorem dX5_countFor_181 : decode cX5_countFor 181 = .ok (.if_icmp .ne 28, 3) := by decide +kernel
theorem dX5_countFor_184 : decode cX5_countFor 184 = .ok (.goto 15, 3) := by decide +kernel
theorem dX5_countFor_187 : decode cX5_countFor 187 = .ok (.iload 7, 2) := by decide +kernel
theorem dX5_countFor_189 : decode cX5_countFor 189 = .ok (.iload_n 2, 1) := by decide +kernel
theorem dX5_countFor_190 : decode cX5_countFor 190 = .ok (.if_icmp .ne 9, 3) := by decide +kernel
theorem dX5_countFor_193 : decode cX5_countFor 193 = .ok (.iload 6, 2) := by decide +kernel
theorem dX5_countFor_195 : decode cX5_countFor 195 = .ok (.iload_n 3, 1) := by decide +kernel
theorem dX5_countFor_196 : decode cX5_countFor 196 = .ok (.if_icmp .eq 13, 3) := by decide +kernel
theorem dX5_countFor_199 : decode cX5_countFor 199 = .ok (.aload_n 0, 1) := by decide +kernel
theorem dX5_countFor_200 : decode cX5_countFor 200 = .ok (.iload_n 1, 1) := by decide +kernel
theorem dX5_countFor_201 : decode cX5_countFor 201 = .ok (.iload 7, 2) := by decide +kernel
theorem dX5_countFor_203 : decode cX5_countFor 203 = .ok (.iload 6, 2) := by decide +kernel
theorem dX5_countFor_205 : decode cX5_countFor 205 = .ok (.iconst 0, 1) := by decide +kernel
theorem dX5_countFor_206 : decode cX5_countFor 206 = .ok (.invokevirtual 132, 3) := by decide +kernel
theorem dX5_countFor_209 : decode cX5_countFor 209 = .ok (.iinc 7 1, 3) := by decide +kernel
theorem dX5_countFor_212 : decode cX5_countFor 212 = .ok (.goto (-87), 3) := by decide +kernel
theorem dX5_countFor_215 : decode cX5_countFor 215 = .ok (.iinc 6 1, 3) := by decide +kernel
theorem dX5_countFor_218 : decode cX5_countFor 218 = .ok (.goto (-106), 3) := by decide +kernel
theorem dX5_countFor_221 : decode cX5_countFor 221 = .ok (.goto 80, 3) := by decide +kernel
theorem dX5_countFor_224 : decode cX5_countFor 224 = .ok (.iconst 0, 1) := by decide +kernel
theorem dX5_countFor_225 : decode cX5_countFor 225 = .ok (.istore 6, 2) := by decide +kernel
theorem dX5_countFor_227 : decode cX5_countFor 227 = .ok (.iload 6, 2) := by decide +kernel
theorem dX5_countFor_229 : decode cX5_countFor 229 = .ok (.iconst 3, 1) := by decide +kernel
theorem dX5_countFor_230 : decode cX5_countFor 230 = .ok (.if_icmp .ge 18, 3) := by decide +kernel
theorem dX5_countFor_233 : decode cX5_countFor 233 = .ok (.aload_n 0, 1) := by decide +kernel
theorem dX5_countFor_234 : decode cX5_countFor 234 = .ok (.iload_n 1, 1) := by decide +kernel
theorem dX5_countFor_235 : decode cX5_countFor 235 = .ok (.iload_n 2, 1) := by decide +kernel
theorem dX5_countFor_236 : decode cX5_countFor 236 = .ok (.iload_n 3, 1) := by decide +kernel
theorem dX5_countFor_237 : decode cX5_countFor 237 = .ok (.iload 6, 2) := by decide +kernel
theorem dX5_countFor_239 : decode cX5_countFor 239 = .ok (.invokevirtual 132, 3) := by decide +kernel
theorem dX5_countFor_242 : decode cX5_countFor 242 = .ok (.iinc 6 1, 3) := by decide +kernel
theorem dX5_countFor_245 : decode cX5_countFor 245 = .ok (.goto (-18), 3) := by decide +kernel
theorem dX5_countFor_248 : decode cX5_countFor 248 = .ok (.goto 53, 3) := by decide +kernel
theorem dX5_countFor_251 : decode cX5_countFor 251 = .ok (.iconst 0, 1) := by decide +kernel
theorem dX5_countFor_252 : decode cX5_countFor 252 = .ok (.istore 6, 2) := by decide +kernel
theorem dX5_countFor_254 : decode cX5_countFor 254 = .ok (.iload 6, 2) := by decide +kernel
theorem dX5_countFor_256 : decode cX5_countFor 256 = .ok (.iconst 4, 1) := by decide +kernel
theorem dX5_countFor_257 : decode cX5_countFor 257 = .ok (.if_icmp .ge 32, 3) := by decide +kernel
theorem dX5_countFor_260 : decode cX5_countFor 260 = .ok (.aload_n 0, 1) := by decide +kernel
theorem dX5_countFor_261 : decode cX5_countFor 261 = .ok (.iload_n 1, 1) := by decide +kernel
theorem dX5_countFor_262 : decode cX5_countFor 262 = .ok (.iconst 2, 1) := by decide +kernel
theorem dX5_countFor_263 : decode cX5_countFor 263 = .ok (.iload_n 2, 1) := by decide +kernel
theorem dX5_countFor_264 : decode cX5_countFor 264 = .ok (.imul, 1) := by decide +kernel
theorem dX5_countFor_265 : decode cX5_countFor 265 = .ok (.iload 6, 2) := by decide +kernel
theorem dX5_countFor_267 : decode cX5_countFor 267 = .ok (.iconst 2, 1) := by decide +kernel
theorem dX5_countFor_268 : decode cX5_countFor 268 = .ok (.irem, 1) := by decide +kernel
theorem dX5_countFor_269 : decode cX5_countFor 269 = .ok (.iadd, 1) := by decide +kernel
theorem dX5_countFor_270 : decode cX5_countFor 270 = .ok (.iconst 2, 1) := by decide +kernel
theorem dX5_countFor_271 : decode cX5_countFor 271 = .ok (.iload_n 3, 1) := by decide +kernel
theorem dX5_countFor_272 : decode cX5_countFor 272 = .ok (.imul, 1) := by decide +kernel
theorem dX5_countFor_273 : decode cX5_countFor 273 = .ok (.iload 6, 2) := by decide +kernel
theorem dX5_countFor_275 : decode cX5_countFor 275 = .ok (.iconst 2, 1) := by decide +kernel
theorem dX5_countFor_276 : decode cX5_countFor 276 = .ok (.idiv, 1) := by decide +kernel
theorem dX5_countFor_277 : decode cX5_countFor 277 = .ok (.iadd, 1) := by decide +kernel
theorem dX5_countFor_278 : decode cX5_countFor 278 = .ok (.iload 4, 2) := by decide +kernel
theorem dX5_countFor_280 : decode cX5_countFor 280 = .ok (.invokevirtual 132, 3) := by decide +kernel
theorem dX5_countFor_283 : decode cX5_countFor 283 = .ok (.iinc 6 1, 3) := by decide +kernel
theorem dX5_countFor_286 : decode cX5_countFor 286 = .ok (.goto (-32), 3) := by decide +kernel
theorem dX5_countFor_289 : decode cX5_countFor 289 = .ok (.goto 12, 3) := by decide +kernel
theorem dX5_countFor_292 : decode cX5_countFor 292 = .ok (.aload_n 0, 1) := by decide +kernel
theorem dX5_countFor_293 : decode cX5_countFor 293 = .ok (.iload_n 1, 1) := by decide +kernel
theorem dX5_countFor_294 : decode cX5_countFor 294 = .ok (.iload_n 2, 1) := by decide +kernel
theorem dX5_countFor_295 : decode cX5_countFor 295 = .ok (.iload_n 3, 1) := by decide +kernel
theorem dX5_countFor_296 : decode cX5_countFor 296 = .ok (.iload 4, 2) := by decide +kernel
theorem dX5_countFor_298 : decode cX5_countFor 298 = .ok (.invokevirtual 132, 3) := by decide +kernel
theorem dX5_countFor_301 : decode cX5_countFor 301 = .ok (.return_, 1) := by decide +kernel
theorem dX5_forget_0 : decode cX5_forget 0 = .ok (.aload_n 0, 1) := by decide +kernel
theorem dX5_forget_1 : decode cX5_forget 1 = .ok (.invokevirtual 71, 3) := by decide +kernel
theorem dX5_forget_4 : decode cX5_forget 4 = .ok (.iconst 0, 1) := by decide +kernel
theorem dX5_forget_5 : decode cX5_forget 5 = .ok (.istore_n 1, 1) := by decide +kernel
theorem dX5_forget_6 : decode cX5_forget 6 = .ok (.iload_n 1, 1) := by decide +kernel
theorem dX5_forget_7 : decode cX5_forget 7 = .ok (.sipush 8448, 3) := by decide +kernel
theorem dX5_forget_10 : decode cX5_forget 10 = .ok (.if_icmp .ge 16, 3) := by decide +kernel
theorem dX5_forget_13 : decode cX5_forget 13 = .ok (.aload_n 0, 1) := by decide +kernel
theorem dX5_forget_14 : decode cX5_forget 14 = .ok (.getfield 54, 3) := by decide +kernel
theorem dX5_forget_17 : decode cX5_forget 17 = .ok (.iload_n 1, 1) := by decide +kernel
theorem dX5_forget_18 : decode cX5_forget 18 = .ok (.iconst 0, 1) := by decide +kernel
theorem dX5_forget_19 : decode cX5_forget 19 = .ok (.bastore, 1) := by decide +kernel
theorem dX5_forget_20 : decode cX5_forget 20 = .ok (.iinc 1 1, 3) := by decide +kernel
theorem dX5_forget_23 : decode cX5_forget 23 = .ok (.goto (-17), 3) := by decide +kernel
theorem dX5_forget_26 : decode cX5_forget 26 = .ok (.return_, 1) := by decide +kernel
theorem dX5_trace_0 : decode cX5_trace 0 = .ok (.aload_n 0, 1) := by decide +kernel
theorem dX5_trace_1 : decode cX5_trace 1 = .ok (.getfield 64, 3) := by decide +kernel
theorem dX5_trace_4 : decode cX5_trace 4 = .ok (.iconst 1, 1) := by decide +kernel
theorem dX5_trace_5 : decode cX5_trace 5 = .ok (.isub, 1) := by decide +kernel
theorem dX5_trace_6 : decode cX5_trace 6 = .ok (.istore_n 1, 1) := by decide +kernel
theorem dX5_trace_7 : decode cX5_trace 7 = .ok (.iload_n 1, 1) := by decide +kernel
theorem dX5_trace_8 : decode cX5_trace 8 = .ok (.ifCond .lt 98, 3) := by decide +kernel
theorem dX5_trace_11 : decode cX5_trace 11 = .ok (.iconst 0, 1) := by decide +kernel
theorem dX5_trace_12 : decode cX5_trace 12 = .ok (.istore_n 2, 1) := by decide +kernel
theorem dX5_trace_13 : decode cX5_trace 13 = .ok (.iload_n 2, 1) := by decide +kernel
theorem dX5_trace_14 : decode cX5_trace 14 = .ok (.aload_n 0, 1) := by decide +kernel
theorem dX5_trace_15 : decode cX5_trace 15 = .ok (.getfield 39, 3) := by decide +kernel
theorem dX5_trace_18 : decode cX5_trace 18 = .ok (.iload_n 1, 1) := by decide +kernel
theorem dX5_trace_19 : decode cX5_trace 19 = .ok (.iconst 1, 1) := by decide +kernel
theorem dX5_trace_20 : decode cX5_trace 20 = .ok (.iadd, 1) := by decide +kernel
theorem dX5_trace_21 : decode cX5_trace 21 = .ok (.iaload, 1) := by decide +kernel
theorem dX5_trace_22 : decode cX5_trace 22 = .ok (.if_icmp .ge 78, 3) := by decide +kernel
theorem dX5_trace_25 : decode cX5_trace 25 = .ok (.iconst 0, 1) := by decide +kernel
theorem dX5_trace_26 : decode cX5_trace 26 = .ok (.istore_n 3, 1) := by decide +kernel
theorem dX5_trace_27 : decode cX5_trace 27 = .ok (.iload_n 3, 1) := by decide +kernel
theorem dX5_trace_28 : decode cX5_trace 28 = .ok (.aload_n 0, 1) := by decide +kernel
theorem dX5_trace_29 : decode cX5_trace 29 = .ok (.getfield 36, 3) := by decide +kernel
theorem dX5_trace_32 : decode cX5_trace 32 = .ok (.iload_n 1, 1) := by decide +kernel
theorem dX5_trace_33 : decode cX5_trace 33 = .ok (.iconst 1, 1) := by decide +kernel
theorem dX5_trace_34 : decode cX5_trace 34 = .ok (.iadd, 1) := by decide +kernel
theorem dX5_trace_35 : decode cX5_trace 35 = .ok (.iaload, 1) := by decide +kernel
theorem dX5_trace_36 : decode cX5_trace 36 = .ok (.if_icmp .ge 58, 3) := by decide +kernel
theorem dX5_trace_39 : decode cX5_trace 39 = .ok (.iconst 0, 1) := by decide +kernel
theorem dX5_trace_40 : decode cX5_trace 40 = .ok (.istore 4, 2) := by decide +kernel
theorem dX5_trace_42 : decode cX5_trace 42 = .ok (.iload 4, 2) := by decide +kernel
theorem dX5_trace_44 : decode cX5_trace 44 = .ok (.aload_n 0, 1) := by decide +kernel
theorem dX5_trace_45 : decode cX5_trace 45 = .ok (.getfield 42, 3) := by decide +kernel
theorem dX5_trace_48 : decode cX5_trace 48 = .ok (.iload_n 1, 1) := by decide +kernel
theorem dX5_trace_49 : decode cX5_trace 49 = .ok (.iconst 1, 1) := by decide +kernel
theorem dX5_trace_50 : decode cX5_trace 50 = .ok (.iadd, 1) := by decide +kernel
theorem dX5_trace_51 : decode cX5_trace 51 = .ok (.iaload, 1) := by decide +kernel
theorem dX5_trace_52 : decode cX5_trace 52 = .ok (.if_icmp .ge 36, 3) := by decide +kernel
theorem dX5_trace_55 : decode cX5_trace 55 = .ok (.aload_n 0, 1) := by decide +kernel
theorem dX5_trace_56 : decode cX5_trace 56 = .ok (.getfield 54, 3) := by decide +kernel
theorem dX5_trace_59 : decode cX5_trace 59 = .ok (.iload_n 1, 1) := by decide +kernel
theorem dX5_trace_60 : decode cX5_trace 60 = .ok (.iconst 1, 1) := by decide +kernel
theorem dX5_trace_61 : decode cX5_trace 61 = .ok (.iadd, 1) := by decide +kernel
theorem dX5_trace_62 : decode cX5_trace 62 = .ok (.iload_n 3, 1) := by decide +kernel
theorem dX5_trace_63 : decode cX5_trace 63 = .ok (.iload_n 2, 1) := by decide +kernel
theorem dX5_trace_64 : decode cX5_trace 64 = .ok (.iload 4, 2) := by decide +kernel
theorem dX5_trace_66 : decode cX5_trace 66 = .ok (.invokestatic 85, 3) := by decide +kernel
theorem dX5_trace_69 : decode cX5_trace 69 = .ok (.baload, 1) := by decide +kernel
theorem dX5_trace_70 : decode cX5_trace 70 = .ok (.ifCond .eq 12, 3) := by decide +kernel
theorem dX5_trace_73 : decode cX5_trace 73 = .ok (.aload_n 0, 1) := by decide +kernel
theorem dX5_trace_74 : decode cX5_trace 74 = .ok (.iload_n 1, 1) := by decide +kernel
theorem dX5_trace_75 : decode cX5_trace 75 = .ok (.iload_n 3, 1) := by decide +kernel
theorem dX5_trace_76 : decode cX5_trace 76 = .ok (.iload_n 2, 1) := by decide +kernel
theorem dX5_trace_77 : decode cX5_trace 77 = .ok (.iload 4, 2) := by decide +kernel
theorem dX5_trace_79 : decode cX5_trace 79 = .ok (.invokevirtual 136, 3) := by decide +kernel
theorem dX5_trace_82 : decode cX5_trace 82 = .ok (.iinc 4 1, 3) := by decide +kernel
theorem dX5_trace_85 : decode cX5_trace 85 = .ok (.goto (-43), 3) := by decide +kernel
theorem dX5_trace_88 : decode cX5_trace 88 = .ok (.iinc 3 1, 3) := by decide +kernel
theorem dX5_trace_91 : decode cX5_trace 91 = .ok (.goto (-64), 3) := by decide +kernel
theorem dX5_trace_94 : decode cX5_trace 94 = .ok (.iinc 2 1, 3) := by decide +kernel
theorem dX5_trace_97 : decode cX5_trace 97 = .ok (.goto (-84), 3) := by decide +kernel
theorem dX5_trace_100 : decode cX5_trace 100 = .ok (.iinc 1 (-1), 3) := by decide +kernel
theorem dX5_trace_103 : decode cX5_trace 103 = .ok (.goto (-96), 3) := by decide +kernel
theorem dX5_trace_106 : decode cX5_trace 106 = .ok (.return_, 1) := by decide +kernel
theorem dX5_needs_0 : decode cX5_needs 0 = .ok (.aload_n 0, 1) := by decide +kernel
theorem dX5_needs_1 : decode cX5_needs 1 = .ok (.invokevirtual 139, 3) := by decide +kernel
theorem dX5_needs_4 : decode cX5_needs 4 = .ok (.aload_n 0, 1) := by decide +kernel
theorem dX5_needs_5 : decode cX5_needs 5 = .ok (.iload_n 1, 1) := by decide +kernel
theorem dX5_needs_6 : decode cX5_needs 6 = .ok (.iload_n 2, 1) := by decide +kernel
theorem dX5_needs_7 : decode cX5_needs 7 = .ok (.iload_n 3, 1) := by decide +kernel
theorem dX5_needs_8 : decode cX5_needs 8 = .ok (.iload 4, 2) := by decide +kernel
theorem dX5_needs_10 : decode cX5_needs 10 = .ok (.invokevirtual 128, 3) := by decide +kernel
theorem dX5_needs_13 : decode cX5_needs 13 = .ok (.ifCond .ne 6, 3) := by decide +kernel
theorem dX5_needs_16 : decode cX5_needs 16 = .ok (.bipush (-102), 2) := by decide +kernel
theorem dX5_needs_18 : decode cX5_needs 18 = .ok (.ireturn, 1) := by decide +kernel
theorem dX5_needs_19 : decode cX5_needs 19 = .ok (.iload_n 2, 1) := by decide +kernel
theorem dX5_needs_20 : decode cX5_needs 20 = .ok (.istore 5, 2) := by decide +kernel
theorem dX5_needs_22 : decode cX5_needs 22 = .ok (.iload 5, 2) := by decide +kernel
theorem dX5_needs_24 : decode cX5_needs 24 = .ok (.iload_n 2, 1) := by decide +kernel
theorem dX5_needs_25 : decode cX5_needs 25 = .ok (.iload 4, 2) := by decide +kernel
theorem dX5_needs_27 : decode cX5_needs 27 = .ok (.iadd, 1) := by decide +kernel
theorem dX5_needs_28 : decode cX5_needs 28 = .ok (.if_icmp .ge 68, 3) := by decide +kernel
theorem dX5_needs_31 : decode cX5_needs 31 = .ok (.iload_n 1, 1) := by decide +kernel
theorem dX5_needs_32 : decode cX5_needs 32 = .ok (.istore 6, 2) := by decide +kernel
theorem dX5_needs_34 : decode cX5_needs 34 = .ok (.iload 6, 2) := by decide +kernel
theorem dX5_needs_36 : decode cX5_needs 36 = .ok (.iload_n 1, 1) := by decide +kernel
theorem dX5_needs_37 : decode cX5_needs 37 = .ok (.iload_n 3, 1) := by decide +kernel
theorem dX5_needs_38 : decode cX5_needs 38 = .ok (.iadd, 1) := by decide +kernel
theorem dX5_needs_39 : decode cX5_needs 39 = .ok (.if_icmp .ge 51, 3) := by decide +kernel
theorem dX5_needs_42 : decode cX5_needs 42 = .ok (.iconst 0, 1) := by decide +kernel
theorem dX5_needs_43 : decode cX5_needs 43 = .ok (.istore 7, 2) := by decide +kernel
theorem dX5_needs_45 : decode cX5_needs 45 = .ok (.iload 7, 2) := by decide +kernel
theorem dX5_needs_47 : decode cX5_needs 47 = .ok (.aload_n 0, 1) := by decide +kernel
theorem dX5_needs_48 : decode cX5_needs 48 = .ok (.getfield 42, 3) := by decide +kernel
theorem dX5_needs_51 : decode cX5_needs 51 = .ok (.aload_n 0, 1) := by decide +kernel
theorem dX5_needs_52 : decode cX5_needs 52 = .ok (.getfield 64, 3) := by decide +kernel
theorem dX5_needs_55 : decode cX5_needs 55 = .ok (.iaload, 1) := by decide +kernel
theorem dX5_needs_56 : decode cX5_needs 56 = .ok (.if_icmp .ge 28, 3) := by decide +kernel
theorem dX5_needs_59 : decode cX5_needs 59 = .ok (.aload_n 0, 1) := by decide +kernel
theorem dX5_needs_60 : decode cX5_needs 60 = .ok (.getfield 54, 3) := by decide +kernel
theorem dX5_needs_63 : decode cX5_needs 63 = .ok (.aload_n 0, 1) := by decide +kernel
theorem dX5_needs_64 : decode cX5_needs 64 = .ok (.getfield 64, 3) := by decide +kernel
theorem dX5_needs_67 : decode cX5_needs 67 = .ok (.iload 6, 2) := by decide +kernel
theorem dX5_needs_69 : decode cX5_needs 69 = .ok (.iload 5, 2) := by decide +kernel
theorem dX5_needs_71 : decode cX5_needs 71 = .ok (.iload 7, 2) := by decide +kernel
theorem dX5_needs_73 : decode cX5_needs 73 = .ok (.invokestatic 85, 3) := by decide +kernel
theorem dX5_needs_76 : decode cX5_needs 76 = .ok (.iconst 1, 1) := by decide +kernel
theorem dX5_needs_77 : decode cX5_needs 77 = .ok (.bastore, 1) := by decide +kernel
theorem dX5_needs_78 : decode cX5_needs 78 = .ok (.iinc 7 1, 3) := by decide +kernel
theorem dX5_needs_81 : decode cX5_needs 81 = .ok (.goto (-36), 3) := by decide +kernel
theorem dX5_needs_84 : decode cX5_needs 84 = .ok (.iinc 6 1, 3) := by decide +kernel
theorem dX5_needs_87 : decode cX5_needs 87 = .ok (.goto (-53), 3) := by decide +kernel
theorem dX5_needs_90 : decode cX5_needs 90 = .ok (.iinc 5 1, 3) := by decide +kernel
theorem dX5_needs_93 : decode cX5_needs 93 = .ok (.goto (-71), 3) := by decide +kernel
theorem dX5_needs_96 : decode cX5_needs 96 = .ok (.aload_n 0, 1) := by decide +kernel
theorem dX5_needs_97 : decode cX5_needs 97 = .ok (.invokevirtual 142, 3) := by decide +kernel
theorem dX5_needs_100 : decode cX5_needs 100 = .ok (.iconst 0, 1) := by decide +kernel
theorem dX5_needs_101 : decode cX5_needs 101 = .ok (.istore 5, 2) := by decide +kernel
theorem dX5_needs_103 : decode cX5_needs 103 = .ok (.iconst 0, 1) := by decide +kernel
theorem dX5_needs_104 : decode cX5_needs 104 = .ok (.istore 6, 2) := by decide +kernel
theorem dX5_needs_106 : decode cX5_needs 106 = .ok (.iload 6, 2) := by decide +kernel
theorem dX5_needs_108 : decode cX5_needs 108 = .ok (.aload_n 0, 1) := by decide +kernel
theorem dX5_needs_109 : decode cX5_needs 109 = .ok (.getfield 13, 3) := by decide +kernel
theorem dX5_needs_112 : decode cX5_needs 112 = .ok (.if_icmp .ge 54, 3) := by decide +kernel
theorem dX5_needs_115 : decode cX5_needs 115 = .ok (.iconst 0, 1) := by decide +kernel
theorem dX5_needs_116 : decode cX5_needs 116 = .ok (.istore 7, 2) := by decide +kernel
theorem dX5_needs_118 : decode cX5_needs 118 = .ok (.iload 7, 2) := by decide +kernel
theorem dX5_needs_120 : decode cX5_needs 120 = .ok (.aload_n 0, 1) := by decide +kernel
theorem dX5_needs_121 : decode cX5_needs 121 = .ok (.getfield 7, 3) := by decide +kernel
theorem dX5_needs_124 : decode cX5_needs 124 = .ok (.if_icmp .ge 36, 3) := by decide +kernel
theorem dX5_needs_127 : decode cX5_needs 127 = .ok (.iload 5, 2) := by decide +kernel
theorem dX5_needs_129 : decode cX5_needs 129 = .ok (.aload_n 0, 1) := by decide +kernel
theorem dX5_needs_130 : decode cX5_needs 130 = .ok (.getfield 54, 3) := by decide +kernel
theorem dX5_needs_133 : decode cX5_needs 133 = .ok (.iconst 0, 1) := by decide +kernel
theorem dX5_needs_134 : decode cX5_needs 134 = .ok (.iload 7, 2) := by decide +kernel
theorem dX5_needs_136 : decode cX5_needs 136 = .ok (.iload 6, 2) := by decide +kernel
theorem dX5_needs_138 : decode cX5_needs 138 = .ok (.iconst 0, 1) := by decide +kernel
theorem dX5_needs_139 : decode cX5_needs 139 = .ok (.invokestatic 85, 3) := by decide +kernel
theorem dX5_needs_142 : decode cX5_needs 142 = .ok (.baload, 1) := by decide +kernel
theorem dX5_needs_143 : decode cX5_needs 143 = .ok (.ifCond .eq 7, 3) := by decide +kernel
theorem dX5_needs_146 : decode cX5_needs 146 = .ok (.iconst 1, 1) := by decide +kernel
theorem dX5_needs_147 : decode cX5_needs 147 = .ok (.goto 4, 3) := by decide +kernel
theorem dX5_needs_150 : decode cX5_needs 150 = .ok (.iconst 0, 1) := by decide +kernel
theorem dX5_needs_151 : decode cX5_needs 151 = .ok (.iadd, 1) := by decide +kernel
theorem dX5_needs_152 : decode cX5_needs 152 = .ok (.istore 5, 2) := by decide +kernel
theorem dX5_needs_154 : decode cX5_needs 154 = .ok (.iinc 7 1, 3) := by decide +kernel
theorem dX5_needs_157 : decode cX5_needs 157 = .ok (.goto (-39), 3) := by decide +kernel
theorem dX5_needs_160 : decode cX5_needs 160 = .ok (.iinc 6 1, 3) := by decide +kernel
theorem dX5_needs_163 : decode cX5_needs 163 = .ok (.goto (-57), 3) := by decide +kernel
theorem dX5_needs_166 : decode cX5_needs 166 = .ok (.iload 5, 2) := by decide +kernel
theorem dX5_needs_168 : decode cX5_needs 168 = .ok (.ireturn, 1) := by decide +kernel
theorem dX5_counts_0 : decode cX5_counts 0 = .ok (.aload_n 0, 1) := by decide +kernel
theorem dX5_counts_1 : decode cX5_counts 1 = .ok (.iload_n 1, 1) := by decide +kernel
theorem dX5_counts_2 : decode cX5_counts 2 = .ok (.iload_n 2, 1) := by decide +kernel
theorem dX5_counts_3 : decode cX5_counts 3 = .ok (.invokevirtual 67, 3) := by decide +kernel
theorem dX5_counts_6 : decode cX5_counts 6 = .ok (.ifCond .ne 6, 3) := by decide +kernel
theorem dX5_counts_9 : decode cX5_counts 9 = .ok (.bipush (-101), 2) := by decide +kernel
theorem dX5_counts_11 : decode cX5_counts 11 = .ok (.ireturn, 1) := by decide +kernel
theorem dX5_counts_12 : decode cX5_counts 12 = .ok (.aload_n 0, 1) := by decide +kernel
theorem dX5_counts_13 : decode cX5_counts 13 = .ok (.invokevirtual 139, 3) := by decide +kernel
theorem dX5_counts_16 : decode cX5_counts 16 = .ok (.aload_n 0, 1) := by decide +kernel
theorem dX5_counts_17 : decode cX5_counts 17 = .ok (.aload_n 0, 1) := by decide +kernel
theorem dX5_counts_18 : decode cX5_counts 18 = .ok (.getfield 64, 3) := by decide +kernel
theorem dX5_counts_21 : decode cX5_counts 21 = .ok (.iload_n 3, 1) := by decide +kernel
theorem dX5_counts_22 : decode cX5_counts 22 = .ok (.iload 4, 2) := by decide +kernel
theorem dX5_counts_24 : decode cX5_counts 24 = .ok (.invokevirtual 95, 3) := by decide +kernel
theorem dX5_counts_27 : decode cX5_counts 27 = .ok (.ifCond .eq 23, 3) := by decide +kernel
theorem dX5_counts_30 : decode cX5_counts 30 = .ok (.iload 5, 2) := by decide +kernel
theorem dX5_counts_32 : decode cX5_counts 32 = .ok (.iconst 0, 1) := by decide +kernel
theorem dX5_counts_33 : decode cX5_counts 33 = .ok (.aload_n 0, 1) := by decide +kernel
theorem dX5_counts_34 : decode cX5_counts 34 = .ok (.getfield 42, 3) := by decide +kernel
theorem dX5_counts_37 : decode cX5_counts 37 = .ok (.aload_n 0, 1) := by decide +kernel
theorem dX5_counts_38 : decode cX5_counts 38 = .ok (.getfield 64, 3) := by decide +kernel
theorem dX5_counts_41 : decode cX5_counts 41 = .ok (.iaload, 1) := by decide +kernel
theorem dX5_counts_42 : decode cX5_counts 42 = .ok (.iconst 1, 1) := by decide +kernel
theorem dX5_counts_43 : decode cX5_counts 43 = .ok (.isub, 1) := by decide +kernel
theorem dX5_counts_44 : decode cX5_counts 44 = .ok (.invokestatic 60, 3) := by decide +kernel
theorem dX5_counts_47 : decode cX5_counts 47 = .ok (.ifCond .ne 6, 3) := by decide +kernel
theorem dX5_counts_50 : decode cX5_counts 50 = .ok (.bipush (-102), 2) := by decide +kernel
theorem dX5_counts_52 : decode cX5_counts 52 = .ok (.ireturn, 1) := by decide +kernel
theorem dX5_counts_53 : decode cX5_counts 53 = .ok (.aload_n 0, 1) := by decide +kernel
theorem dX5_counts_54 : decode cX5_counts 54 = .ok (.getfield 54, 3) := by decide +kernel
theorem dX5_counts_57 : decode cX5_counts 57 = .ok (.aload_n 0, 1) := by decide +kernel
theorem dX5_counts_58 : decode cX5_counts 58 = .ok (.getfield 64, 3) := by decide +kernel
theorem dX5_counts_61 : decode cX5_counts 61 = .ok (.iload_n 3, 1) := by decide +kernel
theorem dX5_counts_62 : decode cX5_counts 62 = .ok (.iload 4, 2) := by decide +kernel
theorem dX5_counts_64 : decode cX5_counts 64 = .ok (.iload 5, 2) := by decide +kernel
theorem dX5_counts_66 : decode cX5_counts 66 = .ok (.invokestatic 85, 3) := by decide +kernel
theorem dX5_counts_69 : decode cX5_counts 69 = .ok (.iconst 1, 1) := by decide +kernel
theorem dX5_counts_70 : decode cX5_counts 70 = .ok (.bastore, 1) := by decide +kernel
theorem dX5_counts_71 : decode cX5_counts 71 = .ok (.aload_n 0, 1) := by decide +kernel
theorem dX5_counts_72 : decode cX5_counts 72 = .ok (.invokevirtual 142, 3) := by decide +kernel
theorem dX5_counts_75 : decode cX5_counts 75 = .ok (.aload_n 0, 1) := by decide +kernel
theorem dX5_counts_76 : decode cX5_counts 76 = .ok (.getfield 54, 3) := by decide +kernel
theorem dX5_counts_79 : decode cX5_counts 79 = .ok (.iconst 0, 1) := by decide +kernel
theorem dX5_counts_80 : decode cX5_counts 80 = .ok (.iload_n 1, 1) := by decide +kernel
theorem dX5_counts_81 : decode cX5_counts 81 = .ok (.iload_n 2, 1) := by decide +kernel
theorem dX5_counts_82 : decode cX5_counts 82 = .ok (.iconst 0, 1) := by decide +kernel
theorem dX5_counts_83 : decode cX5_counts 83 = .ok (.invokestatic 85, 3) := by decide +kernel
theorem dX5_counts_86 : decode cX5_counts 86 = .ok (.baload, 1) := by decide +kernel
theorem dX5_counts_87 : decode cX5_counts 87 = .ok (.ifCond .eq 7, 3) := by decide +kernel
theorem dX5_counts_90 : decode cX5_counts 90 = .ok (.iconst 1, 1) := by decide +kernel
theorem dX5_counts_91 : decode cX5_counts 91 = .ok (.goto 4, 3) := by decide +kernel
theorem dX5_counts_94 : decode cX5_counts 94 = .ok (.iconst 0, 1) := by decide +kernel
theorem dX5_counts_95 : decode cX5_counts 95 = .ok (.ireturn, 1) := by decide +kernel
theorem dX5_bound_0 : decode cX5_bound 0 = .ok (.aload_n 0, 1) := by decide +kernel
theorem dX5_bound_1 : decode cX5_bound 1 = .ok (.aload_n 0, 1) := by decide +kernel
theorem dX5_bound_2 : decode cX5_bound 2 = .ok (.getfield 64, 3) := by decide +kernel
theorem dX5_bound_5 : decode cX5_bound 5 = .ok (.invokevirtual 124, 3) := by decide +kernel
theorem dX5_bound_8 : decode cX5_bound 8 = .ok (.iload_n 1, 1) := by decide +kernel
theorem dX5_bound_9 : decode cX5_bound 9 = .ok (.iconst 0, 1) := by decide +kernel
theorem dX5_bound_10 : decode cX5_bound 10 = .ok (.aload_n 0, 1) := by decide +kernel
theorem dX5_bound_11 : decode cX5_bound 11 = .ok (.getfield 42, 3) := by decide +kernel
theorem dX5_bound_14 : decode cX5_bound 14 = .ok (.aload_n 0, 1) := by decide +kernel
theorem dX5_bound_15 : decode cX5_bound 15 = .ok (.getfield 64, 3) := by decide +kernel
theorem dX5_bound_18 : decode cX5_bound 18 = .ok (.iaload, 1) := by decide +kernel
theorem dX5_bound_19 : decode cX5_bound 19 = .ok (.iconst 1, 1) := by decide +kernel
theorem dX5_bound_20 : decode cX5_bound 20 = .ok (.isub, 1) := by decide +kernel
theorem dX5_bound_21 : decode cX5_bound 21 = .ok (.invokestatic 60, 3) := by decide +kernel
theorem dX5_bound_24 : decode cX5_bound 24 = .ok (.ifCond .eq 12, 3) := by decide +kernel
theorem dX5_bound_27 : decode cX5_bound 27 = .ok (.iload_n 2, 1) := by decide +kernel
theorem dX5_bound_28 : decode cX5_bound 28 = .ok (.iconst 0, 1) := by decide +kernel
theorem dX5_bound_29 : decode cX5_bound 29 = .ok (.iconst 1, 1) := by decide +kernel
theorem dX5_bound_30 : decode cX5_bound 30 = .ok (.invokestatic 60, 3) := by decide +kernel
theorem dX5_bound_33 : decode cX5_bound 33 = .ok (.ifCond .ne 6, 3) := by decide +kernel
theorem dX5_bound_36 : decode cX5_bound 36 = .ok (.bipush (-102), 2) := by decide +kernel
theorem dX5_bound_38 : decode cX5_bound 38 = .ok (.ireturn, 1) := by decide +kernel
theorem dX5_bound_39 : decode cX5_bound 39 = .ok (.aload_n 0, 1) := by decide +kernel
theorem dX5_bound_40 : decode cX5_bound 40 = .ok (.getfield 51, 3) := by decide +kernel
theorem dX5_bound_43 : decode cX5_bound 43 = .ok (.aload_n 0, 1) := by decide +kernel
theorem dX5_bound_44 : decode cX5_bound 44 = .ok (.getfield 64, 3) := by decide +kernel
theorem dX5_bound_47 : decode cX5_bound 47 = .ok (.iconst 0, 1) := by decide +kernel
theorem dX5_bound_48 : decode cX5_bound 48 = .ok (.iconst 0, 1) := by decide +kernel
theorem dX5_bound_49 : decode cX5_bound 49 = .ok (.iload_n 1, 1) := by decide +kernel
theorem dX5_bound_50 : decode cX5_bound 50 = .ok (.invokestatic 85, 3) := by decide +kernel
theorem dX5_bound_53 : decode cX5_bound 53 = .ok (.iaload, 1) := by decide +kernel
theorem dX5_bound_54 : decode cX5_bound 54 = .ok (.istore_n 3, 1) := by decide +kernel
theorem dX5_bound_55 : decode cX5_bound 55 = .ok (.iconst 0, 1) := by decide +kernel
theorem dX5_bound_56 : decode cX5_bound 56 = .ok (.istore 4, 2) := by decide +kernel
theorem dX5_bound_58 : decode cX5_bound 58 = .ok (.iload 4, 2) := by decide +kernel
theorem dX5_bound_60 : decode cX5_bound 60 = .ok (.aload_n 0, 1) := by decide +kernel
theorem dX5_bound_61 : decode cX5_bound 61 = .ok (.getfield 39, 3) := by decide +kernel
theorem dX5_bound_64 : decode cX5_bound 64 = .ok (.aload_n 0, 1) := by decide +kernel
theorem dX5_bound_65 : decode cX5_bound 65 = .ok (.getfield 64, 3) := by decide +kernel
theorem dX5_bound_68 : decode cX5_bound 68 = .ok (.iaload, 1) := by decide +kernel
theorem dX5_bound_69 : decode cX5_bound 69 = .ok (.if_icmp .ge 83, 3) := by decide +kernel
theorem dX5_bound_72 : decode cX5_bound 72 = .ok (.iconst 0, 1) := by decide +kernel
theorem dX5_bound_73 : decode cX5_bound 73 = .ok (.istore 5, 2) := by decide +kernel
theorem dX5_bound_75 : decode cX5_bound 75 = .ok (.iload 5, 2) := by decide +kernel
theorem dX5_bound_77 : decode cX5_bound 77 = .ok (.aload_n 0, 1) := by decide +kernel
theorem dX5_bound_78 : decode cX5_bound 78 = .ok (.getfield 36, 3) := by decide +kernel
theorem dX5_bound_81 : decode cX5_bound 81 = .ok (.aload_n 0, 1) := by decide +kernel
theorem dX5_bound_82 : decode cX5_bound 82 = .ok (.getfield 64, 3) := by decide +kernel
theorem dX5_bound_85 : decode cX5_bound 85 = .ok (.iaload, 1) := by decide +kernel
theorem dX5_bound_86 : decode cX5_bound 86 = .ok (.if_icmp .ge 60, 3) := by decide +kernel
theorem dX5_bound_89 : decode cX5_bound 89 = .ok (.aload_n 0, 1) := by decide +kernel
theorem dX5_bound_90 : decode cX5_bound 90 = .ok (.getfield 51, 3) := by decide +kernel
theorem dX5_bound_93 : decode cX5_bound 93 = .ok (.aload_n 0, 1) := by decide +kernel
theorem dX5_bound_94 : decode cX5_bound 94 = .ok (.getfield 64, 3) := by decide +kernel
theorem dX5_bound_97 : decode cX5_bound 97 = .ok (.iload 5, 2) := by decide +kernel
theorem dX5_bound_99 : decode cX5_bound 99 = .ok (.iload 4, 2) := by decide +kernel
theorem dX5_bound_101 : decode cX5_bound 101 = .ok (.iload_n 1, 1) := by decide +kernel
theorem dX5_bound_102 : decode cX5_bound 102 = .ok (.invokestatic 85, 3) := by decide +kernel
theorem dX5_bound_105 : decode cX5_bound 105 = .ok (.iaload, 1) := by decide +kernel
theorem dX5_bound_106 : decode cX5_bound 106 = .ok (.istore 6, 2) := by decide +kernel
theorem dX5_bound_108 : decode cX5_bound 108 = .ok (.iload_n 2, 1) := by decide +kernel
theorem dX5_bound_109 : decode cX5_bound 109 = .ok (.ifCond .ne 18, 3) := by decide +kernel
theorem dX5_bound_112 : decode cX5_bound 112 = .ok (.iload 6, 2) := by decide +kernel
theorem dX5_bound_114 : decode cX5_bound 114 = .ok (.iload_n 3, 1) := by decide +kernel
theorem dX5_bound_115 : decode cX5_bound 115 = .ok (.if_icmp .ge 8, 3) := by decide +kernel
theorem dX5_bound_118 : decode cX5_bound 118 = .ok (.iload 6, 2) := by decide +kernel
theorem dX5_bound_120 : decode cX5_bound 120 = .ok (.goto 19, 3) := by decide +kernel
theorem dX5_bound_123 : decode cX5_bound 123 = .ok (.iload_n 3, 1) := by decide +kernel
theorem dX5_bound_124 : decode cX5_bound 124 = .ok (.goto 15, 3) := by decide +kernel
theorem dX5_bound_127 : decode cX5_bound 127 = .ok (.iload 6, 2) := by decide +kernel
theorem dX5_bound_129 : decode cX5_bound 129 = .ok (.iload_n 3, 1) := by decide +kernel
theorem dX5_bound_130 : decode cX5_bound 130 = .ok (.if_icmp .le 8, 3) := by decide +kernel
theorem dX5_bound_133 : decode cX5_bound 133 = .ok (.iload 6, 2) := by decide +kernel
theorem dX5_bound_135 : decode cX5_bound 135 = .ok (.goto 4, 3) := by decide +kernel
theorem dX5_bound_138 : decode cX5_bound 138 = .ok (.iload_n 3, 1) := by decide +kernel
theorem dX5_bound_139 : decode cX5_bound 139 = .ok (.istore_n 3, 1) := by decide +kernel
theorem dX5_bound_140 : decode cX5_bound 140 = .ok (.iinc 5 1, 3) := by decide +kernel
theorem dX5_bound_143 : decode cX5_bound 143 = .ok (.goto (-68), 3) := by decide +kernel
theorem dX5_bound_146 : decode cX5_bound 146 = .ok (.iinc 4 1, 3) := by decide +kernel
theorem dX5_bound_149 : decode cX5_bound 149 = .ok (.goto (-91), 3) := by decide +kernel
theorem dX5_bound_152 : decode cX5_bound 152 = .ok (.iload_n 3, 1) := by decide +kernel
theorem dX5_bound_153 : decode cX5_bound 153 = .ok (.ireturn, 1) := by decide +kernel
theorem dX5_count_0 : decode cX5_count 0 = .ok (.iconst 0, 1) := by decide +kernel
theorem dX5_count_1 : decode cX5_count 1 = .ok (.istore_n 2, 1) := by decide +kernel
theorem dX5_count_2 : decode cX5_count 2 = .ok (.iconst 0, 1) := by decide +kernel
theorem dX5_count_3 : decode cX5_count 3 = .ok (.istore_n 3, 1) := by decide +kernel
theorem dX5_count_4 : decode cX5_count 4 = .ok (.iload_n 3, 1) := by decide +kernel
theorem dX5_count_5 : decode cX5_count 5 = .ok (.sipush 256, 3) := by decide +kernel
theorem dX5_count_8 : decode cX5_count 8 = .ok (.if_icmp .ge 26, 3) := by decide +kernel
theorem dX5_count_11 : decode cX5_count 11 = .ok (.iload_n 2, 1) := by decide +kernel
theorem dX5_count_12 : decode cX5_count 12 = .ok (.aload_n 0, 1) := by decide +kernel
theorem dX5_count_13 : decode cX5_count 13 = .ok (.getfield 20, 3) := by decide +kernel
theorem dX5_count_16 : decode cX5_count 16 = .ok (.iload_n 3, 1) := by decide +kernel
theorem dX5_count_17 : decode cX5_count 17 = .ok (.baload, 1) := by decide +kernel
theorem dX5_count_18 : decode cX5_count 18 = .ok (.ifCond .eq 7, 3) := by decide +kernel
theorem dX5_count_21 : decode cX5_count 21 = .ok (.iconst 1, 1) := by decide +kernel
theorem dX5_count_22 : decode cX5_count 22 = .ok (.goto 4, 3) := by decide +kernel
theorem dX5_count_25 : decode cX5_count 25 = .ok (.iconst 0, 1) := by decide +kernel
theorem dX5_count_26 : decode cX5_count 26 = .ok (.iadd, 1) := by decide +kernel
theorem dX5_count_27 : decode cX5_count 27 = .ok (.istore_n 2, 1) := by decide +kernel
theorem dX5_count_28 : decode cX5_count 28 = .ok (.iinc 3 1, 3) := by decide +kernel
theorem dX5_count_31 : decode cX5_count 31 = .ok (.goto (-27), 3) := by decide +kernel
theorem dX5_count_34 : decode cX5_count 34 = .ok (.iload_n 1, 1) := by decide +kernel
theorem dX5_count_35 : decode cX5_count 35 = .ok (.ifCond .ne 10, 3) := by decide +kernel
theorem dX5_count_38 : decode cX5_count 38 = .ok (.aload_n 0, 1) := by decide +kernel
theorem dX5_count_39 : decode cX5_count 39 = .ok (.getfield 7, 3) := by decide +kernel
theorem dX5_count_42 : decode cX5_count 42 = .ok (.goto 38, 3) := by decide +kernel
theorem dX5_count_45 : decode cX5_count 45 = .ok (.iload_n 1, 1) := by decide +kernel
theorem dX5_count_46 : decode cX5_count 46 = .ok (.iconst 1, 1) := by decide +kernel
theorem dX5_count_47 : decode cX5_count 47 = .ok (.if_icmp .ne 10, 3) := by decide +kernel
theorem dX5_count_50 : decode cX5_count 50 = .ok (.aload_n 0, 1) := by decide +kernel
theorem dX5_count_51 : decode cX5_count 51 = .ok (.getfield 13, 3) := by decide +kernel
theorem dX5_count_54 : decode cX5_count 54 = .ok (.goto 26, 3) := by decide +kernel
theorem dX5_count_57 : decode cX5_count 57 = .ok (.iload_n 1, 1) := by decide +kernel
theorem dX5_count_58 : decode cX5_count 58 = .ok (.iconst 2, 1) := by decide +kernel
theorem dX5_count_59 : decode cX5_count 59 = .ok (.if_icmp .ne 7, 3) := by decide +kernel
theorem dX5_count_62 : decode cX5_count 62 = .ok (.iload_n 2, 1) := by decide +kernel
theorem dX5_count_63 : decode cX5_count 63 = .ok (.goto 17, 3) := by decide +kernel
theorem dX5_count_66 : decode cX5_count 66 = .ok (.iload_n 1, 1) := by decide +kernel
theorem dX5_count_67 : decode cX5_count 67 = .ok (.iconst 3, 1) := by decide +kernel
theorem dX5_count_68 : decode cX5_count 68 = .ok (.if_icmp .ne 10, 3) := by decide +kernel
theorem dX5_count_71 : decode cX5_count 71 = .ok (.aload_n 0, 1) := by decide +kernel
theorem dX5_count_72 : decode cX5_count 72 = .ok (.getfield 64, 3) := by decide +kernel
theorem dX5_count_75 : decode cX5_count 75 = .ok (.goto 5, 3) := by decide +kernel
theorem dX5_count_78 : decode cX5_count 78 = .ok (.bipush (-102), 2) := by decide +kernel
theorem dX5_count_80 : decode cX5_count 80 = .ok (.ireturn, 1) := by decide +kernel
theorem dX5_mix_0 : decode cX5_mix 0 = .ok (.aload_n 0, 1) := by decide +kernel
theorem dX5_mix_1 : decode cX5_mix 1 = .ok (.ldc2_w 145, 3) := by decide +kernel
theorem dX5_mix_4 : decode cX5_mix 4 = .ok (.aload_n 0, 1) := by decide +kernel
theorem dX5_mix_5 : decode cX5_mix 5 = .ok (.getfield 147, 3) := by decide +kernel
theorem dX5_mix_8 : decode cX5_mix 8 = .ok (.lmul, 1) := by decide +kernel
theorem dX5_mix_9 : decode cX5_mix 9 = .ok (.lload_n 1, 1) := by decide +kernel
theorem dX5_mix_10 : decode cX5_mix 10 = .ok (.ladd, 1) := by decide +kernel
theorem dX5_mix_11 : decode cX5_mix 11 = .ok (.putfield 147, 3) := by decide +kernel
theorem dX5_mix_14 : decode cX5_mix 14 = .ok (.return_, 1) := by decide +kernel
theorem dX5_many_0 : decode cX5_many 0 = .ok (.iload_n 0, 1) := by decide +kernel
theorem dX5_many_1 : decode cX5_many 1 = .ok (.ifCond .ne 7, 3) := by decide +kernel
theorem dX5_many_4 : decode cX5_many 4 = .ok (.iconst 1, 1) := by decide +kernel
theorem dX5_many_5 : decode cX5_many 5 = .ok (.goto 34, 3) := by decide +kernel
theorem dX5_many_8 : decode cX5_many 8 = .ok (.iload_n 0, 1) := by decide +kernel
theorem dX5_many_9 : decode cX5_many 9 = .ok (.iconst 1, 1) := by decide +kernel
theorem dX5_many_10 : decode cX5_many 10 = .ok (.if_icmp .ne 7, 3) := by decide +kernel
theorem dX5_many_13 : decode cX5_many 13 = .ok (.iconst 3, 1) := by decide +kernel
theorem dX5_many_14 : decode cX5_many 14 = .ok (.goto 25, 3) := by decide +kernel
theorem dX5_many_17 : decode cX5_many 17 = .ok (.iload_n 0, 1) := by decide +kernel
theorem dX5_many_18 : decode cX5_many 18 = .ok (.iconst 5, 1) := by decide +kernel
theorem dX5_many_19 : decode cX5_many 19 = .ok (.if_icmp .ne 8, 3) := by decide +kernel
theorem dX5_many_22 : decode cX5_many 22 = .ok (.bipush 9, 2) := by decide +kernel
theorem dX5_many_24 : decode cX5_many 24 = .ok (.goto 15, 3) := by decide +kernel
theorem dX5_many_27 : decode cX5_many 27 = .ok (.iload_n 0, 1) := by decide +kernel
theorem dX5_many_28 : decode cX5_many 28 = .ok (.bipush 6, 2) := by decide +kernel
theorem dX5_many_30 : decode cX5_many 30 = .ok (.if_icmp .ne 8, 3) := by decide +kernel
theorem dX5_many_33 : decode cX5_many 33 = .ok (.bipush 17, 2) := by decide +kernel
theorem dX5_many_35 : decode cX5_many 35 = .ok (.goto 4, 3) := by decide +kernel
theorem dX5_many_38 : decode cX5_many 38 = .ok (.iconst 0, 1) := by decide +kernel
theorem dX5_many_39 : decode cX5_many 39 = .ok (.ireturn, 1) := by decide +kernel
theorem dX5_digest_0 : decode cX5_digest 0 = .ok (.aload_n 0, 1) := by decide +kernel
theorem dX5_digest_1 : decode cX5_digest 1 = .ok (.aload_n 0, 1) := by decide +kernel
theorem dX5_digest_2 : decode cX5_digest 2 = .ok (.getfield 64, 3) := by decide +kernel
theorem dX5_digest_5 : decode cX5_digest 5 = .ok (.invokevirtual 124, 3) := by decide +kernel
theorem dX5_digest_8 : decode cX5_digest 8 = .ok (.aload_n 0, 1) := by decide +kernel
theorem dX5_digest_9 : decode cX5_digest 9 = .ok (.ldc2_w 151, 3) := by decide +kernel
theorem dX5_digest_12 : decode cX5_digest 12 = .ok (.putfield 147, 3) := by decide +kernel
theorem dX5_digest_15 : decode cX5_digest 15 = .ok (.aload_n 0, 1) := by decide +kernel
theorem dX5_digest_16 : decode cX5_digest 16 = .ok (.aload_n 0, 1) := by decide +kernel
theorem dX5_digest_17 : decode cX5_digest 17 = .ok (.getfield 7, 3) := by decide +kernel
theorem dX5_digest_20 : decode cX5_digest 20 = .ok (.i2l, 1) := by decide +kernel
theorem dX5_digest_21 : decode cX5_digest 21 = .ok (.invokevirtual 153, 3) := by decide +kernel
theorem dX5_digest_24 : decode cX5_digest 24 = .ok (.aload_n 0, 1) := by decide +kernel
theorem dX5_digest_25 : decode cX5_digest 25 = .ok (.aload_n 0, 1) := by decide +kernel
theorem dX5_digest_26 : decode cX5_digest 26 = .ok (.getfield 13, 3) := by decide +kernel
theorem dX5_digest_29 : decode cX5_digest 29 = .ok (.i2l, 1) := by decide +kernel
theorem dX5_digest_30 : decode cX5_digest 30 = .ok (.invokevirtual 153, 3) := by decide +kernel
theorem dX5_digest_33 : decode cX5_digest 33 = .ok (.iconst 0, 1) := by decide +kernel
theorem dX5_digest_34 : decode cX5_digest 34 = .ok (.istore_n 1, 1) := by decide +kernel
theorem dX5_digest_35 : decode cX5_digest 35 = .ok (.iload_n 1, 1) := by decide +kernel
theorem dX5_digest_36 : decode cX5_digest 36 = .ok (.aload_n 0, 1) := by decide +kernel
theorem dX5_digest_37 : decode cX5_digest 37 = .ok (.getfield 13, 3) := by decide +kernel
theorem dX5_digest_40 : decode cX5_digest 40 = .ok (.if_icmp .ge 63, 3) := by decide +kernel
theorem dX5_digest_43 : decode cX5_digest 43 = .ok (.iconst 0, 1) := by decide +kernel
theorem dX5_digest_44 : decode cX5_digest 44 = .ok (.istore_n 2, 1) := by decide +kernel
theorem dX5_digest_45 : decode cX5_digest 45 = .ok (.iload_n 2, 1) := by decide +kernel
theorem dX5_digest_46 : decode cX5_digest 46 = .ok (.aload_n 0, 1) := by decide +kernel
theorem dX5_digest_47 : decode cX5_digest 47 = .ok (.getfield 7, 3) := by decide +kernel
theorem dX5_digest_50 : decode cX5_digest 50 = .ok (.if_icmp .ge 47, 3) := by decide +kernel
theorem dX5_digest_53 : decode cX5_digest 53 = .ok (.aload_n 0, 1) := by decide +kernel
theorem dX5_digest_54 : decode cX5_digest 54 = .ok (.aload_n 0, 1) := by decide +kernel
theorem dX5_digest_55 : decode cX5_digest 55 = .ok (.getfield 16, 3) := by decide +kernel
theorem dX5_digest_58 : decode cX5_digest 58 = .ok (.bipush 16, 2) := by decide +kernel
theorem dX5_digest_60 : decode cX5_digest 60 = .ok (.iload_n 1, 1) := by decide +kernel
theorem dX5_digest_61 : decode cX5_digest 61 = .ok (.imul, 1) := by decide +kernel
theorem dX5_digest_62 : decode cX5_digest 62 = .ok (.iload_n 2, 1) := by decide +kernel
theorem dX5_digest_63 : decode cX5_digest 63 = .ok (.iadd, 1) := by decide +kernel
theorem dX5_digest_64 : decode cX5_digest 64 = .ok (.iaload, 1) := by decide +kernel
theorem dX5_digest_65 : decode cX5_digest 65 = .ok (.aload_n 0, 1) := by decide +kernel
theorem dX5_digest_66 : decode cX5_digest 66 = .ok (.getfield 20, 3) := by decide +kernel
theorem dX5_digest_69 : decode cX5_digest 69 = .ok (.bipush 16, 2) := by decide +kernel
theorem dX5_digest_71 : decode cX5_digest 71 = .ok (.iload_n 1, 1) := by decide +kernel
theorem dX5_digest_72 : decode cX5_digest 72 = .ok (.imul, 1) := by decide +kernel
theorem dX5_digest_73 : decode cX5_digest 73 = .ok (.iload_n 2, 1) := by decide +kernel
theorem dX5_digest_74 : decode cX5_digest 74 = .ok (.iadd, 1) := by decide +kernel
theorem dX5_digest_75 : decode cX5_digest 75 = .ok (.baload, 1) := by decide +kernel
theorem dX5_digest_76 : decode cX5_digest 76 = .ok (.ifCond .eq 9, 3) := by decide +kernel
theorem dX5_digest_79 : decode cX5_digest 79 = .ok (.sipush 5000, 3) := by decide +kernel
theorem dX5_digest_82 : decode cX5_digest 82 = .ok (.goto 4, 3) := by decide +kernel
theorem dX5_digest_85 : decode cX5_digest 85 = .ok (.iconst 0, 1) := by decide +kernel
