theorem dX9_around_5 : decode cX9_around 5 = .ok (.invokestatic 114, 3) := by decide +kernel
theorem dX9_around_8 : decode cX9_around 8 = .ok (.isub, 1) := by decide +kernel
theorem dX9_around_9 : decode cX9_around 9 = .ok (.invokestatic 171, 3) := by decide +kernel
theorem dX9_around_12 : decode cX9_around 12 = .ok (.istore_n 2, 1) := by decide +kernel
theorem dX9_around_13 : decode cX9_around 13 = .ok (.iload_n 0, 1) := by decide +kernel
theorem dX9_around_14 : decode cX9_around 14 = .ok (.invokestatic 118, 3) := by decide +kernel
theorem dX9_around_17 : decode cX9_around 17 = .ok (.iload_n 1, 1) := by decide +kernel
theorem dX9_around_18 : decode cX9_around 18 = .ok (.invokestatic 118, 3) := by decide +kernel
theorem dX9_around_21 : decode cX9_around 21 = .ok (.isub, 1) := by decide +kernel
theorem dX9_around_22 : decode cX9_around 22 = .ok (.invokestatic 171, 3) := by decide +kernel
theorem dX9_around_25 : decode cX9_around 25 = .ok (.istore_n 3, 1) := by decide +kernel
theorem dX9_around_26 : decode cX9_around 26 = .ok (.iload_n 2, 1) := by decide +kernel
theorem dX9_around_27 : decode cX9_around 27 = .ok (.iload_n 3, 1) := by decide +kernel
theorem dX9_around_28 : decode cX9_around 28 = .ok (.if_icmp .le 7, 3) := by decide +kernel
theorem dX9_around_31 : decode cX9_around 31 = .ok (.iload_n 2, 1) := by decide +kernel
theorem dX9_around_32 : decode cX9_around 32 = .ok (.goto 4, 3) := by decide +kernel
theorem dX9_around_35 : decode cX9_around 35 = .ok (.iload_n 3, 1) := by decide +kernel
theorem dX9_around_36 : decode cX9_around 36 = .ok (.ireturn, 1) := by decide +kernel
theorem dX9_heroSeesCell_0 : decode cX9_heroSeesCell 0 = .ok (.aload_n 0, 1) := by decide +kernel
theorem dX9_heroSeesCell_1 : decode cX9_heroSeesCell 1 = .ok (.getfield 136, 3) := by decide +kernel
theorem dX9_heroSeesCell_4 : decode cX9_heroSeesCell 4 = .ok (.ifCond .le 19, 3) := by decide +kernel
theorem dX9_heroSeesCell_7 : decode cX9_heroSeesCell 7 = .ok (.iload_n 1, 1) := by decide +kernel
theorem dX9_heroSeesCell_8 : decode cX9_heroSeesCell 8 = .ok (.aload_n 0, 1) := by decide +kernel
theorem dX9_heroSeesCell_9 : decode cX9_heroSeesCell 9 = .ok (.getfield 65, 3) := by decide +kernel
theorem dX9_heroSeesCell_12 : decode cX9_heroSeesCell 12 = .ok (.iconst 0, 1) := by decide +kernel
theorem dX9_heroSeesCell_13 : decode cX9_heroSeesCell 13 = .ok (.iaload, 1) := by decide +kernel
theorem dX9_heroSeesCell_14 : decode cX9_heroSeesCell 14 = .ok (.if_icmp .ne 7, 3) := by decide +kernel
theorem dX9_heroSeesCell_17 : decode cX9_heroSeesCell 17 = .ok (.iconst 1, 1) := by decide +kernel
theorem dX9_heroSeesCell_18 : decode cX9_heroSeesCell 18 = .ok (.goto 4, 3) := by decide +kernel
theorem dX9_heroSeesCell_21 : decode cX9_heroSeesCell 21 = .ok (.iconst 0, 1) := by decide +kernel
theorem dX9_heroSeesCell_22 : decode cX9_heroSeesCell 22 = .ok (.ireturn, 1) := by decide +kernel
theorem dX9_heroSeesCell_23 : decode cX9_heroSeesCell 23 = .ok (.aload_n 0, 1) := by decide +kernel
theorem dX9_heroSeesCell_24 : decode cX9_heroSeesCell 24 = .ok (.aload_n 0, 1) := by decide +kernel
theorem dX9_heroSeesCell_25 : decode cX9_heroSeesCell 25 = .ok (.getfield 65, 3) := by decide +kernel
theorem dX9_heroSeesCell_28 : decode cX9_heroSeesCell 28 = .ok (.iconst 0, 1) := by decide +kernel
theorem dX9_heroSeesCell_29 : decode cX9_heroSeesCell 29 = .ok (.iaload, 1) := by decide +kernel
theorem dX9_heroSeesCell_30 : decode cX9_heroSeesCell 30 = .ok (.iload_n 1, 1) := by decide +kernel
theorem dX9_heroSeesCell_31 : decode cX9_heroSeesCell 31 = .ok (.invokevirtual 180, 3) := by decide +kernel
theorem dX9_heroSeesCell_34 : decode cX9_heroSeesCell 34 = .ok (.ifCond .eq 29, 3) := by decide +kernel
theorem dX9_heroSeesCell_37 : decode cX9_heroSeesCell 37 = .ok (.aload_n 0, 1) := by decide +kernel
theorem dX9_heroSeesCell_38 : decode cX9_heroSeesCell 38 = .ok (.getfield 65, 3) := by decide +kernel
theorem dX9_heroSeesCell_41 : decode cX9_heroSeesCell 41 = .ok (.iconst 0, 1) := by decide +kernel
theorem dX9_heroSeesCell_42 : decode cX9_heroSeesCell 42 = .ok (.iaload, 1) := by decide +kernel
theorem dX9_heroSeesCell_43 : decode cX9_heroSeesCell 43 = .ok (.iload_n 1, 1) := by decide +kernel
theorem dX9_heroSeesCell_44 : decode cX9_heroSeesCell 44 = .ok (.invokestatic 183, 3) := by decide +kernel
theorem dX9_heroSeesCell_47 : decode cX9_heroSeesCell 47 = .ok (.iconst 1, 1) := by decide +kernel
theorem dX9_heroSeesCell_48 : decode cX9_heroSeesCell 48 = .ok (.if_icmp .le 11, 3) := by decide +kernel
theorem dX9_heroSeesCell_51 : decode cX9_heroSeesCell 51 = .ok (.aload_n 0, 1) := by decide +kernel
theorem dX9_heroSeesCell_52 : decode cX9_heroSeesCell 52 = .ok (.iload_n 1, 1) := by decide +kernel
theorem dX9_heroSeesCell_53 : decode cX9_heroSeesCell 53 = .ok (.invokevirtual 186, 3) := by decide +kernel
theorem dX9_heroSeesCell_56 : decode cX9_heroSeesCell 56 = .ok (.ifCond .eq 7, 3) := by decide +kernel
theorem dX9_heroSeesCell_59 : decode cX9_heroSeesCell 59 = .ok (.iconst 1, 1) := by decide +kernel
theorem dX9_heroSeesCell_60 : decode cX9_heroSeesCell 60 = .ok (.goto 4, 3) := by decide +kernel
theorem dX9_heroSeesCell_63 : decode cX9_heroSeesCell 63 = .ok (.iconst 0, 1) := by decide +kernel
theorem dX9_heroSeesCell_64 : decode cX9_heroSeesCell 64 = .ok (.ireturn, 1) := by decide +kernel
theorem dX9_isDoor_0 : decode cX9_isDoor 0 = .ok (.iload_n 0, 1) := by decide +kernel
theorem dX9_isDoor_1 : decode cX9_isDoor 1 = .ok (.bipush 43, 2) := by decide +kernel
theorem dX9_isDoor_3 : decode cX9_isDoor 3 = .ok (.if_icmp .eq 14, 3) := by decide +kernel
theorem dX9_isDoor_6 : decode cX9_isDoor 6 = .ok (.iload_n 0, 1) := by decide +kernel
theorem dX9_isDoor_7 : decode cX9_isDoor 7 = .ok (.bipush 48, 2) := by decide +kernel
theorem dX9_isDoor_9 : decode cX9_isDoor 9 = .ok (.bipush 50, 2) := by decide +kernel
theorem dX9_isDoor_11 : decode cX9_isDoor 11 = .ok (.invokestatic 110, 3) := by decide +kernel
theorem dX9_isDoor_14 : decode cX9_isDoor 14 = .ok (.ifCond .eq 7, 3) := by decide +kernel
theorem dX9_isDoor_17 : decode cX9_isDoor 17 = .ok (.iconst 1, 1) := by decide +kernel
theorem dX9_isDoor_18 : decode cX9_isDoor 18 = .ok (.goto 4, 3) := by decide +kernel
theorem dX9_isDoor_21 : decode cX9_isDoor 21 = .ok (.iconst 0, 1) := by decide +kernel
theorem dX9_isDoor_22 : decode cX9_isDoor 22 = .ok (.ireturn, 1) := by decide +kernel
theorem dX9_findsSteps_0 : decode cX9_findsSteps 0 = .ok (.iconst 0, 1) := by decide +kernel
theorem dX9_findsSteps_1 : decode cX9_findsSteps 1 = .ok (.istore 4, 2) := by decide +kernel
theorem dX9_findsSteps_3 : decode cX9_findsSteps 3 = .ok (.iload 4, 2) := by decide +kernel
theorem dX9_findsSteps_5 : decode cX9_findsSteps 5 = .ok (.sipush 144, 3) := by decide +kernel
theorem dX9_findsSteps_8 : decode cX9_findsSteps 8 = .ok (.if_icmp .ge 18, 3) := by decide +kernel
theorem dX9_findsSteps_11 : decode cX9_findsSteps 11 = .ok (.aload_n 0, 1) := by decide +kernel
theorem dX9_findsSteps_12 : decode cX9_findsSteps 12 = .ok (.getfield 98, 3) := by decide +kernel
theorem dX9_findsSteps_15 : decode cX9_findsSteps 15 = .ok (.iload 4, 2) := by decide +kernel
theorem dX9_findsSteps_17 : decode cX9_findsSteps 17 = .ok (.ldc 189, 2) := by decide +kernel
theorem dX9_findsSteps_19 : decode cX9_findsSteps 19 = .ok (.iastore, 1) := by decide +kernel
theorem dX9_findsSteps_20 : decode cX9_findsSteps 20 = .ok (.iinc 4 1, 3) := by decide +kernel
theorem dX9_findsSteps_23 : decode cX9_findsSteps 23 = .ok (.goto (-20), 3) := by decide +kernel
theorem dX9_findsSteps_26 : decode cX9_findsSteps 26 = .ok (.aload_n 0, 1) := by decide +kernel
theorem dX9_findsSteps_27 : decode cX9_findsSteps 27 = .ok (.getfield 98, 3) := by decide +kernel
theorem dX9_findsSteps_30 : decode cX9_findsSteps 30 = .ok (.iload_n 1, 1) := by decide +kernel
theorem dX9_findsSteps_31 : decode cX9_findsSteps 31 = .ok (.iconst 0, 1) := by decide +kernel
theorem dX9_findsSteps_32 : decode cX9_findsSteps 32 = .ok (.iastore, 1) := by decide +kernel
theorem dX9_findsSteps_33 : decode cX9_findsSteps 33 = .ok (.iconst 1, 1) := by decide +kernel
theorem dX9_findsSteps_34 : decode cX9_findsSteps 34 = .ok (.istore 4, 2) := by decide +kernel
theorem dX9_findsSteps_36 : decode cX9_findsSteps 36 = .ok (.iload 4, 2) := by decide +kernel
theorem dX9_findsSteps_38 : decode cX9_findsSteps 38 = .ok (.ifCond .eq 201, 3) := by decide +kernel
theorem dX9_findsSteps_41 : decode cX9_findsSteps 41 = .ok (.iconst 0, 1) := by decide +kernel
theorem dX9_findsSteps_42 : decode cX9_findsSteps 42 = .ok (.istore 4, 2) := by decide +kernel
theorem dX9_findsSteps_44 : decode cX9_findsSteps 44 = .ok (.iconst 0, 1) := by decide +kernel
theorem dX9_findsSteps_45 : decode cX9_findsSteps 45 = .ok (.istore 5, 2) := by decide +kernel
theorem dX9_findsSteps_47 : decode cX9_findsSteps 47 = .ok (.iload 5, 2) := by decide +kernel
theorem dX9_findsSteps_49 : decode cX9_findsSteps 49 = .ok (.sipush 144, 3) := by decide +kernel
theorem dX9_findsSteps_52 : decode cX9_findsSteps 52 = .ok (.if_icmp .ge 184, 3) := by decide +kernel
theorem dX9_findsSteps_55 : decode cX9_findsSteps 55 = .ok (.aload_n 0, 1) := by decide +kernel
theorem dX9_findsSteps_56 : decode cX9_findsSteps 56 = .ok (.iload 5, 2) := by decide +kernel
theorem dX9_findsSteps_58 : decode cX9_findsSteps 58 = .ok (.invokevirtual 174, 3) := by decide +kernel
theorem dX9_findsSteps_61 : decode cX9_findsSteps 61 = .ok (.ifCond .eq 7, 3) := by decide +kernel
theorem dX9_findsSteps_64 : decode cX9_findsSteps 64 = .ok (.iconst 1, 1) := by decide +kernel
theorem dX9_findsSteps_65 : decode cX9_findsSteps 65 = .ok (.goto 38, 3) := by decide +kernel
theorem dX9_findsSteps_68 : decode cX9_findsSteps 68 = .ok (.aload_n 0, 1) := by decide +kernel
theorem dX9_findsSteps_69 : decode cX9_findsSteps 69 = .ok (.getfield 62, 3) := by decide +kernel
theorem dX9_findsSteps_72 : decode cX9_findsSteps 72 = .ok (.iload 5, 2) := by decide +kernel
theorem dX9_findsSteps_74 : decode cX9_findsSteps 74 = .ok (.caload, 1) := by decide +kernel
theorem dX9_findsSteps_75 : decode cX9_findsSteps 75 = .ok (.bipush 43, 2) := by decide +kernel
theorem dX9_findsSteps_77 : decode cX9_findsSteps 77 = .ok (.if_icmp .ne 7, 3) := by decide +kernel
theorem dX9_findsSteps_80 : decode cX9_findsSteps 80 = .ok (.iload_n 2, 1) := by decide +kernel
theorem dX9_findsSteps_81 : decode cX9_findsSteps 81 = .ok (.goto 22, 3) := by decide +kernel
theorem dX9_findsSteps_84 : decode cX9_findsSteps 84 = .ok (.aload_n 0, 1) := by decide +kernel
theorem dX9_findsSteps_85 : decode cX9_findsSteps 85 = .ok (.getfield 62, 3) := by decide +kernel
theorem dX9_findsSteps_88 : decode cX9_findsSteps 88 = .ok (.iload 5, 2) := by decide +kernel
theorem dX9_findsSteps_90 : decode cX9_findsSteps 90 = .ok (.caload, 1) := by decide +kernel
theorem dX9_findsSteps_91 : decode cX9_findsSteps 91 = .ok (.invokestatic 190, 3) := by decide +kernel
theorem dX9_findsSteps_94 : decode cX9_findsSteps 94 = .ok (.ifCond .eq 7, 3) := by decide +kernel
theorem dX9_findsSteps_97 : decode cX9_findsSteps 97 = .ok (.iload_n 3, 1) := by decide +kernel
theorem dX9_findsSteps_98 : decode cX9_findsSteps 98 = .ok (.goto 5, 3) := by decide +kernel
theorem dX9_findsSteps_101 : decode cX9_findsSteps 101 = .ok (.ldc 189, 2) := by decide +kernel
theorem dX9_findsSteps_103 : decode cX9_findsSteps 103 = .ok (.istore 6, 2) := by decide +kernel
theorem dX9_findsSteps_105 : decode cX9_findsSteps 105 = .ok (.iconst 0, 1) := by decide +kernel
theorem dX9_findsSteps_106 : decode cX9_findsSteps 106 = .ok (.istore 7, 2) := by decide +kernel
theorem dX9_findsSteps_108 : decode cX9_findsSteps 108 = .ok (.iload 7, 2) := by decide +kernel
theorem dX9_findsSteps_110 : decode cX9_findsSteps 110 = .ok (.iconst 4, 1) := by decide +kernel
theorem dX9_findsSteps_111 : decode cX9_findsSteps 111 = .ok (.if_icmp .ge 119, 3) := by decide +kernel
theorem dX9_findsSteps_114 : decode cX9_findsSteps 114 = .ok (.iload 5, 2) := by decide +kernel
theorem dX9_findsSteps_116 : decode cX9_findsSteps 116 = .ok (.iload 7, 2) := by decide +kernel
theorem dX9_findsSteps_118 : decode cX9_findsSteps 118 = .ok (.invokestatic 193, 3) := by decide +kernel
theorem dX9_findsSteps_121 : decode cX9_findsSteps 121 = .ok (.istore 8, 2) := by decide +kernel
theorem dX9_findsSteps_123 : decode cX9_findsSteps 123 = .ok (.iload 8, 2) := by decide +kernel
theorem dX9_findsSteps_125 : decode cX9_findsSteps 125 = .ok (.iconst (-1), 1) := by decide +kernel
theorem dX9_findsSteps_126 : decode cX9_findsSteps 126 = .ok (.if_icmp .eq 46, 3) := by decide +kernel
theorem dX9_findsSteps_129 : decode cX9_findsSteps 129 = .ok (.aload_n 0, 1) := by decide +kernel
theorem dX9_findsSteps_130 : decode cX9_findsSteps 130 = .ok (.getfield 98, 3) := by decide +kernel
theorem dX9_findsSteps_133 : decode cX9_findsSteps 133 = .ok (.iload 8, 2) := by decide +kernel
theorem dX9_findsSteps_135 : decode cX9_findsSteps 135 = .ok (.iaload, 1) := by decide +kernel
theorem dX9_findsSteps_136 : decode cX9_findsSteps 136 = .ok (.ldc 189, 2) := by decide +kernel
theorem dX9_findsSteps_138 : decode cX9_findsSteps 138 = .ok (.if_icmp .ge 34, 3) := by decide +kernel
theorem dX9_findsSteps_141 : decode cX9_findsSteps 141 = .ok (.iload 6, 2) := by decide +kernel
theorem dX9_findsSteps_143 : decode cX9_findsSteps 143 = .ok (.ldc 189, 2) := by decide +kernel
theorem dX9_findsSteps_145 : decode cX9_findsSteps 145 = .ok (.if_icmp .ge 27, 3) := by decide +kernel
theorem dX9_findsSteps_148 : decode cX9_findsSteps 148 = .ok (.aload_n 0, 1) := by decide +kernel
theorem dX9_findsSteps_149 : decode cX9_findsSteps 149 = .ok (.getfield 98, 3) := by decide +kernel
theorem dX9_findsSteps_152 : decode cX9_findsSteps 152 = .ok (.iload 8, 2) := by decide +kernel
theorem dX9_findsSteps_154 : decode cX9_findsSteps 154 = .ok (.iaload, 1) := by decide +kernel
theorem dX9_findsSteps_155 : decode cX9_findsSteps 155 = .ok (.iload 6, 2) := by decide +kernel
theorem dX9_findsSteps_157 : decode cX9_findsSteps 157 = .ok (.iadd, 1) := by decide +kernel
theorem dX9_findsSteps_158 : decode cX9_findsSteps 158 = .ok (.aload_n 0, 1) := by decide +kernel
theorem dX9_findsSteps_159 : decode cX9_findsSteps 159 = .ok (.getfield 98, 3) := by decide +kernel
theorem dX9_findsSteps_162 : decode cX9_findsSteps 162 = .ok (.iload 5, 2) := by decide +kernel
theorem dX9_findsSteps_164 : decode cX9_findsSteps 164 = .ok (.iaload, 1) := by decide +kernel
theorem dX9_findsSteps_165 : decode cX9_findsSteps 165 = .ok (.if_icmp .ge 7, 3) := by decide +kernel
theorem dX9_findsSteps_168 : decode cX9_findsSteps 168 = .ok (.iconst 1, 1) := by decide +kernel
theorem dX9_findsSteps_169 : decode cX9_findsSteps 169 = .ok (.goto 4, 3) := by decide +kernel
theorem dX9_findsSteps_172 : decode cX9_findsSteps 172 = .ok (.iconst 0, 1) := by decide +kernel
theorem dX9_findsSteps_173 : decode cX9_findsSteps 173 = .ok (.istore 9, 2) := by decide +kernel
theorem dX9_findsSteps_175 : decode cX9_findsSteps 175 = .ok (.aload_n 0, 1) := by decide +kernel
theorem dX9_findsSteps_176 : decode cX9_findsSteps 176 = .ok (.getfield 98, 3) := by decide +kernel
theorem dX9_findsSteps_179 : decode cX9_findsSteps 179 = .ok (.iload 5, 2) := by decide +kernel
theorem dX9_findsSteps_181 : decode cX9_findsSteps 181 = .ok (.iload 9, 2) := by decide +kernel
theorem dX9_findsSteps_183 : decode cX9_findsSteps 183 = .ok (.ifCond .eq 16, 3) := by decide +kernel
theorem dX9_findsSteps_186 : decode cX9_findsSteps 186 = .ok (.aload_n 0, 1) := by decide +kernel
theorem dX9_findsSteps_187 : decode cX9_findsSteps 187 = .ok (.getfield 98, 3) := by decide +kernel
theorem dX9_findsSteps_190 : decode cX9_findsSteps 190 = .ok (.iload 8, 2) := by decide +kernel
theorem dX9_findsSteps_192 : decode cX9_findsSteps 192 = .ok (.iaload, 1) := by decide +kernel
theorem dX9_findsSteps_193 : decode cX9_findsSteps 193 = .ok (.iload 6, 2) := by decide +kernel
theorem dX9_findsSteps_195 : decode cX9_findsSteps 195 = .ok (.iadd, 1) := by decide +kernel
theorem dX9_findsSteps_196 : decode cX9_findsSteps 196 = .ok (.goto 10, 3) := by decide +kernel
theorem dX9_findsSteps_199 : decode cX9_findsSteps 199 = .ok (.aload_n 0, 1) := by decide +kernel
theorem dX9_findsSteps_200 : decode cX9_findsSteps 200 = .ok (.getfield 98, 3) := by decide +kernel
theorem dX9_findsSteps_203 : decode cX9_findsSteps 203 = .ok (.iload 5, 2) := by decide +kernel
theorem dX9_findsSteps_205 : decode cX9_findsSteps 205 = .ok (.iaload, 1) := by decide +kernel
theorem dX9_findsSteps_206 : decode cX9_findsSteps 206 = .ok (.iastore, 1) := by decide +kernel
theorem dX9_findsSteps_207 : decode cX9_findsSteps 207 = .ok (.iload 4, 2) := by decide +kernel
theorem dX9_findsSteps_209 : decode cX9_findsSteps 209 = .ok (.ifCond .ne 8, 3) := by decide +kernel
theorem dX9_findsSteps_212 : decode cX9_findsSteps 212 = .ok (.iload 9, 2) := by decide +kernel
theorem dX9_findsSteps_214 : decode cX9_findsSteps 214 = .ok (.ifCond .eq 7, 3) := by decide +kernel
theorem dX9_findsSteps_217 : decode cX9_findsSteps 217 = .ok (.iconst 1, 1) := by decide +kernel
theorem dX9_findsSteps_218 : decode cX9_findsSteps 218 = .ok (.goto 4, 3) := by decide +kernel
theorem dX9_findsSteps_221 : decode cX9_findsSteps 221 = .ok (.iconst 0, 1) := by decide +kernel
theorem dX9_findsSteps_222 : decode cX9_findsSteps 222 = .ok (.istore 4, 2) := by decide +kernel
theorem dX9_findsSteps_224 : decode cX9_findsSteps 224 = .ok (.iinc 7 1, 3) := by decide +kernel
theorem dX9_findsSteps_227 : decode cX9_findsSteps 227 = .ok (.goto (-119), 3) := by decide +kernel
theorem dX9_findsSteps_230 : decode cX9_findsSteps 230 = .ok (.iinc 5 1, 3) := by decide +kernel
theorem dX9_findsSteps_233 : decode cX9_findsSteps 233 = .ok (.goto (-186), 3) := by decide +kernel
theorem dX9_findsSteps_236 : decode cX9_findsSteps 236 = .ok (.goto (-200), 3) := by decide +kernel
theorem dX9_findsSteps_239 : decode cX9_findsSteps 239 = .ok (.return_, 1) := by decide +kernel
theorem dX9_lives_0 : decode cX9_lives 0 = .ok (.aload_n 0, 1) := by decide +kernel
theorem dX9_lives_1 : decode cX9_lives 1 = .ok (.getfield 68, 3) := by decide +kernel
theorem dX9_lives_4 : decode cX9_lives 4 = .ok (.iload_n 1, 1) := by decide +kernel
theorem dX9_lives_5 : decode cX9_lives 5 = .ok (.iaload, 1) := by decide +kernel
theorem dX9_lives_6 : decode cX9_lives 6 = .ok (.ifCond .le 7, 3) := by decide +kernel
theorem dX9_lives_9 : decode cX9_lives 9 = .ok (.iconst 1, 1) := by decide +kernel
theorem dX9_lives_10 : decode cX9_lives 10 = .ok (.goto 4, 3) := by decide +kernel
theorem dX9_lives_13 : decode cX9_lives 13 = .ok (.iconst 0, 1) := by decide +kernel
theorem dX9_lives_14 : decode cX9_lives 14 = .ok (.ireturn, 1) := by decide +kernel
theorem dX9_sounds_0 : decode cX9_sounds 0 = .ok (.aload_n 0, 1) := by decide +kernel
theorem dX9_sounds_1 : decode cX9_sounds 1 = .ok (.iload_n 1, 1) := by decide +kernel
theorem dX9_sounds_2 : decode cX9_sounds 2 = .ok (.iconst 3, 1) := by decide +kernel
theorem dX9_sounds_3 : decode cX9_sounds 3 = .ok (.iconst 3, 1) := by decide +kernel
theorem dX9_sounds_4 : decode cX9_sounds 4 = .ok (.invokevirtual 196, 3) := by decide +kernel
theorem dX9_sounds_7 : decode cX9_sounds 7 = .ok (.iconst 0, 1) := by decide +kernel
theorem dX9_sounds_8 : decode cX9_sounds 8 = .ok (.istore_n 3, 1) := by decide +kernel
theorem dX9_sounds_9 : decode cX9_sounds 9 = .ok (.iconst 1, 1) := by decide +kernel
theorem dX9_sounds_10 : decode cX9_sounds 10 = .ok (.istore 4, 2) := by decide +kernel
theorem dX9_sounds_12 : decode cX9_sounds 12 = .ok (.iload 4, 2) := by decide +kernel
theorem dX9_sounds_14 : decode cX9_sounds 14 = .ok (.aload_n 0, 1) := by decide +kernel
theorem dX9_sounds_15 : decode cX9_sounds 15 = .ok (.getfield 34, 3) := by decide +kernel
theorem dX9_sounds_18 : decode cX9_sounds 18 = .ok (.if_icmp .ge 45, 3) := by decide +kernel
theorem dX9_sounds_21 : decode cX9_sounds 21 = .ok (.aload_n 0, 1) := by decide +kernel
theorem dX9_sounds_22 : decode cX9_sounds 22 = .ok (.iload 4, 2) := by decide +kernel
theorem dX9_sounds_24 : decode cX9_sounds 24 = .ok (.invokevirtual 200, 3) := by decide +kernel
theorem dX9_sounds_27 : decode cX9_sounds 27 = .ok (.ifCond .eq 30, 3) := by decide +kernel
theorem dX9_sounds_30 : decode cX9_sounds 30 = .ok (.aload_n 0, 1) := by decide +kernel
theorem dX9_sounds_31 : decode cX9_sounds 31 = .ok (.getfield 98, 3) := by decide +kernel
theorem dX9_sounds_34 : decode cX9_sounds 34 = .ok (.aload_n 0, 1) := by decide +kernel
theorem dX9_sounds_35 : decode cX9_sounds 35 = .ok (.getfield 65, 3) := by decide +kernel
theorem dX9_sounds_38 : decode cX9_sounds 38 = .ok (.iload 4, 2) := by decide +kernel
theorem dX9_sounds_40 : decode cX9_sounds 40 = .ok (.iaload, 1) := by decide +kernel
theorem dX9_sounds_41 : decode cX9_sounds 41 = .ok (.iaload, 1) := by decide +kernel
theorem dX9_sounds_42 : decode cX9_sounds 42 = .ok (.iload_n 2, 1) := by decide +kernel
theorem dX9_sounds_43 : decode cX9_sounds 43 = .ok (.if_icmp .gt 14, 3) := by decide +kernel
theorem dX9_sounds_46 : decode cX9_sounds 46 = .ok (.aload_n 0, 1) := by decide +kernel
theorem dX9_sounds_47 : decode cX9_sounds 47 = .ok (.getfield 80, 3) := by decide +kernel
theorem dX9_sounds_50 : decode cX9_sounds 50 = .ok (.iload 4, 2) := by decide +kernel
theorem dX9_sounds_52 : decode cX9_sounds 52 = .ok (.iload_n 1, 1) := by decide +kernel
theorem dX9_sounds_53 : decode cX9_sounds 53 = .ok (.iastore, 1) := by decide +kernel
theorem dX9_sounds_54 : decode cX9_sounds 54 = .ok (.iinc 3 1, 3) := by decide +kernel
theorem dX9_sounds_57 : decode cX9_sounds 57 = .ok (.iinc 4 1, 3) := by decide +kernel
theorem dX9_sounds_60 : decode cX9_sounds 60 = .ok (.goto (-48), 3) := by decide +kernel
theorem dX9_sounds_63 : decode cX9_sounds 63 = .ok (.iload_n 3, 1) := by decide +kernel
theorem dX9_sounds_64 : decode cX9_sounds 64 = .ok (.ireturn, 1) := by decide +kernel
theorem dX9_isBag_0 : decode cX9_isBag 0 = .ok (.aload_n 0, 1) := by decide +kernel
theorem dX9_isBag_1 : decode cX9_isBag 1 = .ok (.getfield 50, 3) := by decide +kernel
theorem dX9_isBag_4 : decode cX9_isBag 4 = .ok (.iload_n 1, 1) := by decide +kernel
theorem dX9_isBag_5 : decode cX9_isBag 5 = .ok (.iaload, 1) := by decide +kernel
theorem dX9_isBag_6 : decode cX9_isBag 6 = .ok (.bipush 6, 2) := by decide +kernel
theorem dX9_isBag_8 : decode cX9_isBag 8 = .ok (.if_icmp .ne 7, 3) := by decide +kernel
theorem dX9_isBag_11 : decode cX9_isBag 11 = .ok (.iconst 1, 1) := by decide +kernel
theorem dX9_isBag_12 : decode cX9_isBag 12 = .ok (.goto 4, 3) := by decide +kernel
theorem dX9_isBag_15 : decode cX9_isBag 15 = .ok (.iconst 0, 1) := by decide +kernel
theorem dX9_isBag_16 : decode cX9_isBag 16 = .ok (.ireturn, 1) := by decide +kernel
theorem dX9_isWithin_0 : decode cX9_isWithin 0 = .ok (.aload_n 0, 1) := by decide +kernel
theorem dX9_isWithin_1 : decode cX9_isWithin 1 = .ok (.getfield 83, 3) := by decide +kernel
theorem dX9_isWithin_4 : decode cX9_isWithin 4 = .ok (.iload_n 1, 1) := by decide +kernel
theorem dX9_isWithin_5 : decode cX9_isWithin 5 = .ok (.iaload, 1) := by decide +kernel
theorem dX9_isWithin_6 : decode cX9_isWithin 6 = .ok (.istore_n 3, 1) := by decide +kernel
theorem dX9_isWithin_7 : decode cX9_isWithin 7 = .ok (.iload_n 3, 1) := by decide +kernel
theorem dX9_isWithin_8 : decode cX9_isWithin 8 = .ok (.bipush (-3), 2) := by decide +kernel
theorem dX9_isWithin_10 : decode cX9_isWithin 10 = .ok (.if_icmp .gt 24, 3) := by decide +kernel
theorem dX9_isWithin_13 : decode cX9_isWithin 13 = .ok (.bipush (-3), 2) := by decide +kernel
theorem dX9_isWithin_15 : decode cX9_isWithin 15 = .ok (.iload_n 3, 1) := by decide +kernel
theorem dX9_isWithin_16 : decode cX9_isWithin 16 = .ok (.isub, 1) := by decide +kernel
theorem dX9_isWithin_17 : decode cX9_isWithin 17 = .ok (.iload_n 2, 1) := by decide +kernel
theorem dX9_isWithin_18 : decode cX9_isWithin 18 = .ok (.if_icmp .eq 16, 3) := by decide +kernel
theorem dX9_isWithin_21 : decode cX9_isWithin 21 = .ok (.aload_n 0, 1) := by decide +kernel
theorem dX9_isWithin_22 : decode cX9_isWithin 22 = .ok (.getfield 83, 3) := by decide +kernel
theorem dX9_isWithin_25 : decode cX9_isWithin 25 = .ok (.bipush (-3), 2) := by decide +kernel
theorem dX9_isWithin_27 : decode cX9_isWithin 27 = .ok (.iload_n 3, 1) := by decide +kernel
theorem dX9_isWithin_28 : decode cX9_isWithin 28 = .ok (.isub, 1) := by decide +kernel
theorem dX9_isWithin_29 : decode cX9_isWithin 29 = .ok (.iaload, 1) := by decide +kernel
theorem dX9_isWithin_30 : decode cX9_isWithin 30 = .ok (.istore_n 3, 1) := by decide +kernel
theorem dX9_isWithin_31 : decode cX9_isWithin 31 = .ok (.goto (-24), 3) := by decide +kernel
theorem dX9_isWithin_34 : decode cX9_isWithin 34 = .ok (.iload_n 3, 1) := by decide +kernel
theorem dX9_isWithin_35 : decode cX9_isWithin 35 = .ok (.bipush (-3), 2) := by decide +kernel
theorem dX9_isWithin_37 : decode cX9_isWithin 37 = .ok (.if_icmp .gt 7, 3) := by decide +kernel
theorem dX9_isWithin_40 : decode cX9_isWithin 40 = .ok (.iconst 1, 1) := by decide +kernel
theorem dX9_isWithin_41 : decode cX9_isWithin 41 = .ok (.goto 4, 3) := by decide +kernel
theorem dX9_isWithin_44 : decode cX9_isWithin 44 = .ok (.iconst 0, 1) := by decide +kernel
theorem dX9_isWithin_45 : decode cX9_isWithin 45 = .ok (.ireturn, 1) := by decide +kernel
theorem dX9_outermost_0 : decode cX9_outermost 0 = .ok (.aload_n 0, 1) := by decide +kernel
theorem dX9_outermost_1 : decode cX9_outermost 1 = .ok (.getfield 83, 3) := by decide +kernel
theorem dX9_outermost_4 : decode cX9_outermost 4 = .ok (.iload_n 1, 1) := by decide +kernel
theorem dX9_outermost_5 : decode cX9_outermost 5 = .ok (.iaload, 1) := by decide +kernel
theorem dX9_outermost_6 : decode cX9_outermost 6 = .ok (.istore_n 2, 1) := by decide +kernel
theorem dX9_outermost_7 : decode cX9_outermost 7 = .ok (.iload_n 2, 1) := by decide +kernel
theorem dX9_outermost_8 : decode cX9_outermost 8 = .ok (.bipush (-3), 2) := by decide +kernel
theorem dX9_outermost_10 : decode cX9_outermost 10 = .ok (.if_icmp .gt 16, 3) := by decide +kernel
theorem dX9_outermost_13 : decode cX9_outermost 13 = .ok (.aload_n 0, 1) := by decide +kernel
theorem dX9_outermost_14 : decode cX9_outermost 14 = .ok (.getfield 83, 3) := by decide +kernel
theorem dX9_outermost_17 : decode cX9_outermost 17 = .ok (.bipush (-3), 2) := by decide +kernel
theorem dX9_outermost_19 : decode cX9_outermost 19 = .ok (.iload_n 2, 1) := by decide +kernel
theorem dX9_outermost_20 : decode cX9_outermost 20 = .ok (.isub, 1) := by decide +kernel
theorem dX9_outermost_21 : decode cX9_outermost 21 = .ok (.iaload, 1) := by decide +kernel
theorem dX9_outermost_22 : decode cX9_outermost 22 = .ok (.istore_n 2, 1) := by decide +kernel
theorem dX9_outermost_23 : decode cX9_outermost 23 = .ok (.goto (-16), 3) := by decide +kernel
theorem dX9_outermost_26 : decode cX9_outermost 26 = .ok (.iload_n 2, 1) := by decide +kernel
theorem dX9_outermost_27 : decode cX9_outermost 27 = .ok (.ireturn, 1) := by decide +kernel
theorem dX9_wholeWeight_0 : decode cX9_wholeWeight 0 = .ok (.aload_n 0, 1) := by decide +kernel
theorem dX9_wholeWeight_1 : decode cX9_wholeWeight 1 = .ok (.getfield 17, 3) := by decide +kernel
theorem dX9_wholeWeight_4 : decode cX9_wholeWeight 4 = .ok (.aload_n 0, 1) := by decide +kernel
theorem dX9_wholeWeight_5 : decode cX9_wholeWeight 5 = .ok (.getfield 50, 3) := by decide +kernel
theorem dX9_wholeWeight_8 : decode cX9_wholeWeight 8 = .ok (.iload_n 1, 1) := by decide +kernel
theorem dX9_wholeWeight_9 : decode cX9_wholeWeight 9 = .ok (.iaload, 1) := by decide +kernel
theorem dX9_wholeWeight_10 : decode cX9_wholeWeight 10 = .ok (.iaload, 1) := by decide +kernel
theorem dX9_wholeWeight_11 : decode cX9_wholeWeight 11 = .ok (.istore_n 2, 1) := by decide +kernel
theorem dX9_wholeWeight_12 : decode cX9_wholeWeight 12 = .ok (.iconst 0, 1) := by decide +kernel
theorem dX9_wholeWeight_13 : decode cX9_wholeWeight 13 = .ok (.istore_n 3, 1) := by decide +kernel
theorem dX9_wholeWeight_14 : decode cX9_wholeWeight 14 = .ok (.iload_n 3, 1) := by decide +kernel
theorem dX9_wholeWeight_15 : decode cX9_wholeWeight 15 = .ok (.aload_n 0, 1) := by decide +kernel
theorem dX9_wholeWeight_16 : decode cX9_wholeWeight 16 = .ok (.getfield 162, 3) := by decide +kernel
theorem dX9_wholeWeight_19 : decode cX9_wholeWeight 19 = .ok (.if_icmp .ge 41, 3) := by decide +kernel
theorem dX9_wholeWeight_22 : decode cX9_wholeWeight 22 = .ok (.iload_n 2, 1) := by decide +kernel
theorem dX9_wholeWeight_23 : decode cX9_wholeWeight 23 = .ok (.iload_n 3, 1) := by decide +kernel
theorem dX9_wholeWeight_24 : decode cX9_wholeWeight 24 = .ok (.iload_n 1, 1) := by decide +kernel
theorem dX9_wholeWeight_25 : decode cX9_wholeWeight 25 = .ok (.if_icmp .eq 26, 3) := by decide +kernel
theorem dX9_wholeWeight_28 : decode cX9_wholeWeight 28 = .ok (.aload_n 0, 1) := by decide +kernel
theorem dX9_wholeWeight_29 : decode cX9_wholeWeight 29 = .ok (.iload_n 3, 1) := by decide +kernel
theorem dX9_wholeWeight_30 : decode cX9_wholeWeight 30 = .ok (.iload_n 1, 1) := by decide +kernel
theorem dX9_wholeWeight_31 : decode cX9_wholeWeight 31 = .ok (.invokevirtual 203, 3) := by decide +kernel
theorem dX9_wholeWeight_34 : decode cX9_wholeWeight 34 = .ok (.ifCond .eq 17, 3) := by decide +kernel
theorem dX9_wholeWeight_37 : decode cX9_wholeWeight 37 = .ok (.aload_n 0, 1) := by decide +kernel
theorem dX9_wholeWeight_38 : decode cX9_wholeWeight 38 = .ok (.getfield 17, 3) := by decide +kernel
theorem dX9_wholeWeight_41 : decode cX9_wholeWeight 41 = .ok (.aload_n 0, 1) := by decide +kernel
theorem dX9_wholeWeight_42 : decode cX9_wholeWeight 42 = .ok (.getfield 50, 3) := by decide +kernel
theorem dX9_wholeWeight_45 : decode cX9_wholeWeight 45 = .ok (.iload_n 3, 1) := by decide +kernel
theorem dX9_wholeWeight_46 : decode cX9_wholeWeight 46 = .ok (.iaload, 1) := by decide +kernel
theorem dX9_wholeWeight_47 : decode cX9_wholeWeight 47 = .ok (.iaload, 1) := by decide +kernel
theorem dX9_wholeWeight_48 : decode cX9_wholeWeight 48 = .ok (.goto 4, 3) := by decide +kernel
theorem dX9_wholeWeight_51 : decode cX9_wholeWeight 51 = .ok (.iconst 0, 1) := by decide +kernel
theorem dX9_wholeWeight_52 : decode cX9_wholeWeight 52 = .ok (.iadd, 1) := by decide +kernel
theorem dX9_wholeWeight_53 : decode cX9_wholeWeight 53 = .ok (.istore_n 2, 1) := by decide +kernel
theorem dX9_wholeWeight_54 : decode cX9_wholeWeight 54 = .ok (.iinc 3 1, 3) := by decide +kernel
theorem dX9_wholeWeight_57 : decode cX9_wholeWeight 57 = .ok (.goto (-43), 3) := by decide +kernel
theorem dX9_wholeWeight_60 : decode cX9_wholeWeight 60 = .ok (.iload_n 2, 1) := by decide +kernel
theorem dX9_wholeWeight_61 : decode cX9_wholeWeight 61 = .ok (.ireturn, 1) := by decide +kernel
theorem dX9_carriedWeight_0 : decode cX9_carriedWeight 0 = .ok (.iconst 0, 1) := by decide +kernel
theorem dX9_carriedWeight_1 : decode cX9_carriedWeight 1 = .ok (.istore_n 1, 1) := by decide +kernel
theorem dX9_carriedWeight_2 : decode cX9_carriedWeight 2 = .ok (.iconst 0, 1) := by decide +kernel
theorem dX9_carriedWeight_3 : decode cX9_carriedWeight 3 = .ok (.istore_n 2, 1) := by decide +kernel
theorem dX9_carriedWeight_4 : decode cX9_carriedWeight 4 = .ok (.iload_n 2, 1) := by decide +kernel
theorem dX9_carriedWeight_5 : decode cX9_carriedWeight 5 = .ok (.aload_n 0, 1) := by decide +kernel
theorem dX9_carriedWeight_6 : decode cX9_carriedWeight 6 = .ok (.getfield 162, 3) := by decide +kernel
theorem dX9_carriedWeight_9 : decode cX9_carriedWeight 9 = .ok (.if_icmp .ge 36, 3) := by decide +kernel
theorem dX9_carriedWeight_12 : decode cX9_carriedWeight 12 = .ok (.iload_n 1, 1) := by decide +kernel
theorem dX9_carriedWeight_13 : decode cX9_carriedWeight 13 = .ok (.aload_n 0, 1) := by decide +kernel
theorem dX9_carriedWeight_14 : decode cX9_carriedWeight 14 = .ok (.iload_n 2, 1) := by decide +kernel
theorem dX9_carriedWeight_15 : decode cX9_carriedWeight 15 = .ok (.invokevirtual 206, 3) := by decide +kernel
theorem dX9_carriedWeight_18 : decode cX9_carriedWeight 18 = .ok (.iconst (-1), 1) := by decide +kernel
theorem dX9_carriedWeight_19 : decode cX9_carriedWeight 19 = .ok (.if_icmp .ne 17, 3) := by decide +kernel
theorem dX9_carriedWeight_22 : decode cX9_carriedWeight 22 = .ok (.aload_n 0, 1) := by decide +kernel
theorem dX9_carriedWeight_23 : decode cX9_carriedWeight 23 = .ok (.getfield 17, 3) := by decide +kernel
theorem dX9_carriedWeight_26 : decode cX9_carriedWeight 26 = .ok (.aload_n 0, 1) := by decide +kernel
theorem dX9_carriedWeight_27 : decode cX9_carriedWeight 27 = .ok (.getfield 50, 3) := by decide +kernel
theorem dX9_carriedWeight_30 : decode cX9_carriedWeight 30 = .ok (.iload_n 2, 1) := by decide +kernel
theorem dX9_carriedWeight_31 : decode cX9_carriedWeight 31 = .ok (.iaload, 1) := by decide +kernel
theorem dX9_carriedWeight_32 : decode cX9_carriedWeight 32 = .ok (.iaload, 1) := by decide +kernel
theorem dX9_carriedWeight_33 : decode cX9_carriedWeight 33 = .ok (.goto 4, 3) := by decide +kernel
theorem dX9_carriedWeight_36 : decode cX9_carriedWeight 36 = .ok (.iconst 0, 1) := by decide +kernel
theorem dX9_carriedWeight_37 : decode cX9_carriedWeight 37 = .ok (.iadd, 1) := by decide +kernel
theorem dX9_carriedWeight_38 : decode cX9_carriedWeight 38 = .ok (.istore_n 1, 1) := by decide +kernel
theorem dX9_carriedWeight_39 : decode cX9_carriedWeight 39 = .ok (.iinc 2 1, 3) := by decide +kernel
theorem dX9_carriedWeight_42 : decode cX9_carriedWeight 42 = .ok (.goto (-38), 3) := by decide +kernel
theorem dX9_carriedWeight_45 : decode cX9_carriedWeight 45 = .ok (.iload_n 1, 1) := by decide +kernel
theorem dX9_carriedWeight_46 : decode cX9_carriedWeight 46 = .ok (.ireturn, 1) := by decide +kernel
theorem dX9_carries_0 : decode cX9_carries 0 = .ok (.iconst 0, 1) := by decide +kernel
theorem dX9_carries_1 : decode cX9_carries 1 = .ok (.istore_n 2, 1) := by decide +kernel
theorem dX9_carries_2 : decode cX9_carries 2 = .ok (.iconst 0, 1) := by decide +kernel
theorem dX9_carries_3 : decode cX9_carries 3 = .ok (.istore_n 3, 1) := by decide +kernel
theorem dX9_carries_4 : decode cX9_carries 4 = .ok (.iload_n 3, 1) := by decide +kernel
theorem dX9_carries_5 : decode cX9_carries 5 = .ok (.aload_n 0, 1) := by decide +kernel
theorem dX9_carries_6 : decode cX9_carries 6 = .ok (.getfield 162, 3) := by decide +kernel
theorem dX9_carries_9 : decode cX9_carries 9 = .ok (.if_icmp .ge 39, 3) := by decide +kernel
theorem dX9_carries_12 : decode cX9_carries 12 = .ok (.iload_n 2, 1) := by decide +kernel
theorem dX9_carries_13 : decode cX9_carries 13 = .ok (.ifCond .ne 23, 3) := by decide +kernel
theorem dX9_carries_16 : decode cX9_carries 16 = .ok (.aload_n 0, 1) := by decide +kernel
theorem dX9_carries_17 : decode cX9_carries 17 = .ok (.getfield 50, 3) := by decide +kernel
theorem dX9_carries_20 : decode cX9_carries 20 = .ok (.iload_n 3, 1) := by decide +kernel
theorem dX9_carries_21 : decode cX9_carries 21 = .ok (.iaload, 1) := by decide +kernel
theorem dX9_carries_22 : decode cX9_carries 22 = .ok (.iload_n 1, 1) := by decide +kernel
theorem dX9_carries_23 : decode cX9_carries 23 = .ok (.if_icmp .ne 17, 3) := by decide +kernel
theorem dX9_carries_26 : decode cX9_carries 26 = .ok (.aload_n 0, 1) := by decide +kernel
theorem dX9_carries_27 : decode cX9_carries 27 = .ok (.getfield 83, 3) := by decide +kernel
theorem dX9_carries_30 : decode cX9_carries 30 = .ok (.iload_n 3, 1) := by decide +kernel
theorem dX9_carries_31 : decode cX9_carries 31 = .ok (.iaload, 1) := by decide +kernel
theorem dX9_carries_32 : decode cX9_carries 32 = .ok (.iconst (-1), 1) := by decide +kernel
theorem dX9_carries_33 : decode cX9_carries 33 = .ok (.if_icmp .ne 7, 3) := by decide +kernel
theorem dX9_carries_36 : decode cX9_carries 36 = .ok (.iconst 1, 1) := by decide +kernel
theorem dX9_carries_37 : decode cX9_carries 37 = .ok (.goto 4, 3) := by decide +kernel
theorem dX9_carries_40 : decode cX9_carries 40 = .ok (.iconst 0, 1) := by decide +kernel
theorem dX9_carries_41 : decode cX9_carries 41 = .ok (.istore_n 2, 1) := by decide +kernel
theorem dX9_carries_42 : decode cX9_carries 42 = .ok (.iinc 3 1, 3) := by decide +kernel
theorem dX9_carries_45 : decode cX9_carries 45 = .ok (.goto (-41), 3) := by decide +kernel
theorem dX9_carries_48 : decode cX9_carries 48 = .ok (.iload_n 2, 1) := by decide +kernel
theorem dX9_carries_49 : decode cX9_carries 49 = .ok (.ireturn, 1) := by decide +kernel
theorem dX9_carriesAnywhere_0 : decode cX9_carriesAnywhere 0 = .ok (.iconst 0, 1) := by decide +kernel
theorem dX9_carriesAnywhere_1 : decode cX9_carriesAnywhere 1 = .ok (.istore_n 2, 1) := by decide +kernel
theorem dX9_carriesAnywhere_2 : decode cX9_carriesAnywhere 2 = .ok (.iconst 0, 1) := by decide +kernel
theorem dX9_carriesAnywhere_3 : decode cX9_carriesAnywhere 3 = .ok (.istore_n 3, 1) := by decide +kernel
theorem dX9_carriesAnywhere_4 : decode cX9_carriesAnywhere 4 = .ok (.iload_n 3, 1) := by decide +kernel
theorem dX9_carriesAnywhere_5 : decode cX9_carriesAnywhere 5 = .ok (.aload_n 0, 1) := by decide +kernel
theorem dX9_carriesAnywhere_6 : decode cX9_carriesAnywhere 6 = .ok (.getfield 162, 3) := by decide +kernel
theorem dX9_carriesAnywhere_9 : decode cX9_carriesAnywhere 9 = .ok (.if_icmp .ge 38, 3) := by decide +kernel
theorem dX9_carriesAnywhere_12 : decode cX9_carriesAnywhere 12 = .ok (.iload_n 2, 1) := by decide +kernel
theorem dX9_carriesAnywhere_13 : decode cX9_carriesAnywhere 13 = .ok (.ifCond .ne 22, 3) := by decide +kernel
theorem dX9_carriesAnywhere_16 : decode cX9_carriesAnywhere 16 = .ok (.aload_n 0, 1) := by decide +kernel
theorem dX9_carriesAnywhere_17 : decode cX9_carriesAnywhere 17 = .ok (.getfield 50, 3) := by decide +kernel
theorem dX9_carriesAnywhere_20 : decode cX9_carriesAnywhere 20 = .ok (.iload_n 3, 1) := by decide +kernel
theorem dX9_carriesAnywhere_21 : decode cX9_carriesAnywhere 21 = .ok (.iaload, 1) := by decide +kernel
theorem dX9_carriesAnywhere_22 : decode cX9_carriesAnywhere 22 = .ok (.iload_n 1, 1) := by decide +kernel
theorem dX9_carriesAnywhere_23 : decode cX9_carriesAnywhere 23 = .ok (.if_icmp .ne 16, 3) := by decide +kernel
theorem dX9_carriesAnywhere_26 : decode cX9_carriesAnywhere 26 = .ok (.aload_n 0, 1) := by decide +kernel
theorem dX9_carriesAnywhere_27 : decode cX9_carriesAnywhere 27 = .ok (.iload_n 3, 1) := by decide +kernel
theorem dX9_carriesAnywhere_28 : decode cX9_carriesAnywhere 28 = .ok (.invokevirtual 206, 3) := by decide +kernel
theorem dX9_carriesAnywhere_31 : decode cX9_carriesAnywhere 31 = .ok (.iconst (-1), 1) := by decide +kernel
theorem dX9_carriesAnywhere_32 : decode cX9_carriesAnywhere 32 = .ok (.if_icmp .ne 7, 3) := by decide +kernel
theorem dX9_carriesAnywhere_35 : decode cX9_carriesAnywhere 35 = .ok (.iconst 1, 1) := by decide +kernel
theorem dX9_carriesAnywhere_36 : decode cX9_carriesAnywhere 36 = .ok (.goto 4, 3) := by decide +kernel
theorem dX9_carriesAnywhere_39 : decode cX9_carriesAnywhere 39 = .ok (.iconst 0, 1) := by decide +kernel
theorem dX9_carriesAnywhere_40 : decode cX9_carriesAnywhere 40 = .ok (.istore_n 2, 1) := by decide +kernel
theorem dX9_carriesAnywhere_41 : decode cX9_carriesAnywhere 41 = .ok (.iinc 3 1, 3) := by decide +kernel
theorem dX9_carriesAnywhere_44 : decode cX9_carriesAnywhere 44 = .ok (.goto (-40), 3) := by decide +kernel
theorem dX9_carriesAnywhere_47 : decode cX9_carriesAnywhere 47 = .ok (.iload_n 2, 1) := by decide +kernel
theorem dX9_carriesAnywhere_48 : decode cX9_carriesAnywhere 48 = .ok (.ireturn, 1) := by decide +kernel
theorem dX9_speedOf_0 : decode cX9_speedOf 0 = .ok (.aload_n 0, 1) := by decide +kernel
theorem dX9_speedOf_1 : decode cX9_speedOf 1 = .ok (.getfield 77, 3) := by decide +kernel
theorem dX9_speedOf_4 : decode cX9_speedOf 4 = .ok (.iload_n 1, 1) := by decide +kernel
theorem dX9_speedOf_5 : decode cX9_speedOf 5 = .ok (.iaload, 1) := by decide +kernel
theorem dX9_speedOf_6 : decode cX9_speedOf 6 = .ok (.ifCond .le 12, 3) := by decide +kernel
theorem dX9_speedOf_9 : decode cX9_speedOf 9 = .ok (.aload_n 0, 1) := by decide +kernel
theorem dX9_speedOf_10 : decode cX9_speedOf 10 = .ok (.getfield 74, 3) := by decide +kernel
theorem dX9_speedOf_13 : decode cX9_speedOf 13 = .ok (.iload_n 1, 1) := by decide +kernel
theorem dX9_speedOf_14 : decode cX9_speedOf 14 = .ok (.iaload, 1) := by decide +kernel
theorem dX9_speedOf_15 : decode cX9_speedOf 15 = .ok (.goto 9, 3) := by decide +kernel
theorem dX9_speedOf_18 : decode cX9_speedOf 18 = .ok (.aload_n 0, 1) := by decide +kernel
theorem dX9_speedOf_19 : decode cX9_speedOf 19 = .ok (.getfield 41, 3) := by decide +kernel
theorem dX9_speedOf_22 : decode cX9_speedOf 22 = .ok (.iload_n 1, 1) := by decide +kernel
theorem dX9_speedOf_23 : decode cX9_speedOf 23 = .ok (.iaload, 1) := by decide +kernel
theorem dX9_speedOf_24 : decode cX9_speedOf 24 = .ok (.ireturn, 1) := by decide +kernel
theorem dX9_isWorldOver_0 : decode cX9_isWorldOver 0 = .ok (.aload_n 0, 1) := by decide +kernel
theorem dX9_isWorldOver_1 : decode cX9_isWorldOver 1 = .ok (.getfield 68, 3) := by decide +kernel
theorem dX9_isWorldOver_4 : decode cX9_isWorldOver 4 = .ok (.iconst 0, 1) := by decide +kernel
theorem dX9_isWorldOver_5 : decode cX9_isWorldOver 5 = .ok (.iaload, 1) := by decide +kernel
theorem dX9_isWorldOver_6 : decode cX9_isWorldOver 6 = .ok (.ifCond .le 5, 3) := by decide +kernel
theorem dX9_isWorldOver_9 : decode cX9_isWorldOver 9 = .ok (.iconst 0, 1) := by decide +kernel
theorem dX9_isWorldOver_10 : decode cX9_isWorldOver 10 = .ok (.ireturn, 1) := by decide +kernel
theorem dX9_isWorldOver_11 : decode cX9_isWorldOver 11 = .ok (.iconst 0, 1) := by decide +kernel
theorem dX9_isWorldOver_12 : decode cX9_isWorldOver 12 = .ok (.istore_n 1, 1) := by decide +kernel
theorem dX9_isWorldOver_13 : decode cX9_isWorldOver 13 = .ok (.iload_n 1, 1) := by decide +kernel
theorem dX9_isWorldOver_14 : decode cX9_isWorldOver 14 = .ok (.aload_n 0, 1) := by decide +kernel
theorem dX9_isWorldOver_15 : decode cX9_isWorldOver 15 = .ok (.getfield 162, 3) := by decide +kernel
theorem dX9_isWorldOver_18 : decode cX9_isWorldOver 18 = .ok (.if_icmp .ge 41, 3) := by decide +kernel
theorem dX9_isWorldOver_21 : decode cX9_isWorldOver 21 = .ok (.aload_n 0, 1) := by decide +kernel
theorem dX9_isWorldOver_22 : decode cX9_isWorldOver 22 = .ok (.getfield 92, 3) := by decide +kernel
theorem dX9_isWorldOver_25 : decode cX9_isWorldOver 25 = .ok (.iload_n 1, 1) := by decide +kernel
theorem dX9_isWorldOver_26 : decode cX9_isWorldOver 26 = .ok (.aload_n 0, 1) := by decide +kernel
theorem dX9_isWorldOver_27 : decode cX9_isWorldOver 27 = .ok (.iload_n 1, 1) := by decide +kernel
theorem dX9_isWorldOver_28 : decode cX9_isWorldOver 28 = .ok (.invokevirtual 206, 3) := by decide +kernel
theorem dX9_isWorldOver_31 : decode cX9_isWorldOver 31 = .ok (.iconst (-1), 1) := by decide +kernel
theorem dX9_isWorldOver_32 : decode cX9_isWorldOver 32 = .ok (.if_icmp .ne 7, 3) := by decide +kernel
theorem dX9_isWorldOver_35 : decode cX9_isWorldOver 35 = .ok (.iconst 1, 1) := by decide +kernel
theorem dX9_isWorldOver_36 : decode cX9_isWorldOver 36 = .ok (.goto 4, 3) := by decide +kernel
theorem dX9_isWorldOver_39 : decode cX9_isWorldOver 39 = .ok (.iconst 0, 1) := by decide +kernel
theorem dX9_isWorldOver_40 : decode cX9_isWorldOver 40 = .ok (.bastore, 1) := by decide +kernel
theorem dX9_isWorldOver_41 : decode cX9_isWorldOver 41 = .ok (.aload_n 0, 1) := by decide +kernel
theorem dX9_isWorldOver_42 : decode cX9_isWorldOver 42 = .ok (.getfield 95, 3) := by decide +kernel
theorem dX9_isWorldOver_45 : decode cX9_isWorldOver 45 = .ok (.iload_n 1, 1) := by decide +kernel
theorem dX9_isWorldOver_46 : decode cX9_isWorldOver 46 = .ok (.aload_n 0, 1) := by decide +kernel
theorem dX9_isWorldOver_47 : decode cX9_isWorldOver 47 = .ok (.getfield 83, 3) := by decide +kernel
theorem dX9_isWorldOver_50 : decode cX9_isWorldOver 50 = .ok (.iload_n 1, 1) := by decide +kernel
theorem dX9_isWorldOver_51 : decode cX9_isWorldOver 51 = .ok (.iaload, 1) := by decide +kernel
theorem dX9_isWorldOver_52 : decode cX9_isWorldOver 52 = .ok (.iastore, 1) := by decide +kernel
theorem dX9_isWorldOver_53 : decode cX9_isWorldOver 53 = .ok (.iinc 1 1, 3) := by decide +kernel
theorem dX9_isWorldOver_56 : decode cX9_isWorldOver 56 = .ok (.goto (-43), 3) := by decide +kernel
theorem dX9_isWorldOver_59 : decode cX9_isWorldOver 59 = .ok (.iconst 0, 1) := by decide +kernel
theorem dX9_isWorldOver_60 : decode cX9_isWorldOver 60 = .ok (.istore_n 1, 1) := by decide +kernel
theorem dX9_isWorldOver_61 : decode cX9_isWorldOver 61 = .ok (.iload_n 1, 1) := by decide +kernel
theorem dX9_isWorldOver_62 : decode cX9_isWorldOver 62 = .ok (.aload_n 0, 1) := by decide +kernel
theorem dX9_isWorldOver_63 : decode cX9_isWorldOver 63 = .ok (.getfield 162, 3) := by decide +kernel
theorem dX9_isWorldOver_66 : decode cX9_isWorldOver 66 = .ok (.if_icmp .ge 40, 3) := by decide +kernel
theorem dX9_isWorldOver_69 : decode cX9_isWorldOver 69 = .ok (.aload_n 0, 1) := by decide +kernel
theorem dX9_isWorldOver_70 : decode cX9_isWorldOver 70 = .ok (.getfield 83, 3) := by decide +kernel
theorem dX9_isWorldOver_73 : decode cX9_isWorldOver 73 = .ok (.iload_n 1, 1) := by decide +kernel
theorem dX9_isWorldOver_74 : decode cX9_isWorldOver 74 = .ok (.aload_n 0, 1) := by decide +kernel
theorem dX9_isWorldOver_75 : decode cX9_isWorldOver 75 = .ok (.getfield 83, 3) := by decide +kernel
theorem dX9_isWorldOver_78 : decode cX9_isWorldOver 78 = .ok (.iload_n 1, 1) := by decide +kernel
theorem dX9_isWorldOver_79 : decode cX9_isWorldOver 79 = .ok (.iaload, 1) := by decide +kernel
theorem dX9_isWorldOver_80 : decode cX9_isWorldOver 80 = .ok (.iconst (-1), 1) := by decide +kernel
theorem dX9_isWorldOver_81 : decode cX9_isWorldOver 81 = .ok (.if_icmp .ne 12, 3) := by decide +kernel
theorem dX9_isWorldOver_84 : decode cX9_isWorldOver 84 = .ok (.aload_n 0, 1) := by decide +kernel
theorem dX9_isWorldOver_85 : decode cX9_isWorldOver 85 = .ok (.getfield 65, 3) := by decide +kernel
theorem dX9_isWorldOver_88 : decode cX9_isWorldOver 88 = .ok (.iconst 0, 1) := by decide +kernel
theorem dX9_isWorldOver_89 : decode cX9_isWorldOver 89 = .ok (.iaload, 1) := by decide +kernel
theorem dX9_isWorldOver_90 : decode cX9_isWorldOver 90 = .ok (.goto 9, 3) := by decide +kernel
theorem dX9_isWorldOver_93 : decode cX9_isWorldOver 93 = .ok (.aload_n 0, 1) := by decide +kernel
theorem dX9_isWorldOver_94 : decode cX9_isWorldOver 94 = .ok (.getfield 83, 3) := by decide +kernel
theorem dX9_isWorldOver_97 : decode cX9_isWorldOver 97 = .ok (.iload_n 1, 1) := by decide +kernel
theorem dX9_isWorldOver_98 : decode cX9_isWorldOver 98 = .ok (.iaload, 1) := by decide +kernel
theorem dX9_isWorldOver_99 : decode cX9_isWorldOver 99 = .ok (.iastore, 1) := by decide +kernel
theorem dX9_isWorldOver_100 : decode cX9_isWorldOver 100 = .ok (.iinc 1 1, 3) := by decide +kernel
theorem dX9_isWorldOver_103 : decode cX9_isWorldOver 103 = .ok (.goto (-42), 3) := by decide +kernel
theorem dX9_isWorldOver_106 : decode cX9_isWorldOver 106 = .ok (.aload_n 0, 1) := by decide +kernel
theorem dX9_isWorldOver_107 : decode cX9_isWorldOver 107 = .ok (.aload_n 0, 1) := by decide +kernel
theorem dX9_isWorldOver_108 : decode cX9_isWorldOver 108 = .ok (.getfield 65, 3) := by decide +kernel
theorem dX9_isWorldOver_111 : decode cX9_isWorldOver 111 = .ok (.iconst 0, 1) := by decide +kernel
theorem dX9_isWorldOver_112 : decode cX9_isWorldOver 112 = .ok (.iaload, 1) := by decide +kernel
theorem dX9_isWorldOver_113 : decode cX9_isWorldOver 113 = .ok (.putfield 89, 3) := by decide +kernel
theorem dX9_isWorldOver_116 : decode cX9_isWorldOver 116 = .ok (.aload_n 0, 1) := by decide +kernel
theorem dX9_isWorldOver_117 : decode cX9_isWorldOver 117 = .ok (.bipush 100, 2) := by decide +kernel
theorem dX9_isWorldOver_119 : decode cX9_isWorldOver 119 = .ok (.putfield 7, 3) := by decide +kernel
theorem dX9_isWorldOver_122 : decode cX9_isWorldOver 122 = .ok (.iconst 1, 1) := by decide +kernel
theorem dX9_isWorldOver_123 : decode cX9_isWorldOver 123 = .ok (.ireturn, 1) := by decide +kernel
theorem dX9_nextTurn_0 : decode cX9_nextTurn 0 = .ok (.iconst (-1), 1) := by decide +kernel
theorem dX9_nextTurn_1 : decode cX9_nextTurn 1 = .ok (.istore_n 1, 1) := by decide +kernel
theorem dX9_nextTurn_2 : decode cX9_nextTurn 2 = .ok (.iconst 0, 1) := by decide +kernel
theorem dX9_nextTurn_3 : decode cX9_nextTurn 3 = .ok (.istore_n 2, 1) := by decide +kernel
theorem dX9_nextTurn_4 : decode cX9_nextTurn 4 = .ok (.iload_n 2, 1) := by decide +kernel
theorem dX9_nextTurn_5 : decode cX9_nextTurn 5 = .ok (.aload_n 0, 1) := by decide +kernel
theorem dX9_nextTurn_6 : decode cX9_nextTurn 6 = .ok (.getfield 34, 3) := by decide +kernel
theorem dX9_nextTurn_9 : decode cX9_nextTurn 9 = .ok (.if_icmp .ge 64, 3) := by decide +kernel
theorem dX9_nextTurn_12 : decode cX9_nextTurn 12 = .ok (.aload_n 0, 1) := by decide +kernel
theorem dX9_nextTurn_13 : decode cX9_nextTurn 13 = .ok (.iload_n 2, 1) := by decide +kernel
theorem dX9_nextTurn_14 : decode cX9_nextTurn 14 = .ok (.invokevirtual 200, 3) := by decide +kernel
theorem dX9_nextTurn_17 : decode cX9_nextTurn 17 = .ok (.ifCond .eq 18, 3) := by decide +kernel
theorem dX9_nextTurn_20 : decode cX9_nextTurn 20 = .ok (.aload_n 0, 1) := by decide +kernel
theorem dX9_nextTurn_21 : decode cX9_nextTurn 21 = .ok (.getfield 71, 3) := by decide +kernel
theorem dX9_nextTurn_24 : decode cX9_nextTurn 24 = .ok (.iload_n 2, 1) := by decide +kernel
theorem dX9_nextTurn_25 : decode cX9_nextTurn 25 = .ok (.iaload, 1) := by decide +kernel
theorem dX9_nextTurn_26 : decode cX9_nextTurn 26 = .ok (.bipush 12, 2) := by decide +kernel
theorem dX9_nextTurn_28 : decode cX9_nextTurn 28 = .ok (.if_icmp .lt 7, 3) := by decide +kernel
theorem dX9_nextTurn_31 : decode cX9_nextTurn 31 = .ok (.iconst 1, 1) := by decide +kernel
theorem dX9_nextTurn_32 : decode cX9_nextTurn 32 = .ok (.goto 4, 3) := by decide +kernel
theorem dX9_nextTurn_35 : decode cX9_nextTurn 35 = .ok (.iconst 0, 1) := by decide +kernel
theorem dX9_nextTurn_36 : decode cX9_nextTurn 36 = .ok (.istore_n 3, 1) := by decide +kernel
theorem dX9_nextTurn_37 : decode cX9_nextTurn 37 = .ok (.iload_n 3, 1) := by decide +kernel
theorem dX9_nextTurn_38 : decode cX9_nextTurn 38 = .ok (.ifCond .eq 27, 3) := by decide +kernel
theorem dX9_nextTurn_41 : decode cX9_nextTurn 41 = .ok (.iload_n 1, 1) := by decide +kernel
theorem dX9_nextTurn_42 : decode cX9_nextTurn 42 = .ok (.iconst (-1), 1) := by decide +kernel
theorem dX9_nextTurn_43 : decode cX9_nextTurn 43 = .ok (.if_icmp .eq 18, 3) := by decide +kernel
theorem dX9_nextTurn_46 : decode cX9_nextTurn 46 = .ok (.aload_n 0, 1) := by decide +kernel
theorem dX9_nextTurn_47 : decode cX9_nextTurn 47 = .ok (.getfield 71, 3) := by decide +kernel
theorem dX9_nextTurn_50 : decode cX9_nextTurn 50 = .ok (.iload_n 2, 1) := by decide +kernel
theorem dX9_nextTurn_51 : decode cX9_nextTurn 51 = .ok (.iaload, 1) := by decide +kernel
theorem dX9_nextTurn_52 : decode cX9_nextTurn 52 = .ok (.aload_n 0, 1) := by decide +kernel
theorem dX9_nextTurn_53 : decode cX9_nextTurn 53 = .ok (.getfield 71, 3) := by decide +kernel
theorem dX9_nextTurn_56 : decode cX9_nextTurn 56 = .ok (.iload_n 1, 1) := by decide +kernel
theorem dX9_nextTurn_57 : decode cX9_nextTurn 57 = .ok (.iaload, 1) := by decide +kernel
theorem dX9_nextTurn_58 : decode cX9_nextTurn 58 = .ok (.if_icmp .le 7, 3) := by decide +kernel
theorem dX9_nextTurn_61 : decode cX9_nextTurn 61 = .ok (.iload_n 2, 1) := by decide +kernel
theorem dX9_nextTurn_62 : decode cX9_nextTurn 62 = .ok (.goto 4, 3) := by decide +kernel
theorem dX9_nextTurn_65 : decode cX9_nextTurn 65 = .ok (.iload_n 1, 1) := by decide +kernel
theorem dX9_nextTurn_66 : decode cX9_nextTurn 66 = .ok (.istore_n 1, 1) := by decide +kernel
theorem dX9_nextTurn_67 : decode cX9_nextTurn 67 = .ok (.iinc 2 1, 3) := by decide +kernel
theorem dX9_nextTurn_70 : decode cX9_nextTurn 70 = .ok (.goto (-66), 3) := by decide +kernel
theorem dX9_nextTurn_73 : decode cX9_nextTurn 73 = .ok (.iload_n 1, 1) := by decide +kernel
theorem dX9_nextTurn_74 : decode cX9_nextTurn 74 = .ok (.ireturn, 1) := by decide +kernel
theorem dX9_ticks_0 : decode cX9_ticks 0 = .ok (.aload_n 0, 1) := by decide +kernel
theorem dX9_ticks_1 : decode cX9_ticks 1 = .ok (.dup, 1) := by decide +kernel
theorem dX9_ticks_2 : decode cX9_ticks 2 = .ok (.getfield 133, 3) := by decide +kernel
theorem dX9_ticks_5 : decode cX9_ticks 5 = .ok (.iconst 1, 1) := by decide +kernel
theorem dX9_ticks_6 : decode cX9_ticks 6 = .ok (.iadd, 1) := by decide +kernel
theorem dX9_ticks_7 : decode cX9_ticks 7 = .ok (.putfield 133, 3) := by decide +kernel
theorem dX9_ticks_10 : decode cX9_ticks 10 = .ok (.iconst 0, 1) := by decide +kernel
theorem dX9_ticks_11 : decode cX9_ticks 11 = .ok (.istore_n 1, 1) := by decide +kernel
theorem dX9_ticks_12 : decode cX9_ticks 12 = .ok (.iload_n 1, 1) := by decide +kernel
theorem dX9_ticks_13 : decode cX9_ticks 13 = .ok (.aload_n 0, 1) := by decide +kernel
theorem dX9_ticks_14 : decode cX9_ticks 14 = .ok (.getfield 34, 3) := by decide +kernel
theorem dX9_ticks_17 : decode cX9_ticks 17 = .ok (.if_icmp .ge 35, 3) := by decide +kernel
theorem dX9_ticks_20 : decode cX9_ticks 20 = .ok (.aload_n 0, 1) := by decide +kernel
theorem dX9_ticks_21 : decode cX9_ticks 21 = .ok (.getfield 71, 3) := by decide +kernel
theorem dX9_ticks_24 : decode cX9_ticks 24 = .ok (.iload_n 1, 1) := by decide +kernel
theorem dX9_ticks_25 : decode cX9_ticks 25 = .ok (.dup2, 1) := by decide +kernel
theorem dX9_ticks_26 : decode cX9_ticks 26 = .ok (.iaload, 1) := by decide +kernel
theorem dX9_ticks_27 : decode cX9_ticks 27 = .ok (.aload_n 0, 1) := by decide +kernel
theorem dX9_ticks_28 : decode cX9_ticks 28 = .ok (.iload_n 1, 1) := by decide +kernel
theorem dX9_ticks_29 : decode cX9_ticks 29 = .ok (.invokevirtual 200, 3) := by decide +kernel
theorem dX9_ticks_32 : decode cX9_ticks 32 = .ok (.ifCond .eq 11, 3) := by decide +kernel
theorem dX9_ticks_35 : decode cX9_ticks 35 = .ok (.aload_n 0, 1) := by decide +kernel
theorem dX9_ticks_36 : decode cX9_ticks 36 = .ok (.iload_n 1, 1) := by decide +kernel
theorem dX9_ticks_37 : decode cX9_ticks 37 = .ok (.invokevirtual 209, 3) := by decide +kernel
theorem dX9_ticks_40 : decode cX9_ticks 40 = .ok (.goto 4, 3) := by decide +kernel
theorem dX9_ticks_43 : decode cX9_ticks 43 = .ok (.iconst 0, 1) := by decide +kernel
theorem dX9_ticks_44 : decode cX9_ticks 44 = .ok (.iadd, 1) := by decide +kernel
theorem dX9_ticks_45 : decode cX9_ticks 45 = .ok (.iastore, 1) := by decide +kernel
theorem dX9_ticks_46 : decode cX9_ticks 46 = .ok (.iinc 1 1, 3) := by decide +kernel
theorem dX9_ticks_49 : decode cX9_ticks 49 = .ok (.goto (-37), 3) := by decide +kernel
theorem dX9_ticks_52 : decode cX9_ticks 52 = .ok (.iconst 0, 1) := by decide +kernel
theorem dX9_ticks_53 : decode cX9_ticks 53 = .ok (.istore_n 1, 1) := by decide +kernel
theorem dX9_ticks_54 : decode cX9_ticks 54 = .ok (.iload_n 1, 1) := by decide +kernel
theorem dX9_ticks_55 : decode cX9_ticks 55 = .ok (.aload_n 0, 1) := by decide +kernel
theorem dX9_ticks_56 : decode cX9_ticks 56 = .ok (.getfield 34, 3) := by decide +kernel
theorem dX9_ticks_59 : decode cX9_ticks 59 = .ok (.if_icmp .ge 32, 3) := by decide +kernel
theorem dX9_ticks_62 : decode cX9_ticks 62 = .ok (.aload_n 0, 1) := by decide +kernel
theorem dX9_ticks_63 : decode cX9_ticks 63 = .ok (.getfield 77, 3) := by decide +kernel
theorem dX9_ticks_66 : decode cX9_ticks 66 = .ok (.iload_n 1, 1) := by decide +kernel
theorem dX9_ticks_67 : decode cX9_ticks 67 = .ok (.dup2, 1) := by decide +kernel
theorem dX9_ticks_68 : decode cX9_ticks 68 = .ok (.iaload, 1) := by decide +kernel
theorem dX9_ticks_69 : decode cX9_ticks 69 = .ok (.aload_n 0, 1) := by decide +kernel
theorem dX9_ticks_70 : decode cX9_ticks 70 = .ok (.getfield 77, 3) := by decide +kernel
theorem dX9_ticks_73 : decode cX9_ticks 73 = .ok (.iload_n 1, 1) := by decide +kernel
theorem dX9_ticks_74 : decode cX9_ticks 74 = .ok (.iaload, 1) := by decide +kernel
theorem dX9_ticks_75 : decode cX9_ticks 75 = .ok (.ifCond .le 7, 3) := by decide +kernel
theorem dX9_ticks_78 : decode cX9_ticks 78 = .ok (.iconst 1, 1) := by decide +kernel
theorem dX9_ticks_79 : decode cX9_ticks 79 = .ok (.goto 4, 3) := by decide +kernel
theorem dX9_ticks_82 : decode cX9_ticks 82 = .ok (.iconst 0, 1) := by decide +kernel
theorem dX9_ticks_83 : decode cX9_ticks 83 = .ok (.isub, 1) := by decide +kernel
theorem dX9_ticks_84 : decode cX9_ticks 84 = .ok (.iastore, 1) := by decide +kernel
theorem dX9_ticks_85 : decode cX9_ticks 85 = .ok (.iinc 1 1, 3) := by decide +kernel
theorem dX9_ticks_88 : decode cX9_ticks 88 = .ok (.goto (-34), 3) := by decide +kernel
theorem dX9_ticks_91 : decode cX9_ticks 91 = .ok (.aload_n 0, 1) := by decide +kernel
theorem dX9_ticks_92 : decode cX9_ticks 92 = .ok (.dup, 1) := by decide +kernel
theorem dX9_ticks_93 : decode cX9_ticks 93 = .ok (.getfield 136, 3) := by decide +kernel
theorem dX9_ticks_96 : decode cX9_ticks 96 = .ok (.aload_n 0, 1) := by decide +kernel
theorem dX9_ticks_97 : decode cX9_ticks 97 = .ok (.getfield 136, 3) := by decide +kernel
theorem dX9_ticks_100 : decode cX9_ticks 100 = .ok (.ifCond .le 7, 3) := by decide +kernel
theorem dX9_ticks_103 : decode cX9_ticks 103 = .ok (.iconst 1, 1) := by decide +kernel
theorem dX9_ticks_104 : decode cX9_ticks 104 = .ok (.goto 4, 3) := by decide +kernel
theorem dX9_ticks_107 : decode cX9_ticks 107 = .ok (.iconst 0, 1) := by decide +kernel
theorem dX9_ticks_108 : decode cX9_ticks 108 = .ok (.isub, 1) := by decide +kernel
theorem dX9_ticks_109 : decode cX9_ticks 109 = .ok (.putfield 136, 3) := by decide +kernel
theorem dX9_ticks_112 : decode cX9_ticks 112 = .ok (.return_, 1) := by decide +kernel
theorem dX9_goesToHero_0 : decode cX9_goesToHero 0 = .ok (.aload_n 0, 1) := by decide +kernel
theorem dX9_goesToHero_1 : decode cX9_goesToHero 1 = .ok (.invokevirtual 145, 3) := by decide +kernel
theorem dX9_goesToHero_4 : decode cX9_goesToHero 4 = .ok (.ifCond .eq 49, 3) := by decide +kernel
theorem dX9_goesToHero_7 : decode cX9_goesToHero 7 = .ok (.aload_n 0, 1) := by decide +kernel
theorem dX9_goesToHero_8 : decode cX9_goesToHero 8 = .ok (.invokevirtual 212, 3) := by decide +kernel
theorem dX9_goesToHero_11 : decode cX9_goesToHero 11 = .ok (.istore_n 1, 1) := by decide +kernel
theorem dX9_goesToHero_12 : decode cX9_goesToHero 12 = .ok (.iload_n 1, 1) := by decide +kernel
theorem dX9_goesToHero_13 : decode cX9_goesToHero 13 = .ok (.ifCond .ne 4, 3) := by decide +kernel
theorem dX9_goesToHero_16 : decode cX9_goesToHero 16 = .ok (.return_, 1) := by decide +kernel
theorem dX9_goesToHero_17 : decode cX9_goesToHero 17 = .ok (.iload_n 1, 1) := by decide +kernel
theorem dX9_goesToHero_18 : decode cX9_goesToHero 18 = .ok (.iconst (-1), 1) := by decide +kernel
theorem dX9_goesToHero_19 : decode cX9_goesToHero 19 = .ok (.if_icmp .ne 10, 3) := by decide +kernel
theorem dX9_goesToHero_22 : decode cX9_goesToHero 22 = .ok (.aload_n 0, 1) := by decide +kernel
theorem dX9_goesToHero_23 : decode cX9_goesToHero 23 = .ok (.invokevirtual 216, 3) := by decide +kernel
theorem dX9_goesToHero_26 : decode cX9_goesToHero 26 = .ok (.goto (-26), 3) := by decide +kernel
theorem dX9_goesToHero_29 : decode cX9_goesToHero 29 = .ok (.aload_n 0, 1) := by decide +kernel
theorem dX9_goesToHero_30 : decode cX9_goesToHero 30 = .ok (.getfield 71, 3) := by decide +kernel
theorem dX9_goesToHero_33 : decode cX9_goesToHero 33 = .ok (.iload_n 1, 1) := by decide +kernel
theorem dX9_goesToHero_34 : decode cX9_goesToHero 34 = .ok (.dup2, 1) := by decide +kernel
theorem dX9_goesToHero_35 : decode cX9_goesToHero 35 = .ok (.iaload, 1) := by decide +kernel
theorem dX9_goesToHero_36 : decode cX9_goesToHero 36 = .ok (.bipush 12, 2) := by decide +kernel
theorem dX9_goesToHero_38 : decode cX9_goesToHero 38 = .ok (.isub, 1) := by decide +kernel
theorem dX9_goesToHero_39 : decode cX9_goesToHero 39 = .ok (.iastore, 1) := by decide +kernel
theorem dX9_goesToHero_40 : decode cX9_goesToHero 40 = .ok (.aload_n 0, 1) := by decide +kernel
theorem dX9_goesToHero_41 : decode cX9_goesToHero 41 = .ok (.iload_n 1, 1) := by decide +kernel
theorem dX9_goesToHero_42 : decode cX9_goesToHero 42 = .ok (.invokevirtual 219, 3) := by decide +kernel
theorem dX9_goesToHero_45 : decode cX9_goesToHero 45 = .ok (.aload_n 0, 1) := by decide +kernel
theorem dX9_goesToHero_46 : decode cX9_goesToHero 46 = .ok (.invokevirtual 223, 3) := by decide +kernel
theorem dX9_goesToHero_49 : decode cX9_goesToHero 49 = .ok (.istore_n 2, 1) := by decide +kernel
theorem dX9_goesToHero_50 : decode cX9_goesToHero 50 = .ok (.goto (-50), 3) := by decide +kernel
theorem dX9_goesToHero_53 : decode cX9_goesToHero 53 = .ok (.return_, 1) := by decide +kernel
theorem dX9_ends_0 : decode cX9_ends 0 = .ok (.aload_n 0, 1) := by decide +kernel
theorem dX9_ends_1 : decode cX9_ends 1 = .ok (.getfield 71, 3) := by decide +kernel
theorem dX9_ends_4 : decode cX9_ends 4 = .ok (.iconst 0, 1) := by decide +kernel
theorem dX9_ends_5 : decode cX9_ends 5 = .ok (.dup2, 1) := by decide +kernel
theorem dX9_ends_6 : decode cX9_ends 6 = .ok (.iaload, 1) := by decide +kernel
theorem dX9_ends_7 : decode cX9_ends 7 = .ok (.bipush 12, 2) := by decide +kernel
theorem dX9_ends_9 : decode cX9_ends 9 = .ok (.isub, 1) := by decide +kernel
theorem dX9_ends_10 : decode cX9_ends 10 = .ok (.iastore, 1) := by decide +kernel
theorem dX9_ends_11 : decode cX9_ends 11 = .ok (.aload_n 0, 1) := by decide +kernel
theorem dX9_ends_12 : decode cX9_ends 12 = .ok (.invokevirtual 223, 3) := by decide +kernel
theorem dX9_ends_15 : decode cX9_ends 15 = .ok (.ifCond .ne 7, 3) := by decide +kernel
theorem dX9_ends_18 : decode cX9_ends 18 = .ok (.aload_n 0, 1) := by decide +kernel
theorem dX9_ends_19 : decode cX9_ends 19 = .ok (.invokevirtual 226, 3) := by decide +kernel
theorem dX9_ends_22 : decode cX9_ends 22 = .ok (.return_, 1) := by decide +kernel
theorem dX9_livingAt_0 : decode cX9_livingAt 0 = .ok (.iconst (-1), 1) := by decide +kernel
theorem dX9_livingAt_1 : decode cX9_livingAt 1 = .ok (.istore_n 2, 1) := by decide +kernel
theorem dX9_livingAt_2 : decode cX9_livingAt 2 = .ok (.iconst 0, 1) := by decide +kernel
theorem dX9_livingAt_3 : decode cX9_livingAt 3 = .ok (.istore_n 3, 1) := by decide +kernel
theorem dX9_livingAt_4 : decode cX9_livingAt 4 = .ok (.iload_n 3, 1) := by decide +kernel
theorem dX9_livingAt_5 : decode cX9_livingAt 5 = .ok (.aload_n 0, 1) := by decide +kernel
theorem dX9_livingAt_6 : decode cX9_livingAt 6 = .ok (.getfield 34, 3) := by decide +kernel
theorem dX9_livingAt_9 : decode cX9_livingAt 9 = .ok (.if_icmp .ge 33, 3) := by decide +kernel
theorem dX9_livingAt_12 : decode cX9_livingAt 12 = .ok (.aload_n 0, 1) := by decide +kernel
theorem dX9_livingAt_13 : decode cX9_livingAt 13 = .ok (.iload_n 3, 1) := by decide +kernel
theorem dX9_livingAt_14 : decode cX9_livingAt 14 = .ok (.invokevirtual 200, 3) := by decide +kernel
theorem dX9_livingAt_17 : decode cX9_livingAt 17 = .ok (.ifCond .eq 17, 3) := by decide +kernel
theorem dX9_livingAt_20 : decode cX9_livingAt 20 = .ok (.aload_n 0, 1) := by decide +kernel
theorem dX9_livingAt_21 : decode cX9_livingAt 21 = .ok (.getfield 65, 3) := by decide +kernel
theorem dX9_livingAt_24 : decode cX9_livingAt 24 = .ok (.iload_n 3, 1) := by decide +kernel
theorem dX9_livingAt_25 : decode cX9_livingAt 25 = .ok (.iaload, 1) := by decide +kernel
theorem dX9_livingAt_26 : decode cX9_livingAt 26 = .ok (.iload_n 1, 1) := by decide +kernel
theorem dX9_livingAt_27 : decode cX9_livingAt 27 = .ok (.if_icmp .ne 7, 3) := by decide +kernel
theorem dX9_livingAt_30 : decode cX9_livingAt 30 = .ok (.iload_n 3, 1) := by decide +kernel
theorem dX9_livingAt_31 : decode cX9_livingAt 31 = .ok (.goto 4, 3) := by decide +kernel
theorem dX9_livingAt_34 : decode cX9_livingAt 34 = .ok (.iload_n 2, 1) := by decide +kernel
theorem dX9_livingAt_35 : decode cX9_livingAt 35 = .ok (.istore_n 2, 1) := by decide +kernel
theorem dX9_livingAt_36 : decode cX9_livingAt 36 = .ok (.iinc 3 1, 3) := by decide +kernel
theorem dX9_livingAt_39 : decode cX9_livingAt 39 = .ok (.goto (-35), 3) := by decide +kernel
theorem dX9_livingAt_42 : decode cX9_livingAt 42 = .ok (.iload_n 2, 1) := by decide +kernel
theorem dX9_livingAt_43 : decode cX9_livingAt 43 = .ok (.ireturn, 1) := by decide +kernel
theorem dX9_isOpenFor_0 : decode cX9_isOpenFor 0 = .ok (.aload_n 0, 1) := by decide +kernel
theorem dX9_isOpenFor_1 : decode cX9_isOpenFor 1 = .ok (.iload_n 1, 1) := by decide +kernel
theorem dX9_isOpenFor_2 : decode cX9_isOpenFor 2 = .ok (.invokevirtual 174, 3) := by decide +kernel
theorem dX9_isOpenFor_5 : decode cX9_isOpenFor 5 = .ok (.ifCond .eq 16, 3) := by decide +kernel
theorem dX9_isOpenFor_8 : decode cX9_isOpenFor 8 = .ok (.aload_n 0, 1) := by decide +kernel
theorem dX9_isOpenFor_9 : decode cX9_isOpenFor 9 = .ok (.iload_n 1, 1) := by decide +kernel
theorem dX9_isOpenFor_10 : decode cX9_isOpenFor 10 = .ok (.invokevirtual 229, 3) := by decide +kernel
theorem dX9_isOpenFor_13 : decode cX9_isOpenFor 13 = .ok (.iconst (-1), 1) := by decide +kernel
theorem dX9_isOpenFor_14 : decode cX9_isOpenFor 14 = .ok (.if_icmp .ne 7, 3) := by decide +kernel
theorem dX9_isOpenFor_17 : decode cX9_isOpenFor 17 = .ok (.iconst 1, 1) := by decide +kernel
theorem dX9_isOpenFor_18 : decode cX9_isOpenFor 18 = .ok (.goto 4, 3) := by decide +kernel
theorem dX9_isOpenFor_21 : decode cX9_isOpenFor 21 = .ok (.iconst 0, 1) := by decide +kernel
theorem dX9_isOpenFor_22 : decode cX9_isOpenFor 22 = .ok (.ireturn, 1) := by decide +kernel
theorem dX9_chosen_0 : decode cX9_chosen 0 = .ok (.iconst (-1), 1) := by decide +kernel
theorem dX9_chosen_1 : decode cX9_chosen 1 = .ok (.istore_n 3, 1) := by decide +kernel
theorem dX9_chosen_2 : decode cX9_chosen 2 = .ok (.iconst 0, 1) := by decide +kernel
theorem dX9_chosen_3 : decode cX9_chosen 3 = .ok (.istore 4, 2) := by decide +kernel
theorem dX9_chosen_5 : decode cX9_chosen 5 = .ok (.iload 4, 2) := by decide +kernel
theorem dX9_chosen_7 : decode cX9_chosen 7 = .ok (.iconst 4, 1) := by decide +kernel
theorem dX9_chosen_8 : decode cX9_chosen 8 = .ok (.if_icmp .ge 142, 3) := by decide +kernel
theorem dX9_chosen_11 : decode cX9_chosen 11 = .ok (.aload_n 0, 1) := by decide +kernel
theorem dX9_chosen_12 : decode cX9_chosen 12 = .ok (.getfield 65, 3) := by decide +kernel
theorem dX9_chosen_15 : decode cX9_chosen 15 = .ok (.iload_n 1, 1) := by decide +kernel
theorem dX9_chosen_16 : decode cX9_chosen 16 = .ok (.iaload, 1) := by decide +kernel
theorem dX9_chosen_17 : decode cX9_chosen 17 = .ok (.iload 4, 2) := by decide +kernel
theorem dX9_chosen_19 : decode cX9_chosen 19 = .ok (.invokestatic 193, 3) := by decide +kernel
theorem dX9_chosen_22 : decode cX9_chosen 22 = .ok (.istore 5, 2) := by decide +kernel
theorem dX9_chosen_24 : decode cX9_chosen 24 = .ok (.iload 5, 2) := by decide +kernel
theorem dX9_chosen_26 : decode cX9_chosen 26 = .ok (.iconst (-1), 1) := by decide +kernel
theorem dX9_chosen_27 : decode cX9_chosen 27 = .ok (.if_icmp .eq 44, 3) := by decide +kernel
theorem dX9_chosen_30 : decode cX9_chosen 30 = .ok (.aload_n 0, 1) := by decide +kernel
theorem dX9_chosen_31 : decode cX9_chosen 31 = .ok (.getfield 98, 3) := by decide +kernel
theorem dX9_chosen_34 : decode cX9_chosen 34 = .ok (.iload 5, 2) := by decide +kernel
theorem dX9_chosen_36 : decode cX9_chosen 36 = .ok (.iaload, 1) := by decide +kernel
theorem dX9_chosen_37 : decode cX9_chosen 37 = .ok (.ldc 189, 2) := by decide +kernel
theorem dX9_chosen_39 : decode cX9_chosen 39 = .ok (.if_icmp .ge 32, 3) := by decide +kernel
theorem dX9_chosen_42 : decode cX9_chosen 42 = .ok (.aload_n 0, 1) := by decide +kernel
theorem dX9_chosen_43 : decode cX9_chosen 43 = .ok (.iload 5, 2) := by decide +kernel
theorem dX9_chosen_45 : decode cX9_chosen 45 = .ok (.invokevirtual 232, 3) := by decide +kernel
theorem dX9_chosen_48 : decode cX9_chosen 48 = .ok (.ifCond .ne 19, 3) := by decide +kernel
theorem dX9_chosen_51 : decode cX9_chosen 51 = .ok (.iload_n 2, 1) := by decide +kernel
theorem dX9_chosen_52 : decode cX9_chosen 52 = .ok (.ifCond .ne 19, 3) := by decide +kernel
theorem dX9_chosen_55 : decode cX9_chosen 55 = .ok (.aload_n 0, 1) := by decide +kernel
theorem dX9_chosen_56 : decode cX9_chosen 56 = .ok (.getfield 62, 3) := by decide +kernel
theorem dX9_chosen_59 : decode cX9_chosen 59 = .ok (.iload 5, 2) := by decide +kernel
theorem dX9_chosen_61 : decode cX9_chosen 61 = .ok (.caload, 1) := by decide +kernel
theorem dX9_chosen_62 : decode cX9_chosen 62 = .ok (.bipush 43, 2) := by decide +kernel
theorem dX9_chosen_64 : decode cX9_chosen 64 = .ok (.if_icmp .ne 7, 3) := by decide +kernel
theorem dX9_chosen_67 : decode cX9_chosen 67 = .ok (.iconst 1, 1) := by decide +kernel
theorem dX9_chosen_68 : decode cX9_chosen 68 = .ok (.goto 4, 3) := by decide +kernel
theorem dX9_chosen_71 : decode cX9_chosen 71 = .ok (.iconst 0, 1) := by decide +kernel
theorem dX9_chosen_72 : decode cX9_chosen 72 = .ok (.istore 6, 2) := by decide +kernel
theorem dX9_chosen_74 : decode cX9_chosen 74 = .ok (.iload_n 3, 1) := by decide +kernel
theorem dX9_chosen_75 : decode cX9_chosen 75 = .ok (.iconst (-1), 1) := by decide +kernel
theorem dX9_chosen_76 : decode cX9_chosen 76 = .ok (.if_icmp .ne 17, 3) := by decide +kernel
theorem dX9_chosen_79 : decode cX9_chosen 79 = .ok (.aload_n 0, 1) := by decide +kernel
theorem dX9_chosen_80 : decode cX9_chosen 80 = .ok (.getfield 98, 3) := by decide +kernel
theorem dX9_chosen_83 : decode cX9_chosen 83 = .ok (.aload_n 0, 1) := by decide +kernel
theorem dX9_chosen_84 : decode cX9_chosen 84 = .ok (.getfield 65, 3) := by decide +kernel
theorem dX9_chosen_87 : decode cX9_chosen 87 = .ok (.iload_n 1, 1) := by decide +kernel
theorem dX9_chosen_88 : decode cX9_chosen 88 = .ok (.iaload, 1) := by decide +kernel
theorem dX9_chosen_89 : decode cX9_chosen 89 = .ok (.iaload, 1) := by decide +kernel
theorem dX9_chosen_90 : decode cX9_chosen 90 = .ok (.goto 9, 3) := by decide +kernel
theorem dX9_chosen_93 : decode cX9_chosen 93 = .ok (.aload_n 0, 1) := by decide +kernel
theorem dX9_chosen_94 : decode cX9_chosen 94 = .ok (.getfield 98, 3) := by decide +kernel
theorem dX9_chosen_97 : decode cX9_chosen 97 = .ok (.iload_n 3, 1) := by decide +kernel
theorem dX9_chosen_98 : decode cX9_chosen 98 = .ok (.iaload, 1) := by decide +kernel
theorem dX9_chosen_99 : decode cX9_chosen 99 = .ok (.istore 7, 2) := by decide +kernel
theorem dX9_chosen_101 : decode cX9_chosen 101 = .ok (.iload 6, 2) := by decide +kernel
theorem dX9_chosen_103 : decode cX9_chosen 103 = .ok (.ifCond .eq 39, 3) := by decide +kernel
theorem dX9_chosen_106 : decode cX9_chosen 106 = .ok (.iload_n 2, 1) := by decide +kernel
theorem dX9_chosen_107 : decode cX9_chosen 107 = .ok (.ifCond .eq 18, 3) := by decide +kernel
theorem dX9_chosen_110 : decode cX9_chosen 110 = .ok (.aload_n 0, 1) := by decide +kernel
theorem dX9_chosen_111 : decode cX9_chosen 111 = .ok (.getfield 98, 3) := by decide +kernel
theorem dX9_chosen_114 : decode cX9_chosen 114 = .ok (.iload 5, 2) := by decide +kernel
theorem dX9_chosen_116 : decode cX9_chosen 116 = .ok (.iaload, 1) := by decide +kernel
theorem dX9_chosen_117 : decode cX9_chosen 117 = .ok (.iload 7, 2) := by decide +kernel
theorem dX9_chosen_119 : decode cX9_chosen 119 = .ok (.if_icmp .le 23, 3) := by decide +kernel
theorem dX9_chosen_122 : decode cX9_chosen 122 = .ok (.goto 15, 3) := by decide +kernel
theorem dX9_chosen_125 : decode cX9_chosen 125 = .ok (.aload_n 0, 1) := by decide +kernel
theorem dX9_chosen_126 : decode cX9_chosen 126 = .ok (.getfield 98, 3) := by decide +kernel
theorem dX9_chosen_129 : decode cX9_chosen 129 = .ok (.iload 5, 2) := by decide +kernel
theorem dX9_chosen_131 : decode cX9_chosen 131 = .ok (.iaload, 1) := by decide +kernel
theorem dX9_chosen_132 : decode cX9_chosen 132 = .ok (.iload 7, 2) := by decide +kernel
theorem dX9_chosen_134 : decode cX9_chosen 134 = .ok (.if_icmp .ge 8, 3) := by decide +kernel
theorem dX9_chosen_137 : decode cX9_chosen 137 = .ok (.iload 5, 2) := by decide +kernel
theorem dX9_chosen_139 : decode cX9_chosen 139 = .ok (.goto 4, 3) := by decide +kernel
theorem dX9_chosen_142 : decode cX9_chosen 142 = .ok (.iload_n 3, 1) := by decide +kernel
theorem dX9_chosen_143 : decode cX9_chosen 143 = .ok (.istore_n 3, 1) := by decide +kernel
theorem dX9_chosen_144 : decode cX9_chosen 144 = .ok (.iinc 4 1, 3) := by decide +kernel
theorem dX9_chosen_147 : decode cX9_chosen 147 = .ok (.goto (-142), 3) := by decide +kernel
theorem dX9_chosen_150 : decode cX9_chosen 150 = .ok (.iload_n 3, 1) := by decide +kernel
theorem dX9_chosen_151 : decode cX9_chosen 151 = .ok (.ireturn, 1) := by decide +kernel
theorem dX9_isBeside_0 : decode cX9_isBeside 0 = .ok (.iload_n 1, 1) := by decide +kernel
theorem dX9_isBeside_1 : decode cX9_isBeside 1 = .ok (.invokestatic 114, 3) := by decide +kernel
theorem dX9_isBeside_4 : decode cX9_isBeside 4 = .ok (.iload_n 2, 1) := by decide +kernel
theorem dX9_isBeside_5 : decode cX9_isBeside 5 = .ok (.invokestatic 114, 3) := by decide +kernel
theorem dX9_isBeside_8 : decode cX9_isBeside 8 = .ok (.isub, 1) := by decide +kernel
theorem dX9_isBeside_9 : decode cX9_isBeside 9 = .ok (.invokestatic 171, 3) := by decide +kernel
theorem dX9_isBeside_12 : decode cX9_isBeside 12 = .ok (.iload_n 1, 1) := by decide +kernel
theorem dX9_isBeside_13 : decode cX9_isBeside 13 = .ok (.invokestatic 118, 3) := by decide +kernel
theorem dX9_isBeside_16 : decode cX9_isBeside 16 = .ok (.iload_n 2, 1) := by decide +kernel
theorem dX9_isBeside_17 : decode cX9_isBeside 17 = .ok (.invokestatic 118, 3) := by decide +kernel
theorem dX9_isBeside_20 : decode cX9_isBeside 20 = .ok (.isub, 1) := by decide +kernel
theorem dX9_isBeside_21 : decode cX9_isBeside 21 = .ok (.invokestatic 171, 3) := by decide +kernel
theorem dX9_isBeside_24 : decode cX9_isBeside 24 = .ok (.iadd, 1) := by decide +kernel
theorem dX9_isBeside_25 : decode cX9_isBeside 25 = .ok (.iconst 1, 1) := by decide +kernel
theorem dX9_isBeside_26 : decode cX9_isBeside 26 = .ok (.if_icmp .ne 7, 3) := by decide +kernel
theorem dX9_isBeside_29 : decode cX9_isBeside 29 = .ok (.iconst 1, 1) := by decide +kernel
theorem dX9_isBeside_30 : decode cX9_isBeside 30 = .ok (.goto 4, 3) := by decide +kernel
theorem dX9_isBeside_33 : decode cX9_isBeside 33 = .ok (.iconst 0, 1) := by decide +kernel
theorem dX9_isBeside_34 : decode cX9_isBeside 34 = .ok (.ireturn, 1) := by decide +kernel
theorem dX9_beastTurns_0 : decode cX9_beastTurns 0 = .ok (.aload_n 0, 1) := by decide +kernel
theorem dX9_beastTurns_1 : decode cX9_beastTurns 1 = .ok (.aload_n 0, 1) := by decide +kernel
theorem dX9_beastTurns_2 : decode cX9_beastTurns 2 = .ok (.getfield 65, 3) := by decide +kernel
theorem dX9_beastTurns_5 : decode cX9_beastTurns 5 = .ok (.iload_n 1, 1) := by decide +kernel
theorem dX9_beastTurns_6 : decode cX9_beastTurns 6 = .ok (.iaload, 1) := by decide +kernel
theorem dX9_beastTurns_7 : decode cX9_beastTurns 7 = .ok (.aload_n 0, 1) := by decide +kernel
theorem dX9_beastTurns_8 : decode cX9_beastTurns 8 = .ok (.getfield 65, 3) := by decide +kernel
theorem dX9_beastTurns_11 : decode cX9_beastTurns 11 = .ok (.iconst 0, 1) := by decide +kernel
theorem dX9_beastTurns_12 : decode cX9_beastTurns 12 = .ok (.iaload, 1) := by decide +kernel
theorem dX9_beastTurns_13 : decode cX9_beastTurns 13 = .ok (.invokevirtual 180, 3) := by decide +kernel
theorem dX9_beastTurns_16 : decode cX9_beastTurns 16 = .ok (.ifCond .eq 15, 3) := by decide +kernel
theorem dX9_beastTurns_19 : decode cX9_beastTurns 19 = .ok (.aload_n 0, 1) := by decide +kernel
theorem dX9_beastTurns_20 : decode cX9_beastTurns 20 = .ok (.getfield 80, 3) := by decide +kernel
theorem dX9_beastTurns_23 : decode cX9_beastTurns 23 = .ok (.iload_n 1, 1) := by decide +kernel
theorem dX9_beastTurns_24 : decode cX9_beastTurns 24 = .ok (.aload_n 0, 1) := by decide +kernel
theorem dX9_beastTurns_25 : decode cX9_beastTurns 25 = .ok (.getfield 65, 3) := by decide +kernel
theorem dX9_beastTurns_28 : decode cX9_beastTurns 28 = .ok (.iconst 0, 1) := by decide +kernel
theorem dX9_beastTurns_29 : decode cX9_beastTurns 29 = .ok (.iaload, 1) := by decide +kernel
theorem dX9_beastTurns_30 : decode cX9_beastTurns 30 = .ok (.iastore, 1) := by decide +kernel
theorem dX9_beastTurns_31 : decode cX9_beastTurns 31 = .ok (.aload_n 0, 1) := by decide +kernel
theorem dX9_beastTurns_32 : decode cX9_beastTurns 32 = .ok (.getfield 80, 3) := by decide +kernel
theorem dX9_beastTurns_35 : decode cX9_beastTurns 35 = .ok (.iload_n 1, 1) := by decide +kernel
theorem dX9_beastTurns_36 : decode cX9_beastTurns 36 = .ok (.iaload, 1) := by decide +kernel
theorem dX9_beastTurns_37 : decode cX9_beastTurns 37 = .ok (.iconst (-1), 1) := by decide +kernel
theorem dX9_beastTurns_38 : decode cX9_beastTurns 38 = .ok (.if_icmp .ne 4, 3) := by decide +kernel
theorem dX9_beastTurns_41 : decode cX9_beastTurns 41 = .ok (.return_, 1) := by decide +kernel
theorem dX9_beastTurns_42 : decode cX9_beastTurns 42 = .ok (.aload_n 0, 1) := by decide +kernel
theorem dX9_beastTurns_43 : decode cX9_beastTurns 43 = .ok (.aload_n 0, 1) := by decide +kernel
theorem dX9_beastTurns_44 : decode cX9_beastTurns 44 = .ok (.getfield 80, 3) := by decide +kernel
theorem dX9_beastTurns_47 : decode cX9_beastTurns 47 = .ok (.iload_n 1, 1) := by decide +kernel
theorem dX9_beastTurns_48 : decode cX9_beastTurns 48 = .ok (.iaload, 1) := by decide +kernel
theorem dX9_beastTurns_49 : decode cX9_beastTurns 49 = .ok (.iconst 1, 1) := by decide +kernel
theorem dX9_beastTurns_50 : decode cX9_beastTurns 50 = .ok (.ldc 189, 2) := by decide +kernel
theorem dX9_beastTurns_52 : decode cX9_beastTurns 52 = .ok (.invokevirtual 196, 3) := by decide +kernel
theorem dX9_beastTurns_55 : decode cX9_beastTurns 55 = .ok (.iconst 3, 1) := by decide +kernel
theorem dX9_beastTurns_56 : decode cX9_beastTurns 56 = .ok (.aload_n 0, 1) := by decide +kernel
theorem dX9_beastTurns_57 : decode cX9_beastTurns 57 = .ok (.getfield 68, 3) := by decide +kernel
theorem dX9_beastTurns_60 : decode cX9_beastTurns 60 = .ok (.iload_n 1, 1) := by decide +kernel
theorem dX9_beastTurns_61 : decode cX9_beastTurns 61 = .ok (.iaload, 1) := by decide +kernel
theorem dX9_beastTurns_62 : decode cX9_beastTurns 62 = .ok (.imul, 1) := by decide +kernel
theorem dX9_beastTurns_63 : decode cX9_beastTurns 63 = .ok (.aload_n 0, 1) := by decide +kernel
theorem dX9_beastTurns_64 : decode cX9_beastTurns 64 = .ok (.getfield 47, 3) := by decide +kernel
theorem dX9_beastTurns_67 : decode cX9_beastTurns 67 = .ok (.iload_n 1, 1) := by decide +kernel
theorem dX9_beastTurns_68 : decode cX9_beastTurns 68 = .ok (.iaload, 1) := by decide +kernel
theorem dX9_beastTurns_69 : decode cX9_beastTurns 69 = .ok (.if_icmp .ge 7, 3) := by decide +kernel
theorem dX9_beastTurns_72 : decode cX9_beastTurns 72 = .ok (.iconst 1, 1) := by decide +kernel
theorem dX9_beastTurns_73 : decode cX9_beastTurns 73 = .ok (.goto 4, 3) := by decide +kernel
theorem dX9_beastTurns_76 : decode cX9_beastTurns 76 = .ok (.iconst 0, 1) := by decide +kernel
theorem dX9_beastTurns_77 : decode cX9_beastTurns 77 = .ok (.istore_n 2, 1) := by decide +kernel
theorem dX9_beastTurns_78 : decode cX9_beastTurns 78 = .ok (.iload_n 2, 1) := by decide +kernel
theorem dX9_beastTurns_79 : decode cX9_beastTurns 79 = .ok (.ifCond .ne 53, 3) := by decide +kernel
theorem dX9_beastTurns_82 : decode cX9_beastTurns 82 = .ok (.aload_n 0, 1) := by decide +kernel
theorem dX9_beastTurns_83 : decode cX9_beastTurns 83 = .ok (.aload_n 0, 1) := by decide +kernel
theorem dX9_beastTurns_84 : decode cX9_beastTurns 84 = .ok (.getfield 65, 3) := by decide +kernel
theorem dX9_beastTurns_87 : decode cX9_beastTurns 87 = .ok (.iload_n 1, 1) := by decide +kernel
theorem dX9_beastTurns_88 : decode cX9_beastTurns 88 = .ok (.iaload, 1) := by decide +kernel
theorem dX9_beastTurns_89 : decode cX9_beastTurns 89 = .ok (.aload_n 0, 1) := by decide +kernel
theorem dX9_beastTurns_90 : decode cX9_beastTurns 90 = .ok (.getfield 65, 3) := by decide +kernel
theorem dX9_beastTurns_93 : decode cX9_beastTurns 93 = .ok (.iconst 0, 1) := by decide +kernel
theorem dX9_beastTurns_94 : decode cX9_beastTurns 94 = .ok (.iaload, 1) := by decide +kernel
theorem dX9_beastTurns_95 : decode cX9_beastTurns 95 = .ok (.invokevirtual 235, 3) := by decide +kernel
theorem dX9_beastTurns_98 : decode cX9_beastTurns 98 = .ok (.ifCond .eq 34, 3) := by decide +kernel
theorem dX9_beastTurns_101 : decode cX9_beastTurns 101 = .ok (.aload_n 0, 1) := by decide +kernel
theorem dX9_beastTurns_102 : decode cX9_beastTurns 102 = .ok (.getfield 68, 3) := by decide +kernel
theorem dX9_beastTurns_105 : decode cX9_beastTurns 105 = .ok (.iconst 0, 1) := by decide +kernel
theorem dX9_beastTurns_106 : decode cX9_beastTurns 106 = .ok (.dup2, 1) := by decide +kernel
theorem dX9_beastTurns_107 : decode cX9_beastTurns 107 = .ok (.iaload, 1) := by decide +kernel
theorem dX9_beastTurns_108 : decode cX9_beastTurns 108 = .ok (.aload_n 0, 1) := by decide +kernel
theorem dX9_beastTurns_109 : decode cX9_beastTurns 109 = .ok (.getfield 44, 3) := by decide +kernel
theorem dX9_beastTurns_112 : decode cX9_beastTurns 112 = .ok (.iload_n 1, 1) := by decide +kernel
theorem dX9_beastTurns_113 : decode cX9_beastTurns 113 = .ok (.iaload, 1) := by decide +kernel
theorem dX9_beastTurns_114 : decode cX9_beastTurns 114 = .ok (.isub, 1) := by decide +kernel
theorem dX9_beastTurns_115 : decode cX9_beastTurns 115 = .ok (.iastore, 1) := by decide +kernel
theorem dX9_beastTurns_116 : decode cX9_beastTurns 116 = .ok (.aload_n 0, 1) := by decide +kernel
theorem dX9_beastTurns_117 : decode cX9_beastTurns 117 = .ok (.aload_n 0, 1) := by decide +kernel
theorem dX9_beastTurns_118 : decode cX9_beastTurns 118 = .ok (.getfield 65, 3) := by decide +kernel
theorem dX9_beastTurns_121 : decode cX9_beastTurns 121 = .ok (.iconst 0, 1) := by decide +kernel
theorem dX9_beastTurns_122 : decode cX9_beastTurns 122 = .ok (.iaload, 1) := by decide +kernel
theorem dX9_beastTurns_123 : decode cX9_beastTurns 123 = .ok (.bipush 6, 2) := by decide +kernel
theorem dX9_beastTurns_125 : decode cX9_beastTurns 125 = .ok (.invokevirtual 238, 3) := by decide +kernel
theorem dX9_beastTurns_128 : decode cX9_beastTurns 128 = .ok (.istore_n 3, 1) := by decide +kernel
theorem dX9_beastTurns_129 : decode cX9_beastTurns 129 = .ok (.goto 14, 3) := by decide +kernel
theorem dX9_beastTurns_132 : decode cX9_beastTurns 132 = .ok (.aload_n 0, 1) := by decide +kernel
theorem dX9_beastTurns_133 : decode cX9_beastTurns 133 = .ok (.iload_n 1, 1) := by decide +kernel
theorem dX9_beastTurns_134 : decode cX9_beastTurns 134 = .ok (.aload_n 0, 1) := by decide +kernel
theorem dX9_beastTurns_135 : decode cX9_beastTurns 135 = .ok (.iload_n 1, 1) := by decide +kernel
theorem dX9_beastTurns_136 : decode cX9_beastTurns 136 = .ok (.iload_n 2, 1) := by decide +kernel
theorem dX9_beastTurns_137 : decode cX9_beastTurns 137 = .ok (.invokevirtual 241, 3) := by decide +kernel
theorem dX9_beastTurns_140 : decode cX9_beastTurns 140 = .ok (.invokevirtual 245, 3) := by decide +kernel
theorem dX9_beastTurns_143 : decode cX9_beastTurns 143 = .ok (.aload_n 0, 1) := by decide +kernel
theorem dX9_beastTurns_144 : decode cX9_beastTurns 144 = .ok (.getfield 65, 3) := by decide +kernel
theorem dX9_beastTurns_147 : decode cX9_beastTurns 147 = .ok (.iload_n 1, 1) := by decide +kernel
theorem dX9_beastTurns_148 : decode cX9_beastTurns 148 = .ok (.iaload, 1) := by decide +kernel
theorem dX9_beastTurns_149 : decode cX9_beastTurns 149 = .ok (.aload_n 0, 1) := by decide +kernel
theorem dX9_beastTurns_150 : decode cX9_beastTurns 150 = .ok (.getfield 80, 3) := by decide +kernel
theorem dX9_beastTurns_153 : decode cX9_beastTurns 153 = .ok (.iload_n 1, 1) := by decide +kernel
theorem dX9_beastTurns_154 : decode cX9_beastTurns 154 = .ok (.iaload, 1) := by decide +kernel
theorem dX9_beastTurns_155 : decode cX9_beastTurns 155 = .ok (.if_icmp .ne 29, 3) := by decide +kernel
theorem dX9_beastTurns_158 : decode cX9_beastTurns 158 = .ok (.aload_n 0, 1) := by decide +kernel
theorem dX9_beastTurns_159 : decode cX9_beastTurns 159 = .ok (.aload_n 0, 1) := by decide +kernel
theorem dX9_beastTurns_160 : decode cX9_beastTurns 160 = .ok (.getfield 65, 3) := by decide +kernel
theorem dX9_beastTurns_163 : decode cX9_beastTurns 163 = .ok (.iload_n 1, 1) := by decide +kernel
theorem dX9_beastTurns_164 : decode cX9_beastTurns 164 = .ok (.iaload, 1) := by decide +kernel
theorem dX9_beastTurns_165 : decode cX9_beastTurns 165 = .ok (.aload_n 0, 1) := by decide +kernel
theorem dX9_beastTurns_166 : decode cX9_beastTurns 166 = .ok (.getfield 65, 3) := by decide +kernel
theorem dX9_beastTurns_169 : decode cX9_beastTurns 169 = .ok (.iconst 0, 1) := by decide +kernel
theorem dX9_beastTurns_170 : decode cX9_beastTurns 170 = .ok (.iaload, 1) := by decide +kernel
theorem dX9_beastTurns_171 : decode cX9_beastTurns 171 = .ok (.invokevirtual 180, 3) := by decide +kernel
theorem dX9_beastTurns_174 : decode cX9_beastTurns 174 = .ok (.ifCond .ne 10, 3) := by decide +kernel
theorem dX9_beastTurns_177 : decode cX9_beastTurns 177 = .ok (.aload_n 0, 1) := by decide +kernel
theorem dX9_beastTurns_178 : decode cX9_beastTurns 178 = .ok (.getfield 80, 3) := by decide +kernel
theorem dX9_beastTurns_181 : decode cX9_beastTurns 181 = .ok (.iload_n 1, 1) := by decide +kernel
theorem dX9_beastTurns_182 : decode cX9_beastTurns 182 = .ok (.iconst (-1), 1) := by decide +kernel
theorem dX9_beastTurns_183 : decode cX9_beastTurns 183 = .ok (.iastore, 1) := by decide +kernel
theorem dX9_beastTurns_184 : decode cX9_beastTurns 184 = .ok (.return_, 1) := by decide +kernel
theorem dX9_goes_0 : decode cX9_goes 0 = .ok (.iload_n 2, 1) := by decide +kernel
theorem dX9_goes_1 : decode cX9_goes 1 = .ok (.iconst (-1), 1) := by decide +kernel
theorem dX9_goes_2 : decode cX9_goes 2 = .ok (.if_icmp .ne 4, 3) := by decide +kernel
theorem dX9_goes_5 : decode cX9_goes 5 = .ok (.return_, 1) := by decide +kernel
theorem dX9_goes_6 : decode cX9_goes 6 = .ok (.aload_n 0, 1) := by decide +kernel
theorem dX9_goes_7 : decode cX9_goes 7 = .ok (.getfield 62, 3) := by decide +kernel
theorem dX9_goes_10 : decode cX9_goes 10 = .ok (.iload_n 2, 1) := by decide +kernel
theorem dX9_goes_11 : decode cX9_goes 11 = .ok (.caload, 1) := by decide +kernel
theorem dX9_goes_12 : decode cX9_goes 12 = .ok (.bipush 43, 2) := by decide +kernel
theorem dX9_goes_14 : decode cX9_goes 14 = .ok (.if_icmp .ne 14, 3) := by decide +kernel
theorem dX9_goes_17 : decode cX9_goes 17 = .ok (.aload_n 0, 1) := by decide +kernel
theorem dX9_goes_18 : decode cX9_goes 18 = .ok (.getfield 62, 3) := by decide +kernel
theorem dX9_goes_21 : decode cX9_goes 21 = .ok (.iload_n 2, 1) := by decide +kernel
theorem dX9_goes_22 : decode cX9_goes 22 = .ok (.bipush 47, 2) := by decide +kernel
theorem dX9_goes_24 : decode cX9_goes 24 = .ok (.castore, 1) := by decide +kernel
theorem dX9_goes_25 : decode cX9_goes 25 = .ok (.goto 10, 3) := by decide +kernel
theorem dX9_goes_28 : decode cX9_goes 28 = .ok (.aload_n 0, 1) := by decide +kernel
theorem dX9_goes_29 : decode cX9_goes 29 = .ok (.getfield 65, 3) := by decide +kernel
theorem dX9_goes_32 : decode cX9_goes 32 = .ok (.iload_n 1, 1) := by decide +kernel
theorem dX9_goes_33 : decode cX9_goes 33 = .ok (.iload_n 2, 1) := by decide +kernel
theorem dX9_goes_34 : decode cX9_goes 34 = .ok (.iastore, 1) := by decide +kernel
theorem dX9_goes_35 : decode cX9_goes 35 = .ok (.return_, 1) := by decide +kernel
theorem dX9_isSetWell_0 : decode cX9_isSetWell 0 = .ok (.iconst 1, 1) := by decide +kernel
theorem dX9_isSetWell_1 : decode cX9_isSetWell 1 = .ok (.istore_n 1, 1) := by decide +kernel
theorem dX9_isSetWell_2 : decode cX9_isSetWell 2 = .ok (.iconst 0, 1) := by decide +kernel
theorem dX9_isSetWell_3 : decode cX9_isSetWell 3 = .ok (.istore_n 2, 1) := by decide +kernel
theorem dX9_isSetWell_4 : decode cX9_isSetWell 4 = .ok (.iload_n 2, 1) := by decide +kernel
theorem dX9_isSetWell_5 : decode cX9_isSetWell 5 = .ok (.aload_n 0, 1) := by decide +kernel
theorem dX9_isSetWell_6 : decode cX9_isSetWell 6 = .ok (.getfield 34, 3) := by decide +kernel
theorem dX9_isSetWell_9 : decode cX9_isSetWell 9 = .ok (.if_icmp .ge 74, 3) := by decide +kernel
theorem dX9_isSetWell_12 : decode cX9_isSetWell 12 = .ok (.iload_n 1, 1) := by decide +kernel
theorem dX9_isSetWell_13 : decode cX9_isSetWell 13 = .ok (.ifCond .eq 24, 3) := by decide +kernel
theorem dX9_isSetWell_16 : decode cX9_isSetWell 16 = .ok (.aload_n 0, 1) := by decide +kernel
theorem dX9_isSetWell_17 : decode cX9_isSetWell 17 = .ok (.getfield 13, 3) := by decide +kernel
theorem dX9_isSetWell_20 : decode cX9_isSetWell 20 = .ok (.aload_n 0, 1) := by decide +kernel
theorem dX9_isSetWell_21 : decode cX9_isSetWell 21 = .ok (.getfield 38, 3) := by decide +kernel
theorem dX9_isSetWell_24 : decode cX9_isSetWell 24 = .ok (.iload_n 2, 1) := by decide +kernel
theorem dX9_isSetWell_25 : decode cX9_isSetWell 25 = .ok (.iaload, 1) := by decide +kernel
theorem dX9_isSetWell_26 : decode cX9_isSetWell 26 = .ok (.caload, 1) := by decide +kernel
theorem dX9_isSetWell_27 : decode cX9_isSetWell 27 = .ok (.invokestatic 129, 3) := by decide +kernel
theorem dX9_isSetWell_30 : decode cX9_isSetWell 30 = .ok (.ifCond .eq 7, 3) := by decide +kernel
theorem dX9_isSetWell_33 : decode cX9_isSetWell 33 = .ok (.iconst 1, 1) := by decide +kernel
theorem dX9_isSetWell_34 : decode cX9_isSetWell 34 = .ok (.goto 4, 3) := by decide +kernel
theorem dX9_isSetWell_37 : decode cX9_isSetWell 37 = .ok (.iconst 0, 1) := by decide +kernel
theorem dX9_isSetWell_38 : decode cX9_isSetWell 38 = .ok (.istore_n 1, 1) := by decide +kernel
theorem dX9_isSetWell_39 : decode cX9_isSetWell 39 = .ok (.iconst 0, 1) := by decide +kernel
theorem dX9_isSetWell_40 : decode cX9_isSetWell 40 = .ok (.istore_n 3, 1) := by decide +kernel
theorem dX9_isSetWell_41 : decode cX9_isSetWell 41 = .ok (.iload_n 3, 1) := by decide +kernel
theorem dX9_isSetWell_42 : decode cX9_isSetWell 42 = .ok (.iload_n 2, 1) := by decide +kernel
theorem dX9_isSetWell_43 : decode cX9_isSetWell 43 = .ok (.if_icmp .ge 34, 3) := by decide +kernel
theorem dX9_isSetWell_46 : decode cX9_isSetWell 46 = .ok (.iload_n 1, 1) := by decide +kernel
theorem dX9_isSetWell_47 : decode cX9_isSetWell 47 = .ok (.ifCond .eq 22, 3) := by decide +kernel
theorem dX9_isSetWell_50 : decode cX9_isSetWell 50 = .ok (.aload_n 0, 1) := by decide +kernel
theorem dX9_isSetWell_51 : decode cX9_isSetWell 51 = .ok (.getfield 38, 3) := by decide +kernel
theorem dX9_isSetWell_54 : decode cX9_isSetWell 54 = .ok (.iload_n 3, 1) := by decide +kernel
theorem dX9_isSetWell_55 : decode cX9_isSetWell 55 = .ok (.iaload, 1) := by decide +kernel
theorem dX9_isSetWell_56 : decode cX9_isSetWell 56 = .ok (.aload_n 0, 1) := by decide +kernel
theorem dX9_isSetWell_57 : decode cX9_isSetWell 57 = .ok (.getfield 38, 3) := by decide +kernel
theorem dX9_isSetWell_60 : decode cX9_isSetWell 60 = .ok (.iload_n 2, 1) := by decide +kernel
theorem dX9_isSetWell_61 : decode cX9_isSetWell 61 = .ok (.iaload, 1) := by decide +kernel
theorem dX9_isSetWell_62 : decode cX9_isSetWell 62 = .ok (.if_icmp .eq 7, 3) := by decide +kernel
theorem dX9_isSetWell_65 : decode cX9_isSetWell 65 = .ok (.iconst 1, 1) := by decide +kernel
theorem dX9_isSetWell_66 : decode cX9_isSetWell 66 = .ok (.goto 4, 3) := by decide +kernel
theorem dX9_isSetWell_69 : decode cX9_isSetWell 69 = .ok (.iconst 0, 1) := by decide +kernel
theorem dX9_isSetWell_70 : decode cX9_isSetWell 70 = .ok (.istore_n 1, 1) := by decide +kernel
theorem dX9_isSetWell_71 : decode cX9_isSetWell 71 = .ok (.iinc 3 1, 3) := by decide +kernel
theorem dX9_isSetWell_74 : decode cX9_isSetWell 74 = .ok (.goto (-33), 3) := by decide +kernel
theorem dX9_isSetWell_77 : decode cX9_isSetWell 77 = .ok (.iinc 2 1, 3) := by decide +kernel
theorem dX9_isSetWell_80 : decode cX9_isSetWell 80 = .ok (.goto (-76), 3) := by decide +kernel
theorem dX9_isSetWell_83 : decode cX9_isSetWell 83 = .ok (.iload_n 1, 1) := by decide +kernel
theorem dX9_isSetWell_84 : decode cX9_isSetWell 84 = .ok (.ireturn, 1) := by decide +kernel
theorem dX9_begin_0 : decode cX9_begin 0 = .ok (.aload_n 0, 1) := by decide +kernel
theorem dX9_begin_1 : decode cX9_begin 1 = .ok (.iload_n 1, 1) := by decide +kernel
theorem dX9_begin_2 : decode cX9_begin 2 = .ok (.ifCond .ge 7, 3) := by decide +kernel
theorem dX9_begin_5 : decode cX9_begin 5 = .ok (.iconst 1, 1) := by decide +kernel
theorem dX9_begin_6 : decode cX9_begin 6 = .ok (.goto 22, 3) := by decide +kernel
theorem dX9_begin_9 : decode cX9_begin 9 = .ok (.aload_n 0, 1) := by decide +kernel
theorem dX9_begin_10 : decode cX9_begin 10 = .ok (.invokevirtual 145, 3) := by decide +kernel
theorem dX9_begin_13 : decode cX9_begin 13 = .ok (.ifCond .ne 10, 3) := by decide +kernel
theorem dX9_begin_16 : decode cX9_begin 16 = .ok (.aload_n 0, 1) := by decide +kernel
theorem dX9_begin_17 : decode cX9_begin 17 = .ok (.invokevirtual 249, 3) := by decide +kernel
theorem dX9_begin_20 : decode cX9_begin 20 = .ok (.ifCond .ne 7, 3) := by decide +kernel
theorem dX9_begin_23 : decode cX9_begin 23 = .ok (.iconst 2, 1) := by decide +kernel
theorem dX9_begin_24 : decode cX9_begin 24 = .ok (.goto 4, 3) := by decide +kernel
theorem dX9_begin_27 : decode cX9_begin 27 = .ok (.iconst 0, 1) := by decide +kernel
theorem dX9_begin_28 : decode cX9_begin 28 = .ok (.invokevirtual 149, 3) := by decide +kernel
theorem dX9_begin_31 : decode cX9_begin 31 = .ok (.ifCond .ne 5, 3) := by decide +kernel
theorem dX9_begin_34 : decode cX9_begin 34 = .ok (.iconst 0, 1) := by decide +kernel
theorem dX9_begin_35 : decode cX9_begin 35 = .ok (.ireturn, 1) := by decide +kernel
theorem dX9_begin_36 : decode cX9_begin 36 = .ok (.aload_n 0, 1) := by decide +kernel
theorem dX9_begin_37 : decode cX9_begin 37 = .ok (.invokevirtual 104, 3) := by decide +kernel
theorem dX9_begin_40 : decode cX9_begin 40 = .ok (.aload_n 0, 1) := by decide +kernel
theorem dX9_begin_41 : decode cX9_begin 41 = .ok (.iload_n 1, 1) := by decide +kernel
theorem dX9_begin_42 : decode cX9_begin 42 = .ok (.putfield 252, 3) := by decide +kernel
theorem dX9_begin_45 : decode cX9_begin 45 = .ok (.aload_n 0, 1) := by decide +kernel
theorem dX9_begin_46 : decode cX9_begin 46 = .ok (.bipush 111, 2) := by decide +kernel
theorem dX9_begin_48 : decode cX9_begin 48 = .ok (.putfield 7, 3) := by decide +kernel
theorem dX9_begin_51 : decode cX9_begin 51 = .ok (.aload_n 0, 1) := by decide +kernel
theorem dX9_begin_52 : decode cX9_begin 52 = .ok (.getfield 89, 3) := by decide +kernel
theorem dX9_begin_55 : decode cX9_begin 55 = .ok (.iconst (-1), 1) := by decide +kernel
theorem dX9_begin_56 : decode cX9_begin 56 = .ok (.if_icmp .eq 22, 3) := by decide +kernel
theorem dX9_begin_59 : decode cX9_begin 59 = .ok (.aload_n 0, 1) := by decide +kernel
theorem dX9_begin_60 : decode cX9_begin 60 = .ok (.getfield 13, 3) := by decide +kernel
theorem dX9_begin_63 : decode cX9_begin 63 = .ok (.aload_n 0, 1) := by decide +kernel
theorem dX9_begin_64 : decode cX9_begin 64 = .ok (.getfield 89, 3) := by decide +kernel
theorem dX9_begin_67 : decode cX9_begin 67 = .ok (.caload, 1) := by decide +kernel
theorem dX9_begin_68 : decode cX9_begin 68 = .ok (.invokestatic 129, 3) := by decide +kernel
theorem dX9_begin_71 : decode cX9_begin 71 = .ok (.ifCond .eq 7, 3) := by decide +kernel
theorem dX9_begin_74 : decode cX9_begin 74 = .ok (.iconst 1, 1) := by decide +kernel
theorem dX9_begin_75 : decode cX9_begin 75 = .ok (.goto 4, 3) := by decide +kernel
theorem dX9_begin_78 : decode cX9_begin 78 = .ok (.iconst 0, 1) := by decide +kernel
theorem dX9_begin_79 : decode cX9_begin 79 = .ok (.istore_n 2, 1) := by decide +kernel
theorem dX9_begin_80 : decode cX9_begin 80 = .ok (.iconst 0, 1) := by decide +kernel
theorem dX9_begin_81 : decode cX9_begin 81 = .ok (.istore_n 3, 1) := by decide +kernel
theorem dX9_begin_82 : decode cX9_begin 82 = .ok (.iload_n 3, 1) := by decide +kernel
theorem dX9_begin_83 : decode cX9_begin 83 = .ok (.aload_n 0, 1) := by decide +kernel
theorem dX9_begin_84 : decode cX9_begin 84 = .ok (.getfield 162, 3) := by decide +kernel
theorem dX9_begin_87 : decode cX9_begin 87 = .ok (.if_icmp .ge 51, 3) := by decide +kernel
theorem dX9_begin_90 : decode cX9_begin 90 = .ok (.iload_n 2, 1) := by decide +kernel
theorem dX9_begin_91 : decode cX9_begin 91 = .ok (.ifCond .eq 47, 3) := by decide +kernel
theorem dX9_begin_94 : decode cX9_begin 94 = .ok (.aload_n 0, 1) := by decide +kernel
theorem dX9_begin_95 : decode cX9_begin 95 = .ok (.getfield 92, 3) := by decide +kernel
theorem dX9_begin_98 : decode cX9_begin 98 = .ok (.iload_n 3, 1) := by decide +kernel
theorem dX9_begin_99 : decode cX9_begin 99 = .ok (.baload, 1) := by decide +kernel
theorem dX9_begin_100 : decode cX9_begin 100 = .ok (.ifCond .eq 32, 3) := by decide +kernel
theorem dX9_begin_103 : decode cX9_begin 103 = .ok (.aload_n 0, 1) := by decide +kernel
theorem dX9_begin_104 : decode cX9_begin 104 = .ok (.getfield 83, 3) := by decide +kernel
theorem dX9_begin_107 : decode cX9_begin 107 = .ok (.iload_n 3, 1) := by decide +kernel
theorem dX9_begin_108 : decode cX9_begin 108 = .ok (.aload_n 0, 1) := by decide +kernel
theorem dX9_begin_109 : decode cX9_begin 109 = .ok (.getfield 95, 3) := by decide +kernel
theorem dX9_begin_112 : decode cX9_begin 112 = .ok (.iload_n 3, 1) := by decide +kernel
theorem dX9_begin_113 : decode cX9_begin 113 = .ok (.iaload, 1) := by decide +kernel
theorem dX9_begin_114 : decode cX9_begin 114 = .ok (.iconst (-1), 1) := by decide +kernel
theorem dX9_begin_115 : decode cX9_begin 115 = .ok (.if_icmp .ne 10, 3) := by decide +kernel
theorem dX9_begin_118 : decode cX9_begin 118 = .ok (.aload_n 0, 1) := by decide +kernel
theorem dX9_begin_119 : decode cX9_begin 119 = .ok (.getfield 89, 3) := by decide +kernel
theorem dX9_begin_122 : decode cX9_begin 122 = .ok (.goto 9, 3) := by decide +kernel
theorem dX9_begin_125 : decode cX9_begin 125 = .ok (.aload_n 0, 1) := by decide +kernel
theorem dX9_begin_126 : decode cX9_begin 126 = .ok (.getfield 95, 3) := by decide +kernel
theorem dX9_begin_129 : decode cX9_begin 129 = .ok (.iload_n 3, 1) := by decide +kernel
theorem dX9_begin_130 : decode cX9_begin 130 = .ok (.iaload, 1) := by decide +kernel
theorem dX9_begin_131 : decode cX9_begin 131 = .ok (.iastore, 1) := by decide +kernel
theorem dX9_begin_132 : decode cX9_begin 132 = .ok (.iinc 3 1, 3) := by decide +kernel
theorem dX9_begin_135 : decode cX9_begin 135 = .ok (.goto (-53), 3) := by decide +kernel
theorem dX9_begin_138 : decode cX9_begin 138 = .ok (.aload_n 0, 1) := by decide +kernel
theorem dX9_begin_139 : decode cX9_begin 139 = .ok (.invokevirtual 226, 3) := by decide +kernel
theorem dX9_begin_142 : decode cX9_begin 142 = .ok (.aload_n 0, 1) := by decide +kernel
theorem dX9_begin_143 : decode cX9_begin 143 = .ok (.getfield 133, 3) := by decide +kernel
theorem dX9_begin_146 : decode cX9_begin 146 = .ok (.ireturn, 1) := by decide +kernel
theorem dX9_leave_0 : decode cX9_leave 0 = .ok (.aload_n 0, 1) := by decide +kernel
theorem dX9_leave_1 : decode cX9_leave 1 = .ok (.aload_n 0, 1) := by decide +kernel
theorem dX9_leave_2 : decode cX9_leave 2 = .ok (.invokevirtual 145, 3) := by decide +kernel
theorem dX9_leave_5 : decode cX9_leave 5 = .ok (.ifCond .eq 7, 3) := by decide +kernel
theorem dX9_leave_8 : decode cX9_leave 8 = .ok (.iconst 0, 1) := by decide +kernel
theorem dX9_leave_9 : decode cX9_leave 9 = .ok (.goto 4, 3) := by decide +kernel
theorem dX9_leave_12 : decode cX9_leave 12 = .ok (.iconst 1, 1) := by decide +kernel
theorem dX9_leave_13 : decode cX9_leave 13 = .ok (.invokevirtual 149, 3) := by decide +kernel
theorem dX9_leave_16 : decode cX9_leave 16 = .ok (.ifCond .ne 5, 3) := by decide +kernel
theorem dX9_leave_19 : decode cX9_leave 19 = .ok (.iconst 0, 1) := by decide +kernel
theorem dX9_leave_20 : decode cX9_leave 20 = .ok (.ireturn, 1) := by decide +kernel
theorem dX9_leave_21 : decode cX9_leave 21 = .ok (.aload_n 0, 1) := by decide +kernel
theorem dX9_leave_22 : decode cX9_leave 22 = .ok (.bipush 108, 2) := by decide +kernel
theorem dX9_leave_24 : decode cX9_leave 24 = .ok (.putfield 7, 3) := by decide +kernel
theorem dX9_leave_27 : decode cX9_leave 27 = .ok (.aload_n 0, 1) := by decide +kernel
theorem dX9_leave_28 : decode cX9_leave 28 = .ok (.getfield 133, 3) := by decide +kernel
theorem dX9_leave_31 : decode cX9_leave 31 = .ok (.ireturn, 1) := by decide +kernel
theorem dX9_strikes_0 : decode cX9_strikes 0 = .ok (.iconst 3, 1) := by decide +kernel
theorem dX9_strikes_1 : decode cX9_strikes 1 = .ok (.aload_n 0, 1) := by decide +kernel
theorem dX9_strikes_2 : decode cX9_strikes 2 = .ok (.getfield 68, 3) := by decide +kernel
theorem dX9_strikes_5 : decode cX9_strikes 5 = .ok (.iload_n 1, 1) := by decide +kernel
theorem dX9_strikes_6 : decode cX9_strikes 6 = .ok (.iaload, 1) := by decide +kernel
theorem dX9_strikes_7 : decode cX9_strikes 7 = .ok (.imul, 1) := by decide +kernel
theorem dX9_strikes_8 : decode cX9_strikes 8 = .ok (.aload_n 0, 1) := by decide +kernel
theorem dX9_strikes_9 : decode cX9_strikes 9 = .ok (.getfield 47, 3) := by decide +kernel
theorem dX9_strikes_12 : decode cX9_strikes 12 = .ok (.iload_n 1, 1) := by decide +kernel
theorem dX9_strikes_13 : decode cX9_strikes 13 = .ok (.iaload, 1) := by decide +kernel
theorem dX9_strikes_14 : decode cX9_strikes 14 = .ok (.if_icmp .ge 7, 3) := by decide +kernel
theorem dX9_strikes_17 : decode cX9_strikes 17 = .ok (.iconst 1, 1) := by decide +kernel
theorem dX9_strikes_18 : decode cX9_strikes 18 = .ok (.goto 4, 3) := by decide +kernel
theorem dX9_strikes_21 : decode cX9_strikes 21 = .ok (.iconst 0, 1) := by decide +kernel
theorem dX9_strikes_22 : decode cX9_strikes 22 = .ok (.istore_n 3, 1) := by decide +kernel
theorem dX9_strikes_23 : decode cX9_strikes 23 = .ok (.aload_n 0, 1) := by decide +kernel
theorem dX9_strikes_24 : decode cX9_strikes 24 = .ok (.getfield 68, 3) := by decide +kernel
theorem dX9_strikes_27 : decode cX9_strikes 27 = .ok (.iload_n 1, 1) := by decide +kernel
theorem dX9_strikes_28 : decode cX9_strikes 28 = .ok (.dup2, 1) := by decide +kernel
theorem dX9_strikes_29 : decode cX9_strikes 29 = .ok (.iaload, 1) := by decide +kernel
theorem dX9_strikes_30 : decode cX9_strikes 30 = .ok (.iload_n 2, 1) := by decide +kernel
theorem dX9_strikes_31 : decode cX9_strikes 31 = .ok (.isub, 1) := by decide +kernel
theorem dX9_strikes_32 : decode cX9_strikes 32 = .ok (.iastore, 1) := by decide +kernel
theorem dX9_strikes_33 : decode cX9_strikes 33 = .ok (.aload_n 0, 1) := by decide +kernel
theorem dX9_strikes_34 : decode cX9_strikes 34 = .ok (.iload_n 1, 1) := by decide +kernel
theorem dX9_strikes_35 : decode cX9_strikes 35 = .ok (.invokevirtual 200, 3) := by decide +kernel
theorem dX9_strikes_38 : decode cX9_strikes 38 = .ok (.ifCond .ne 22, 3) := by decide +kernel
theorem dX9_strikes_41 : decode cX9_strikes 41 = .ok (.aload_n 0, 1) := by decide +kernel
theorem dX9_strikes_42 : decode cX9_strikes 42 = .ok (.dup, 1) := by decide +kernel
theorem dX9_strikes_43 : decode cX9_strikes 43 = .ok (.getfield 139, 3) := by decide +kernel
theorem dX9_strikes_46 : decode cX9_strikes 46 = .ok (.iload_n 3, 1) := by decide +kernel
theorem dX9_strikes_47 : decode cX9_strikes 47 = .ok (.ifCond .eq 8, 3) := by decide +kernel
theorem dX9_strikes_50 : decode cX9_strikes 50 = .ok (.bipush (-2), 2) := by decide +kernel
theorem dX9_strikes_52 : decode cX9_strikes 52 = .ok (.goto 4, 3) := by decide +kernel
theorem dX9_strikes_55 : decode cX9_strikes 55 = .ok (.iconst 1, 1) := by decide +kernel
theorem dX9_strikes_56 : decode cX9_strikes 56 = .ok (.iadd, 1) := by decide +kernel
theorem dX9_strikes_57 : decode cX9_strikes 57 = .ok (.putfield 139, 3) := by decide +kernel
theorem dX9_strikes_60 : decode cX9_strikes 60 = .ok (.aload_n 0, 1) := by decide +kernel
theorem dX9_strikes_61 : decode cX9_strikes 61 = .ok (.aload_n 0, 1) := by decide +kernel
theorem dX9_strikes_62 : decode cX9_strikes 62 = .ok (.getfield 65, 3) := by decide +kernel
theorem dX9_strikes_65 : decode cX9_strikes 65 = .ok (.iload_n 1, 1) := by decide +kernel
theorem dX9_strikes_66 : decode cX9_strikes 66 = .ok (.iaload, 1) := by decide +kernel
theorem dX9_strikes_67 : decode cX9_strikes 67 = .ok (.bipush 6, 2) := by decide +kernel
theorem dX9_strikes_69 : decode cX9_strikes 69 = .ok (.invokevirtual 238, 3) := by decide +kernel
theorem dX9_strikes_72 : decode cX9_strikes 72 = .ok (.istore 4, 2) := by decide +kernel
theorem dX9_strikes_74 : decode cX9_strikes 74 = .ok (.return_, 1) := by decide +kernel
theorem dX9_works_0 : decode cX9_works 0 = .ok (.aload_n 0, 1) := by decide +kernel
theorem dX9_works_1 : decode cX9_works 1 = .ok (.getfield 28, 3) := by decide +kernel
theorem dX9_works_4 : decode cX9_works 4 = .ok (.iload_n 1, 1) := by decide +kernel
theorem dX9_works_5 : decode cX9_works 5 = .ok (.iaload, 1) := by decide +kernel
theorem dX9_works_6 : decode cX9_works 6 = .ok (.istore_n 3, 1) := by decide +kernel
theorem dX9_works_7 : decode cX9_works 7 = .ok (.aload_n 0, 1) := by decide +kernel
theorem dX9_works_8 : decode cX9_works 8 = .ok (.getfield 25, 3) := by decide +kernel
theorem dX9_works_11 : decode cX9_works 11 = .ok (.iload_n 1, 1) := by decide +kernel
theorem dX9_works_12 : decode cX9_works 12 = .ok (.caload, 1) := by decide +kernel
theorem dX9_works_13 : decode cX9_works 13 = .ok (.bipush 104, 2) := by decide +kernel
theorem dX9_works_15 : decode cX9_works 15 = .ok (.if_icmp .ne 46, 3) := by decide +kernel
theorem dX9_works_18 : decode cX9_works 18 = .ok (.aload_n 0, 1) := by decide +kernel
theorem dX9_works_19 : decode cX9_works 19 = .ok (.getfield 68, 3) := by decide +kernel
theorem dX9_works_22 : decode cX9_works 22 = .ok (.iload_n 2, 1) := by decide +kernel
theorem dX9_works_23 : decode cX9_works 23 = .ok (.aload_n 0, 1) := by decide +kernel
theorem dX9_works_24 : decode cX9_works 24 = .ok (.getfield 68, 3) := by decide +kernel
theorem dX9_works_27 : decode cX9_works 27 = .ok (.iload_n 2, 1) := by decide +kernel
theorem dX9_works_28 : decode cX9_works 28 = .ok (.iaload, 1) := by decide +kernel
theorem dX9_works_29 : decode cX9_works 29 = .ok (.iload_n 3, 1) := by decide +kernel
theorem dX9_works_30 : decode cX9_works 30 = .ok (.iadd, 1) := by decide +kernel
theorem dX9_works_31 : decode cX9_works 31 = .ok (.aload_n 0, 1) := by decide +kernel
theorem dX9_works_32 : decode cX9_works 32 = .ok (.getfield 47, 3) := by decide +kernel
theorem dX9_works_35 : decode cX9_works 35 = .ok (.iload_n 2, 1) := by decide +kernel
theorem dX9_works_36 : decode cX9_works 36 = .ok (.iaload, 1) := by decide +kernel
theorem dX9_works_37 : decode cX9_works 37 = .ok (.if_icmp .le 12, 3) := by decide +kernel
theorem dX9_works_40 : decode cX9_works 40 = .ok (.aload_n 0, 1) := by decide +kernel
theorem dX9_works_41 : decode cX9_works 41 = .ok (.getfield 47, 3) := by decide +kernel
theorem dX9_works_44 : decode cX9_works 44 = .ok (.iload_n 2, 1) := by decide +kernel
theorem dX9_works_45 : decode cX9_works 45 = .ok (.iaload, 1) := by decide +kernel
theorem dX9_works_46 : decode cX9_works 46 = .ok (.goto 11, 3) := by decide +kernel
theorem dX9_works_49 : decode cX9_works 49 = .ok (.aload_n 0, 1) := by decide +kernel
theorem dX9_works_50 : decode cX9_works 50 = .ok (.getfield 68, 3) := by decide +kernel
theorem dX9_works_53 : decode cX9_works 53 = .ok (.iload_n 2, 1) := by decide +kernel
theorem dX9_works_54 : decode cX9_works 54 = .ok (.iaload, 1) := by decide +kernel
theorem dX9_works_55 : decode cX9_works 55 = .ok (.iload_n 3, 1) := by decide +kernel
theorem dX9_works_56 : decode cX9_works 56 = .ok (.iadd, 1) := by decide +kernel
theorem dX9_works_57 : decode cX9_works 57 = .ok (.iastore, 1) := by decide +kernel
theorem dX9_works_58 : decode cX9_works 58 = .ok (.goto 76, 3) := by decide +kernel
theorem dX9_works_61 : decode cX9_works 61 = .ok (.aload_n 0, 1) := by decide +kernel
theorem dX9_works_62 : decode cX9_works 62 = .ok (.getfield 25, 3) := by decide +kernel
theorem dX9_works_65 : decode cX9_works 65 = .ok (.iload_n 1, 1) := by decide +kernel
theorem dX9_works_66 : decode cX9_works 66 = .ok (.caload, 1) := by decide +kernel
theorem dX9_works_67 : decode cX9_works 67 = .ok (.bipush 100, 2) := by decide +kernel
theorem dX9_works_69 : decode cX9_works 69 = .ok (.if_icmp .ne 16, 3) := by decide +kernel
theorem dX9_works_72 : decode cX9_works 72 = .ok (.aload_n 0, 1) := by decide +kernel
theorem dX9_works_73 : decode cX9_works 73 = .ok (.getfield 68, 3) := by decide +kernel
theorem dX9_works_76 : decode cX9_works 76 = .ok (.iload_n 2, 1) := by decide +kernel
theorem dX9_works_77 : decode cX9_works 77 = .ok (.dup2, 1) := by decide +kernel
theorem dX9_works_78 : decode cX9_works 78 = .ok (.iaload, 1) := by decide +kernel
theorem dX9_works_79 : decode cX9_works 79 = .ok (.iload_n 3, 1) := by decide +kernel
theorem dX9_works_80 : decode cX9_works 80 = .ok (.isub, 1) := by decide +kernel
theorem dX9_works_81 : decode cX9_works 81 = .ok (.iastore, 1) := by decide +kernel
theorem dX9_works_82 : decode cX9_works 82 = .ok (.goto 52, 3) := by decide +kernel
theorem dX9_works_85 : decode cX9_works 85 = .ok (.aload_n 0, 1) := by decide +kernel
theorem dX9_works_86 : decode cX9_works 86 = .ok (.getfield 25, 3) := by decide +kernel
theorem dX9_works_89 : decode cX9_works 89 = .ok (.iload_n 1, 1) := by decide +kernel
theorem dX9_works_90 : decode cX9_works 90 = .ok (.caload, 1) := by decide +kernel
theorem dX9_works_91 : decode cX9_works 91 = .ok (.bipush 115, 2) := by decide +kernel
theorem dX9_works_93 : decode cX9_works 93 = .ok (.if_icmp .ne 21, 3) := by decide +kernel
theorem dX9_works_96 : decode cX9_works 96 = .ok (.aload_n 0, 1) := by decide +kernel
theorem dX9_works_97 : decode cX9_works 97 = .ok (.getfield 74, 3) := by decide +kernel
theorem dX9_works_100 : decode cX9_works 100 = .ok (.iload_n 2, 1) := by decide +kernel
theorem dX9_works_101 : decode cX9_works 101 = .ok (.iload_n 3, 1) := by decide +kernel
theorem dX9_works_102 : decode cX9_works 102 = .ok (.iastore, 1) := by decide +kernel
theorem dX9_works_103 : decode cX9_works 103 = .ok (.aload_n 0, 1) := by decide +kernel
theorem dX9_works_104 : decode cX9_works 104 = .ok (.getfield 77, 3) := by decide +kernel
theorem dX9_works_107 : decode cX9_works 107 = .ok (.iload_n 2, 1) := by decide +kernel
theorem dX9_works_108 : decode cX9_works 108 = .ok (.bipush 12, 2) := by decide +kernel
theorem dX9_works_110 : decode cX9_works 110 = .ok (.iastore, 1) := by decide +kernel
theorem dX9_works_111 : decode cX9_works 111 = .ok (.goto 23, 3) := by decide +kernel
theorem dX9_works_114 : decode cX9_works 114 = .ok (.aload_n 0, 1) := by decide +kernel
theorem dX9_works_115 : decode cX9_works 115 = .ok (.getfield 25, 3) := by decide +kernel
theorem dX9_works_118 : decode cX9_works 118 = .ok (.iload_n 1, 1) := by decide +kernel
theorem dX9_works_119 : decode cX9_works 119 = .ok (.caload, 1) := by decide +kernel
theorem dX9_works_120 : decode cX9_works 120 = .ok (.bipush 98, 2) := by decide +kernel
theorem dX9_works_122 : decode cX9_works 122 = .ok (.if_icmp .ne 12, 3) := by decide +kernel
theorem dX9_works_125 : decode cX9_works 125 = .ok (.iload_n 2, 1) := by decide +kernel
theorem dX9_works_126 : decode cX9_works 126 = .ok (.ifCond .ne 8, 3) := by decide +kernel
theorem dX9_works_129 : decode cX9_works 129 = .ok (.aload_n 0, 1) := by decide +kernel
theorem dX9_works_130 : decode cX9_works 130 = .ok (.iload_n 3, 1) := by decide +kernel
theorem dX9_works_131 : decode cX9_works 131 = .ok (.putfield 136, 3) := by decide +kernel
theorem dX9_works_134 : decode cX9_works 134 = .ok (.return_, 1) := by decide +kernel
theorem dX9_burns_0 : decode cX9_burns 0 = .ok (.iconst 0, 1) := by decide +kernel
theorem dX9_burns_1 : decode cX9_burns 1 = .ok (.istore_n 3, 1) := by decide +kernel
theorem dX9_burns_2 : decode cX9_burns 2 = .ok (.iload_n 3, 1) := by decide +kernel
theorem dX9_burns_3 : decode cX9_burns 3 = .ok (.aload_n 0, 1) := by decide +kernel
theorem dX9_burns_4 : decode cX9_burns 4 = .ok (.getfield 162, 3) := by decide +kernel
theorem dX9_burns_7 : decode cX9_burns 7 = .ok (.if_icmp .ge 124, 3) := by decide +kernel
theorem dX9_burns_10 : decode cX9_burns 10 = .ok (.aload_n 0, 1) := by decide +kernel
theorem dX9_burns_11 : decode cX9_burns 11 = .ok (.getfield 83, 3) := by decide +kernel
theorem dX9_burns_14 : decode cX9_burns 14 = .ok (.iload_n 3, 1) := by decide +kernel
theorem dX9_burns_15 : decode cX9_burns 15 = .ok (.iaload, 1) := by decide +kernel
theorem dX9_burns_16 : decode cX9_burns 16 = .ok (.ifCond .lt 35, 3) := by decide +kernel
theorem dX9_burns_19 : decode cX9_burns 19 = .ok (.aload_n 0, 1) := by decide +kernel
theorem dX9_burns_20 : decode cX9_burns 20 = .ok (.getfield 21, 3) := by decide +kernel
theorem dX9_burns_23 : decode cX9_burns 23 = .ok (.aload_n 0, 1) := by decide +kernel
theorem dX9_burns_24 : decode cX9_burns 24 = .ok (.getfield 50, 3) := by decide +kernel
theorem dX9_burns_27 : decode cX9_burns 27 = .ok (.iload_n 3, 1) := by decide +kernel
theorem dX9_burns_28 : decode cX9_burns 28 = .ok (.iaload, 1) := by decide +kernel
theorem dX9_burns_29 : decode cX9_burns 29 = .ok (.baload, 1) := by decide +kernel
theorem dX9_burns_30 : decode cX9_burns 30 = .ok (.ifCond .eq 21, 3) := by decide +kernel
theorem dX9_burns_33 : decode cX9_burns 33 = .ok (.aload_n 0, 1) := by decide +kernel
theorem dX9_burns_34 : decode cX9_burns 34 = .ok (.getfield 83, 3) := by decide +kernel
theorem dX9_burns_37 : decode cX9_burns 37 = .ok (.iload_n 3, 1) := by decide +kernel
theorem dX9_burns_38 : decode cX9_burns 38 = .ok (.iaload, 1) := by decide +kernel
theorem dX9_burns_39 : decode cX9_burns 39 = .ok (.iload_n 1, 1) := by decide +kernel
theorem dX9_burns_40 : decode cX9_burns 40 = .ok (.invokestatic 183, 3) := by decide +kernel
theorem dX9_burns_43 : decode cX9_burns 43 = .ok (.iload_n 2, 1) := by decide +kernel
theorem dX9_burns_44 : decode cX9_burns 44 = .ok (.if_icmp .gt 7, 3) := by decide +kernel
theorem dX9_burns_47 : decode cX9_burns 47 = .ok (.iconst 1, 1) := by decide +kernel
theorem dX9_burns_48 : decode cX9_burns 48 = .ok (.goto 4, 3) := by decide +kernel
theorem dX9_burns_51 : decode cX9_burns 51 = .ok (.iconst 0, 1) := by decide +kernel
theorem dX9_burns_52 : decode cX9_burns 52 = .ok (.istore 4, 2) := by decide +kernel
theorem dX9_burns_54 : decode cX9_burns 54 = .ok (.iload 4, 2) := by decide +kernel
theorem dX9_burns_56 : decode cX9_burns 56 = .ok (.ifCond .ne 6, 3) := by decide +kernel
theorem dX9_burns_59 : decode cX9_burns 59 = .ok (.goto 66, 3) := by decide +kernel
theorem dX9_burns_62 : decode cX9_burns 62 = .ok (.iconst 0, 1) := by decide +kernel
theorem dX9_burns_63 : decode cX9_burns 63 = .ok (.istore 5, 2) := by decide +kernel
theorem dX9_burns_65 : decode cX9_burns 65 = .ok (.iload 5, 2) := by decide +kernel
theorem dX9_burns_67 : decode cX9_burns 67 = .ok (.aload_n 0, 1) := by decide +kernel
theorem dX9_burns_68 : decode cX9_burns 68 = .ok (.getfield 162, 3) := by decide +kernel
theorem dX9_burns_71 : decode cX9_burns 71 = .ok (.if_icmp .ge 46, 3) := by decide +kernel
theorem dX9_burns_74 : decode cX9_burns 74 = .ok (.aload_n 0, 1) := by decide +kernel
theorem dX9_burns_75 : decode cX9_burns 75 = .ok (.getfield 83, 3) := by decide +kernel
theorem dX9_burns_78 : decode cX9_burns 78 = .ok (.iload 5, 2) := by decide +kernel
theorem dX9_burns_80 : decode cX9_burns 80 = .ok (.aload_n 0, 1) := by decide +kernel
theorem dX9_burns_81 : decode cX9_burns 81 = .ok (.getfield 83, 3) := by decide +kernel
theorem dX9_burns_84 : decode cX9_burns 84 = .ok (.iload 5, 2) := by decide +kernel
theorem dX9_burns_86 : decode cX9_burns 86 = .ok (.iaload, 1) := by decide +kernel
theorem dX9_burns_87 : decode cX9_burns 87 = .ok (.bipush (-3), 2) := by decide +kernel
theorem dX9_burns_89 : decode cX9_burns 89 = .ok (.iload_n 3, 1) := by decide +kernel
theorem dX9_burns_90 : decode cX9_burns 90 = .ok (.isub, 1) := by decide +kernel
theorem dX9_burns_91 : decode cX9_burns 91 = .ok (.if_icmp .ne 12, 3) := by decide +kernel
theorem dX9_burns_94 : decode cX9_burns 94 = .ok (.aload_n 0, 1) := by decide +kernel
theorem dX9_burns_95 : decode cX9_burns 95 = .ok (.getfield 83, 3) := by decide +kernel
theorem dX9_burns_98 : decode cX9_burns 98 = .ok (.iload_n 3, 1) := by decide +kernel
theorem dX9_burns_99 : decode cX9_burns 99 = .ok (.iaload, 1) := by decide +kernel
theorem dX9_burns_100 : decode cX9_burns 100 = .ok (.goto 10, 3) := by decide +kernel
theorem dX9_burns_103 : decode cX9_burns 103 = .ok (.aload_n 0, 1) := by decide +kernel
theorem dX9_burns_104 : decode cX9_burns 104 = .ok (.getfield 83, 3) := by decide +kernel
theorem dX9_burns_107 : decode cX9_burns 107 = .ok (.iload 5, 2) := by decide +kernel
theorem dX9_burns_109 : decode cX9_burns 109 = .ok (.iaload, 1) := by decide +kernel
theorem dX9_burns_110 : decode cX9_burns 110 = .ok (.iastore, 1) := by decide +kernel
theorem dX9_burns_111 : decode cX9_burns 111 = .ok (.iinc 5 1, 3) := by decide +kernel
theorem dX9_burns_114 : decode cX9_burns 114 = .ok (.goto (-49), 3) := by decide +kernel
theorem dX9_burns_117 : decode cX9_burns 117 = .ok (.aload_n 0, 1) := by decide +kernel
theorem dX9_burns_118 : decode cX9_burns 118 = .ok (.getfield 83, 3) := by decide +kernel
theorem dX9_burns_121 : decode cX9_burns 121 = .ok (.iload_n 3, 1) := by decide +kernel
theorem dX9_burns_122 : decode cX9_burns 122 = .ok (.bipush (-2), 2) := by decide +kernel
theorem dX9_burns_124 : decode cX9_burns 124 = .ok (.iastore, 1) := by decide +kernel
theorem dX9_burns_125 : decode cX9_burns 125 = .ok (.iinc 3 1, 3) := by decide +kernel
theorem dX9_burns_128 : decode cX9_burns 128 = .ok (.goto (-126), 3) := by decide +kernel
theorem dX9_burns_131 : decode cX9_burns 131 = .ok (.return_, 1) := by decide +kernel
theorem dX9_breaks_0 : decode cX9_breaks 0 = .ok (.aload_n 0, 1) := by decide +kernel
theorem dX9_breaks_1 : decode cX9_breaks 1 = .ok (.getfield 50, 3) := by decide +kernel
theorem dX9_breaks_4 : decode cX9_breaks 4 = .ok (.iload_n 1, 1) := by decide +kernel
theorem dX9_breaks_5 : decode cX9_breaks 5 = .ok (.iaload, 1) := by decide +kernel
theorem dX9_breaks_6 : decode cX9_breaks 6 = .ok (.istore_n 3, 1) := by decide +kernel
theorem dX9_breaks_7 : decode cX9_breaks 7 = .ok (.aload_n 0, 1) := by decide +kernel
theorem dX9_breaks_8 : decode cX9_breaks 8 = .ok (.getfield 83, 3) := by decide +kernel
theorem dX9_breaks_11 : decode cX9_breaks 11 = .ok (.iload_n 1, 1) := by decide +kernel
theorem dX9_breaks_12 : decode cX9_breaks 12 = .ok (.bipush (-2), 2) := by decide +kernel
theorem dX9_breaks_14 : decode cX9_breaks 14 = .ok (.iastore, 1) := by decide +kernel
theorem dX9_breaks_15 : decode cX9_breaks 15 = .ok (.aload_n 0, 1) := by decide +kernel
theorem dX9_breaks_16 : decode cX9_breaks 16 = .ok (.getfield 86, 3) := by decide +kernel
theorem dX9_breaks_19 : decode cX9_breaks 19 = .ok (.iload_n 3, 1) := by decide +kernel
theorem dX9_breaks_20 : decode cX9_breaks 20 = .ok (.iconst 1, 1) := by decide +kernel
theorem dX9_breaks_21 : decode cX9_breaks 21 = .ok (.bastore, 1) := by decide +kernel
theorem dX9_breaks_22 : decode cX9_breaks 22 = .ok (.iconst 0, 1) := by decide +kernel
theorem dX9_breaks_23 : decode cX9_breaks 23 = .ok (.istore 4, 2) := by decide +kernel
theorem dX9_breaks_25 : decode cX9_breaks 25 = .ok (.iload 4, 2) := by decide +kernel
theorem dX9_breaks_27 : decode cX9_breaks 27 = .ok (.aload_n 0, 1) := by decide +kernel
theorem dX9_breaks_28 : decode cX9_breaks 28 = .ok (.getfield 34, 3) := by decide +kernel
theorem dX9_breaks_31 : decode cX9_breaks 31 = .ok (.if_icmp .ge 45, 3) := by decide +kernel
theorem dX9_breaks_34 : decode cX9_breaks 34 = .ok (.aload_n 0, 1) := by decide +kernel
theorem dX9_breaks_35 : decode cX9_breaks 35 = .ok (.iload 4, 2) := by decide +kernel
theorem dX9_breaks_37 : decode cX9_breaks 37 = .ok (.invokevirtual 200, 3) := by decide +kernel
theorem dX9_breaks_40 : decode cX9_breaks 40 = .ok (.ifCond .eq 30, 3) := by decide +kernel
theorem dX9_breaks_43 : decode cX9_breaks 43 = .ok (.aload_n 0, 1) := by decide +kernel
theorem dX9_breaks_44 : decode cX9_breaks 44 = .ok (.getfield 65, 3) := by decide +kernel
theorem dX9_breaks_47 : decode cX9_breaks 47 = .ok (.iload 4, 2) := by decide +kernel
theorem dX9_breaks_49 : decode cX9_breaks 49 = .ok (.iaload, 1) := by decide +kernel
theorem dX9_breaks_50 : decode cX9_breaks 50 = .ok (.iload_n 2, 1) := by decide +kernel
theorem dX9_breaks_51 : decode cX9_breaks 51 = .ok (.invokestatic 183, 3) := by decide +kernel
theorem dX9_breaks_54 : decode cX9_breaks 54 = .ok (.aload_n 0, 1) := by decide +kernel
theorem dX9_breaks_55 : decode cX9_breaks 55 = .ok (.getfield 31, 3) := by decide +kernel
theorem dX9_breaks_58 : decode cX9_breaks 58 = .ok (.iload_n 3, 1) := by decide +kernel
theorem dX9_breaks_59 : decode cX9_breaks 59 = .ok (.iaload, 1) := by decide +kernel
theorem dX9_breaks_60 : decode cX9_breaks 60 = .ok (.if_icmp .gt 10, 3) := by decide +kernel
theorem dX9_breaks_63 : decode cX9_breaks 63 = .ok (.aload_n 0, 1) := by decide +kernel
theorem dX9_breaks_64 : decode cX9_breaks 64 = .ok (.iload_n 3, 1) := by decide +kernel
theorem dX9_breaks_65 : decode cX9_breaks 65 = .ok (.iload 4, 2) := by decide +kernel
theorem dX9_breaks_67 : decode cX9_breaks 67 = .ok (.invokevirtual 255, 3) := by decide +kernel
theorem dX9_breaks_70 : decode cX9_breaks 70 = .ok (.iinc 4 1, 3) := by decide +kernel
theorem dX9_breaks_73 : decode cX9_breaks 73 = .ok (.goto (-48), 3) := by decide +kernel
theorem dX9_breaks_76 : decode cX9_breaks 76 = .ok (.aload_n 0, 1) := by decide +kernel
theorem dX9_breaks_77 : decode cX9_breaks 77 = .ok (.getfield 25, 3) := by decide +kernel
theorem dX9_breaks_80 : decode cX9_breaks 80 = .ok (.iload_n 3, 1) := by decide +kernel
theorem dX9_breaks_81 : decode cX9_breaks 81 = .ok (.caload, 1) := by decide +kernel
theorem dX9_breaks_82 : decode cX9_breaks 82 = .ok (.bipush 102, 2) := by decide +kernel
theorem dX9_breaks_84 : decode cX9_breaks 84 = .ok (.if_icmp .ne 14, 3) := by decide +kernel
theorem dX9_breaks_87 : decode cX9_breaks 87 = .ok (.aload_n 0, 1) := by decide +kernel
theorem dX9_breaks_88 : decode cX9_breaks 88 = .ok (.iload_n 2, 1) := by decide +kernel
theorem dX9_breaks_89 : decode cX9_breaks 89 = .ok (.aload_n 0, 1) := by decide +kernel
theorem dX9_breaks_90 : decode cX9_breaks 90 = .ok (.getfield 31, 3) := by decide +kernel
theorem dX9_breaks_93 : decode cX9_breaks 93 = .ok (.iload_n 3, 1) := by decide +kernel
theorem dX9_breaks_94 : decode cX9_breaks 94 = .ok (.iaload, 1) := by decide +kernel
theorem dX9_breaks_95 : decode cX9_breaks 95 = .ok (.invokevirtual 258, 3) := by decide +kernel
theorem dX9_breaks_98 : decode cX9_breaks 98 = .ok (.aload_n 0, 1) := by decide +kernel
theorem dX9_breaks_99 : decode cX9_breaks 99 = .ok (.iload_n 2, 1) := by decide +kernel
theorem dX9_breaks_100 : decode cX9_breaks 100 = .ok (.bipush 6, 2) := by decide +kernel
theorem dX9_breaks_102 : decode cX9_breaks 102 = .ok (.invokevirtual 238, 3) := by decide +kernel
theorem dX9_breaks_105 : decode cX9_breaks 105 = .ok (.istore 4, 2) := by decide +kernel
theorem dX9_breaks_107 : decode cX9_breaks 107 = .ok (.return_, 1) := by decide +kernel
theorem dX9_hasKeyFor_0 : decode cX9_hasKeyFor 0 = .ok (.iload_n 1, 1) := by decide +kernel
theorem dX9_hasKeyFor_1 : decode cX9_hasKeyFor 1 = .ok (.bipush 48, 2) := by decide +kernel
theorem dX9_hasKeyFor_3 : decode cX9_hasKeyFor 3 = .ok (.bipush 50, 2) := by decide +kernel
theorem dX9_hasKeyFor_5 : decode cX9_hasKeyFor 5 = .ok (.invokestatic 110, 3) := by decide +kernel
theorem dX9_hasKeyFor_8 : decode cX9_hasKeyFor 8 = .ok (.ifCond .eq 18, 3) := by decide +kernel
theorem dX9_hasKeyFor_11 : decode cX9_hasKeyFor 11 = .ok (.aload_n 0, 1) := by decide +kernel
theorem dX9_hasKeyFor_12 : decode cX9_hasKeyFor 12 = .ok (.iload_n 1, 1) := by decide +kernel
theorem dX9_hasKeyFor_13 : decode cX9_hasKeyFor 13 = .ok (.bipush 48, 2) := by decide +kernel
theorem dX9_hasKeyFor_15 : decode cX9_hasKeyFor 15 = .ok (.isub, 1) := by decide +kernel
theorem dX9_hasKeyFor_16 : decode cX9_hasKeyFor 16 = .ok (.invokevirtual 261, 3) := by decide +kernel
theorem dX9_hasKeyFor_19 : decode cX9_hasKeyFor 19 = .ok (.ifCond .eq 7, 3) := by decide +kernel
theorem dX9_hasKeyFor_22 : decode cX9_hasKeyFor 22 = .ok (.iconst 1, 1) := by decide +kernel
theorem dX9_hasKeyFor_23 : decode cX9_hasKeyFor 23 = .ok (.goto 4, 3) := by decide +kernel
theorem dX9_hasKeyFor_26 : decode cX9_hasKeyFor 26 = .ok (.iconst 0, 1) := by decide +kernel
theorem dX9_hasKeyFor_27 : decode cX9_hasKeyFor 27 = .ok (.ireturn, 1) := by decide +kernel
theorem dX9_go_0 : decode cX9_go 0 = .ok (.aload_n 0, 1) := by decide +kernel
theorem dX9_go_1 : decode cX9_go 1 = .ok (.iload_n 1, 1) := by decide +kernel
theorem dX9_go_2 : decode cX9_go 2 = .ok (.iconst 0, 1) := by decide +kernel
theorem dX9_go_3 : decode cX9_go 3 = .ok (.iconst 3, 1) := by decide +kernel
theorem dX9_go_4 : decode cX9_go 4 = .ok (.invokestatic 110, 3) := by decide +kernel
theorem dX9_go_7 : decode cX9_go 7 = .ok (.ifCond .ne 7, 3) := by decide +kernel
theorem dX9_go_10 : decode cX9_go 10 = .ok (.iconst 1, 1) := by decide +kernel
theorem dX9_go_11 : decode cX9_go 11 = .ok (.goto 15, 3) := by decide +kernel
theorem dX9_go_14 : decode cX9_go 14 = .ok (.aload_n 0, 1) := by decide +kernel
theorem dX9_go_15 : decode cX9_go 15 = .ok (.invokevirtual 145, 3) := by decide +kernel
theorem dX9_go_18 : decode cX9_go 18 = .ok (.ifCond .ne 7, 3) := by decide +kernel
theorem dX9_go_21 : decode cX9_go 21 = .ok (.iconst 2, 1) := by decide +kernel
theorem dX9_go_22 : decode cX9_go 22 = .ok (.goto 4, 3) := by decide +kernel
theorem dX9_go_25 : decode cX9_go 25 = .ok (.iconst 0, 1) := by decide +kernel
theorem dX9_go_26 : decode cX9_go 26 = .ok (.invokevirtual 149, 3) := by decide +kernel
theorem dX9_go_29 : decode cX9_go 29 = .ok (.ifCond .ne 5, 3) := by decide +kernel
theorem dX9_go_32 : decode cX9_go 32 = .ok (.iconst 0, 1) := by decide +kernel
theorem dX9_go_33 : decode cX9_go 33 = .ok (.ireturn, 1) := by decide +kernel
theorem dX9_go_34 : decode cX9_go 34 = .ok (.aload_n 0, 1) := by decide +kernel
theorem dX9_go_35 : decode cX9_go 35 = .ok (.getfield 65, 3) := by decide +kernel
theorem dX9_go_38 : decode cX9_go 38 = .ok (.iconst 0, 1) := by decide +kernel
theorem dX9_go_39 : decode cX9_go 39 = .ok (.iaload, 1) := by decide +kernel
theorem dX9_go_40 : decode cX9_go 40 = .ok (.iload_n 1, 1) := by decide +kernel
theorem dX9_go_41 : decode cX9_go 41 = .ok (.invokestatic 193, 3) := by decide +kernel
theorem dX9_go_44 : decode cX9_go 44 = .ok (.istore_n 2, 1) := by decide +kernel
theorem dX9_go_45 : decode cX9_go 45 = .ok (.iload_n 2, 1) := by decide +kernel
theorem dX9_go_46 : decode cX9_go 46 = .ok (.iconst (-1), 1) := by decide +kernel
theorem dX9_go_47 : decode cX9_go 47 = .ok (.if_icmp .ne 7, 3) := by decide +kernel
theorem dX9_go_50 : decode cX9_go 50 = .ok (.iconst (-1), 1) := by decide +kernel
theorem dX9_go_51 : decode cX9_go 51 = .ok (.goto 8, 3) := by decide +kernel
theorem dX9_go_54 : decode cX9_go 54 = .ok (.aload_n 0, 1) := by decide +kernel
theorem dX9_go_55 : decode cX9_go 55 = .ok (.iload_n 2, 1) := by decide +kernel
theorem dX9_go_56 : decode cX9_go 56 = .ok (.invokevirtual 229, 3) := by decide +kernel
theorem dX9_go_59 : decode cX9_go 59 = .ok (.istore_n 3, 1) := by decide +kernel
theorem dX9_go_60 : decode cX9_go 60 = .ok (.bipush 98, 2) := by decide +kernel
theorem dX9_go_62 : decode cX9_go 62 = .ok (.istore 4, 2) := by decide +kernel
theorem dX9_go_64 : decode cX9_go 64 = .ok (.iload_n 3, 1) := by decide +kernel
theorem dX9_go_65 : decode cX9_go 65 = .ok (.iconst (-1), 1) := by decide +kernel
theorem dX9_go_66 : decode cX9_go 66 = .ok (.if_icmp .eq 30, 3) := by decide +kernel
theorem dX9_go_69 : decode cX9_go 69 = .ok (.aload_n 0, 1) := by decide +kernel
theorem dX9_go_70 : decode cX9_go 70 = .ok (.iload_n 3, 1) := by decide +kernel
theorem dX9_go_71 : decode cX9_go 71 = .ok (.aload_n 0, 1) := by decide +kernel
theorem dX9_go_72 : decode cX9_go 72 = .ok (.bipush 7, 2) := by decide +kernel
theorem dX9_go_74 : decode cX9_go 74 = .ok (.invokevirtual 264, 3) := by decide +kernel
theorem dX9_go_77 : decode cX9_go 77 = .ok (.ifCond .eq 8, 3) := by decide +kernel
theorem dX9_go_80 : decode cX9_go 80 = .ok (.bipush 7, 2) := by decide +kernel
theorem dX9_go_82 : decode cX9_go 82 = .ok (.goto 4, 3) := by decide +kernel
theorem dX9_go_85 : decode cX9_go 85 = .ok (.iconst 3, 1) := by decide +kernel
theorem dX9_go_86 : decode cX9_go 86 = .ok (.invokevirtual 267, 3) := by decide +kernel
theorem dX9_go_89 : decode cX9_go 89 = .ok (.bipush 97, 2) := by decide +kernel
theorem dX9_go_91 : decode cX9_go 91 = .ok (.istore 4, 2) := by decide +kernel
theorem dX9_go_93 : decode cX9_go 93 = .ok (.goto 66, 3) := by decide +kernel
theorem dX9_go_96 : decode cX9_go 96 = .ok (.iload_n 2, 1) := by decide +kernel
theorem dX9_go_97 : decode cX9_go 97 = .ok (.iconst (-1), 1) := by decide +kernel
theorem dX9_go_98 : decode cX9_go 98 = .ok (.if_icmp .eq 42, 3) := by decide +kernel
theorem dX9_go_101 : decode cX9_go 101 = .ok (.aload_n 0, 1) := by decide +kernel
theorem dX9_go_102 : decode cX9_go 102 = .ok (.getfield 62, 3) := by decide +kernel
theorem dX9_go_105 : decode cX9_go 105 = .ok (.iload_n 2, 1) := by decide +kernel
theorem dX9_go_106 : decode cX9_go 106 = .ok (.caload, 1) := by decide +kernel
theorem dX9_go_107 : decode cX9_go 107 = .ok (.bipush 43, 2) := by decide +kernel
theorem dX9_go_109 : decode cX9_go 109 = .ok (.if_icmp .eq 16, 3) := by decide +kernel
theorem dX9_go_112 : decode cX9_go 112 = .ok (.aload_n 0, 1) := by decide +kernel
theorem dX9_go_113 : decode cX9_go 113 = .ok (.aload_n 0, 1) := by decide +kernel
theorem dX9_go_114 : decode cX9_go 114 = .ok (.getfield 62, 3) := by decide +kernel
theorem dX9_go_117 : decode cX9_go 117 = .ok (.iload_n 2, 1) := by decide +kernel
theorem dX9_go_118 : decode cX9_go 118 = .ok (.caload, 1) := by decide +kernel
theorem dX9_go_119 : decode cX9_go 119 = .ok (.invokevirtual 270, 3) := by decide +kernel
theorem dX9_go_122 : decode cX9_go 122 = .ok (.ifCond .eq 18, 3) := by decide +kernel
theorem dX9_go_125 : decode cX9_go 125 = .ok (.aload_n 0, 1) := by decide +kernel
theorem dX9_go_126 : decode cX9_go 126 = .ok (.getfield 62, 3) := by decide +kernel
theorem dX9_go_129 : decode cX9_go 129 = .ok (.iload_n 2, 1) := by decide +kernel
theorem dX9_go_130 : decode cX9_go 130 = .ok (.bipush 47, 2) := by decide +kernel
theorem dX9_go_132 : decode cX9_go 132 = .ok (.castore, 1) := by decide +kernel
theorem dX9_go_133 : decode cX9_go 133 = .ok (.bipush 111, 2) := by decide +kernel
theorem dX9_go_135 : decode cX9_go 135 = .ok (.istore 4, 2) := by decide +kernel
theorem dX9_go_137 : decode cX9_go 137 = .ok (.goto 22, 3) := by decide +kernel
theorem dX9_go_140 : decode cX9_go 140 = .ok (.aload_n 0, 1) := by decide +kernel
theorem dX9_go_141 : decode cX9_go 141 = .ok (.iload_n 2, 1) := by decide +kernel
theorem dX9_go_142 : decode cX9_go 142 = .ok (.invokevirtual 174, 3) := by decide +kernel
theorem dX9_go_145 : decode cX9_go 145 = .ok (.ifCond .eq 14, 3) := by decide +kernel
theorem dX9_go_148 : decode cX9_go 148 = .ok (.aload_n 0, 1) := by decide +kernel
theorem dX9_go_149 : decode cX9_go 149 = .ok (.getfield 65, 3) := by decide +kernel
theorem dX9_go_152 : decode cX9_go 152 = .ok (.iconst 0, 1) := by decide +kernel
theorem dX9_go_153 : decode cX9_go 153 = .ok (.iload_n 2, 1) := by decide +kernel
theorem dX9_go_154 : decode cX9_go 154 = .ok (.iastore, 1) := by decide +kernel
theorem dX9_go_155 : decode cX9_go 155 = .ok (.bipush 109, 2) := by decide +kernel
theorem dX9_go_157 : decode cX9_go 157 = .ok (.istore 4, 2) := by decide +kernel
theorem dX9_go_159 : decode cX9_go 159 = .ok (.iload 4, 2) := by decide +kernel
theorem dX9_go_161 : decode cX9_go 161 = .ok (.bipush 98, 2) := by decide +kernel
theorem dX9_go_163 : decode cX9_go 163 = .ok (.if_icmp .eq 7, 3) := by decide +kernel
theorem dX9_go_166 : decode cX9_go 166 = .ok (.aload_n 0, 1) := by decide +kernel
theorem dX9_go_167 : decode cX9_go 167 = .ok (.invokevirtual 273, 3) := by decide +kernel
theorem dX9_go_170 : decode cX9_go 170 = .ok (.iload 4, 2) := by decide +kernel
theorem dX9_go_172 : decode cX9_go 172 = .ok (.ireturn, 1) := by decide +kernel
theorem dX9_rest_0 : decode cX9_rest 0 = .ok (.aload_n 0, 1) := by decide +kernel
theorem dX9_rest_1 : decode cX9_rest 1 = .ok (.aload_n 0, 1) := by decide +kernel
theorem dX9_rest_2 : decode cX9_rest 2 = .ok (.invokevirtual 145, 3) := by decide +kernel
theorem dX9_rest_5 : decode cX9_rest 5 = .ok (.ifCond .eq 7, 3) := by decide +kernel
theorem dX9_rest_8 : decode cX9_rest 8 = .ok (.iconst 0, 1) := by decide +kernel
theorem dX9_rest_9 : decode cX9_rest 9 = .ok (.goto 4, 3) := by decide +kernel
theorem dX9_rest_12 : decode cX9_rest 12 = .ok (.iconst 1, 1) := by decide +kernel
theorem dX9_rest_13 : decode cX9_rest 13 = .ok (.invokevirtual 149, 3) := by decide +kernel
theorem dX9_rest_16 : decode cX9_rest 16 = .ok (.ifCond .ne 5, 3) := by decide +kernel
theorem dX9_rest_19 : decode cX9_rest 19 = .ok (.iconst 0, 1) := by decide +kernel
theorem dX9_rest_20 : decode cX9_rest 20 = .ok (.ireturn, 1) := by decide +kernel
theorem dX9_rest_21 : decode cX9_rest 21 = .ok (.aload_n 0, 1) := by decide +kernel
theorem dX9_rest_22 : decode cX9_rest 22 = .ok (.invokevirtual 273, 3) := by decide +kernel
theorem dX9_rest_25 : decode cX9_rest 25 = .ok (.aload_n 0, 1) := by decide +kernel
theorem dX9_rest_26 : decode cX9_rest 26 = .ok (.getfield 133, 3) := by decide +kernel
theorem dX9_rest_29 : decode cX9_rest 29 = .ok (.ireturn, 1) := by decide +kernel
theorem dX9_take_0 : decode cX9_take 0 = .ok (.aload_n 0, 1) := by decide +kernel
theorem dX9_take_1 : decode cX9_take 1 = .ok (.iload_n 1, 1) := by decide +kernel
theorem dX9_take_2 : decode cX9_take 2 = .ok (.invokevirtual 165, 3) := by decide +kernel
theorem dX9_take_5 : decode cX9_take 5 = .ok (.ifCond .ne 7, 3) := by decide +kernel
theorem dX9_take_8 : decode cX9_take 8 = .ok (.iconst 1, 1) := by decide +kernel
theorem dX9_take_9 : decode cX9_take 9 = .ok (.goto 53, 3) := by decide +kernel
theorem dX9_take_12 : decode cX9_take 12 = .ok (.aload_n 0, 1) := by decide +kernel
theorem dX9_take_13 : decode cX9_take 13 = .ok (.invokevirtual 145, 3) := by decide +kernel
theorem dX9_take_16 : decode cX9_take 16 = .ok (.ifCond .ne 7, 3) := by decide +kernel
theorem dX9_take_19 : decode cX9_take 19 = .ok (.iconst 2, 1) := by decide +kernel
theorem dX9_take_20 : decode cX9_take 20 = .ok (.goto 42, 3) := by decide +kernel
theorem dX9_take_23 : decode cX9_take 23 = .ok (.aload_n 0, 1) := by decide +kernel
theorem dX9_take_24 : decode cX9_take 24 = .ok (.getfield 83, 3) := by decide +kernel
theorem dX9_take_27 : decode cX9_take 27 = .ok (.iload_n 1, 1) := by decide +kernel
theorem dX9_take_28 : decode cX9_take 28 = .ok (.iaload, 1) := by decide +kernel
theorem dX9_take_29 : decode cX9_take 29 = .ok (.aload_n 0, 1) := by decide +kernel
theorem dX9_take_30 : decode cX9_take 30 = .ok (.getfield 65, 3) := by decide +kernel
theorem dX9_take_33 : decode cX9_take 33 = .ok (.iconst 0, 1) := by decide +kernel
theorem dX9_take_34 : decode cX9_take 34 = .ok (.iaload, 1) := by decide +kernel
theorem dX9_take_35 : decode cX9_take 35 = .ok (.if_icmp .eq 7, 3) := by decide +kernel
theorem dX9_take_38 : decode cX9_take 38 = .ok (.iconst 3, 1) := by decide +kernel
theorem dX9_take_39 : decode cX9_take 39 = .ok (.goto 23, 3) := by decide +kernel
theorem dX9_take_42 : decode cX9_take 42 = .ok (.aload_n 0, 1) := by decide +kernel
theorem dX9_take_43 : decode cX9_take 43 = .ok (.invokevirtual 276, 3) := by decide +kernel
theorem dX9_take_46 : decode cX9_take 46 = .ok (.aload_n 0, 1) := by decide +kernel
theorem dX9_take_47 : decode cX9_take 47 = .ok (.iload_n 1, 1) := by decide +kernel
theorem dX9_take_48 : decode cX9_take 48 = .ok (.invokevirtual 279, 3) := by decide +kernel
theorem dX9_take_51 : decode cX9_take 51 = .ok (.iadd, 1) := by decide +kernel
theorem dX9_take_52 : decode cX9_take 52 = .ok (.bipush 30, 2) := by decide +kernel
theorem dX9_take_54 : decode cX9_take 54 = .ok (.if_icmp .le 7, 3) := by decide +kernel
theorem dX9_take_57 : decode cX9_take 57 = .ok (.iconst 4, 1) := by decide +kernel
theorem dX9_take_58 : decode cX9_take 58 = .ok (.goto 4, 3) := by decide +kernel
theorem dX9_take_61 : decode cX9_take 61 = .ok (.iconst 0, 1) := by decide +kernel
theorem dX9_take_62 : decode cX9_take 62 = .ok (.istore_n 2, 1) := by decide +kernel
theorem dX9_take_63 : decode cX9_take 63 = .ok (.aload_n 0, 1) := by decide +kernel
theorem dX9_take_64 : decode cX9_take 64 = .ok (.iload_n 2, 1) := by decide +kernel
theorem dX9_take_65 : decode cX9_take 65 = .ok (.invokevirtual 149, 3) := by decide +kernel
theorem dX9_take_68 : decode cX9_take 68 = .ok (.ifCond .ne 5, 3) := by decide +kernel
theorem dX9_take_71 : decode cX9_take 71 = .ok (.iconst 0, 1) := by decide +kernel
theorem dX9_take_72 : decode cX9_take 72 = .ok (.ireturn, 1) := by decide +kernel
theorem dX9_take_73 : decode cX9_take 73 = .ok (.aload_n 0, 1) := by decide +kernel
theorem dX9_take_74 : decode cX9_take 74 = .ok (.getfield 83, 3) := by decide +kernel
theorem dX9_take_77 : decode cX9_take 77 = .ok (.iload_n 1, 1) := by decide +kernel
theorem dX9_take_78 : decode cX9_take 78 = .ok (.iconst (-1), 1) := by decide +kernel
theorem dX9_take_79 : decode cX9_take 79 = .ok (.iastore, 1) := by decide +kernel
theorem dX9_take_80 : decode cX9_take 80 = .ok (.aload_n 0, 1) := by decide +kernel
theorem dX9_take_81 : decode cX9_take 81 = .ok (.invokevirtual 276, 3) := by decide +kernel
theorem dX9_take_84 : decode cX9_take 84 = .ok (.istore_n 3, 1) := by decide +kernel
theorem dX9_take_85 : decode cX9_take 85 = .ok (.aload_n 0, 1) := by decide +kernel
theorem dX9_take_86 : decode cX9_take 86 = .ok (.invokevirtual 273, 3) := by decide +kernel
theorem dX9_take_89 : decode cX9_take 89 = .ok (.iload_n 3, 1) := by decide +kernel
theorem dX9_take_90 : decode cX9_take 90 = .ok (.ireturn, 1) := by decide +kernel
theorem dX9_handFault_0 : decode cX9_handFault 0 = .ok (.aload_n 0, 1) := by decide +kernel
theorem dX9_handFault_1 : decode cX9_handFault 1 = .ok (.iload_n 1, 1) := by decide +kernel
theorem dX9_handFault_2 : decode cX9_handFault 2 = .ok (.invokevirtual 165, 3) := by decide +kernel
theorem dX9_handFault_5 : decode cX9_handFault 5 = .ok (.ifCond .ne 7, 3) := by decide +kernel
theorem dX9_handFault_8 : decode cX9_handFault 8 = .ok (.iconst 1, 1) := by decide +kernel
theorem dX9_handFault_9 : decode cX9_handFault 9 = .ok (.goto 29, 3) := by decide +kernel
theorem dX9_handFault_12 : decode cX9_handFault 12 = .ok (.aload_n 0, 1) := by decide +kernel
theorem dX9_handFault_13 : decode cX9_handFault 13 = .ok (.invokevirtual 145, 3) := by decide +kernel
theorem dX9_handFault_16 : decode cX9_handFault 16 = .ok (.ifCond .ne 7, 3) := by decide +kernel
theorem dX9_handFault_19 : decode cX9_handFault 19 = .ok (.iconst 2, 1) := by decide +kernel
theorem dX9_handFault_20 : decode cX9_handFault 20 = .ok (.goto 18, 3) := by decide +kernel
theorem dX9_handFault_23 : decode cX9_handFault 23 = .ok (.aload_n 0, 1) := by decide +kernel
theorem dX9_handFault_24 : decode cX9_handFault 24 = .ok (.getfield 83, 3) := by decide +kernel
theorem dX9_handFault_27 : decode cX9_handFault 27 = .ok (.iload_n 1, 1) := by decide +kernel
theorem dX9_handFault_28 : decode cX9_handFault 28 = .ok (.iaload, 1) := by decide +kernel
theorem dX9_handFault_29 : decode cX9_handFault 29 = .ok (.iconst (-1), 1) := by decide +kernel
theorem dX9_handFault_30 : decode cX9_handFault 30 = .ok (.if_icmp .eq 7, 3) := by decide +kernel
theorem dX9_handFault_33 : decode cX9_handFault 33 = .ok (.iconst 3, 1) := by decide +kernel
theorem dX9_handFault_34 : decode cX9_handFault 34 = .ok (.goto 4, 3) := by decide +kernel
theorem dX9_handFault_37 : decode cX9_handFault 37 = .ok (.iconst 0, 1) := by decide +kernel
theorem dX9_handFault_38 : decode cX9_handFault 38 = .ok (.ireturn, 1) := by decide +kernel
theorem dX9_drop_0 : decode cX9_drop 0 = .ok (.aload_n 0, 1) := by decide +kernel
theorem dX9_drop_1 : decode cX9_drop 1 = .ok (.aload_n 0, 1) := by decide +kernel
theorem dX9_drop_2 : decode cX9_drop 2 = .ok (.iload_n 1, 1) := by decide +kernel
theorem dX9_drop_3 : decode cX9_drop 3 = .ok (.invokevirtual 282, 3) := by decide +kernel
theorem dX9_drop_6 : decode cX9_drop 6 = .ok (.invokevirtual 149, 3) := by decide +kernel
theorem dX9_drop_9 : decode cX9_drop 9 = .ok (.ifCond .ne 5, 3) := by decide +kernel
theorem dX9_drop_12 : decode cX9_drop 12 = .ok (.iconst 0, 1) := by decide +kernel
theorem dX9_drop_13 : decode cX9_drop 13 = .ok (.ireturn, 1) := by decide +kernel
theorem dX9_drop_14 : decode cX9_drop 14 = .ok (.aload_n 0, 1) := by decide +kernel
theorem dX9_drop_15 : decode cX9_drop 15 = .ok (.getfield 83, 3) := by decide +kernel
theorem dX9_drop_18 : decode cX9_drop 18 = .ok (.iload_n 1, 1) := by decide +kernel
theorem dX9_drop_19 : decode cX9_drop 19 = .ok (.aload_n 0, 1) := by decide +kernel
theorem dX9_drop_20 : decode cX9_drop 20 = .ok (.getfield 65, 3) := by decide +kernel
theorem dX9_drop_23 : decode cX9_drop 23 = .ok (.iconst 0, 1) := by decide +kernel
theorem dX9_drop_24 : decode cX9_drop 24 = .ok (.iaload, 1) := by decide +kernel
theorem dX9_drop_25 : decode cX9_drop 25 = .ok (.iastore, 1) := by decide +kernel
theorem dX9_drop_26 : decode cX9_drop 26 = .ok (.aload_n 0, 1) := by decide +kernel
theorem dX9_drop_27 : decode cX9_drop 27 = .ok (.invokevirtual 276, 3) := by decide +kernel
theorem dX9_drop_30 : decode cX9_drop 30 = .ok (.istore_n 2, 1) := by decide +kernel
theorem dX9_drop_31 : decode cX9_drop 31 = .ok (.aload_n 0, 1) := by decide +kernel
theorem dX9_drop_32 : decode cX9_drop 32 = .ok (.invokevirtual 273, 3) := by decide +kernel
theorem dX9_drop_35 : decode cX9_drop 35 = .ok (.iload_n 2, 1) := by decide +kernel
theorem dX9_drop_36 : decode cX9_drop 36 = .ok (.ireturn, 1) := by decide +kernel
theorem dX9_pack_0 : decode cX9_pack 0 = .ok (.aload_n 0, 1) := by decide +kernel
theorem dX9_pack_1 : decode cX9_pack 1 = .ok (.iload_n 1, 1) := by decide +kernel
theorem dX9_pack_2 : decode cX9_pack 2 = .ok (.invokevirtual 165, 3) := by decide +kernel
theorem dX9_pack_5 : decode cX9_pack 5 = .ok (.ifCond .eq 16, 3) := by decide +kernel
theorem dX9_pack_8 : decode cX9_pack 8 = .ok (.iload_n 2, 1) := by decide +kernel
theorem dX9_pack_9 : decode cX9_pack 9 = .ok (.iconst (-1), 1) := by decide +kernel
theorem dX9_pack_10 : decode cX9_pack 10 = .ok (.if_icmp .eq 15, 3) := by decide +kernel
theorem dX9_pack_13 : decode cX9_pack 13 = .ok (.aload_n 0, 1) := by decide +kernel
theorem dX9_pack_14 : decode cX9_pack 14 = .ok (.iload_n 2, 1) := by decide +kernel
theorem dX9_pack_15 : decode cX9_pack 15 = .ok (.invokevirtual 165, 3) := by decide +kernel
theorem dX9_pack_18 : decode cX9_pack 18 = .ok (.ifCond .ne 7, 3) := by decide +kernel
theorem dX9_pack_21 : decode cX9_pack 21 = .ok (.iconst 1, 1) := by decide +kernel
theorem dX9_pack_22 : decode cX9_pack 22 = .ok (.goto 15, 3) := by decide +kernel
theorem dX9_pack_25 : decode cX9_pack 25 = .ok (.aload_n 0, 1) := by decide +kernel
theorem dX9_pack_26 : decode cX9_pack 26 = .ok (.invokevirtual 145, 3) := by decide +kernel
theorem dX9_pack_29 : decode cX9_pack 29 = .ok (.ifCond .ne 7, 3) := by decide +kernel
theorem dX9_pack_32 : decode cX9_pack 32 = .ok (.iconst 2, 1) := by decide +kernel
theorem dX9_pack_33 : decode cX9_pack 33 = .ok (.goto 4, 3) := by decide +kernel
theorem dX9_pack_36 : decode cX9_pack 36 = .ok (.iconst 0, 1) := by decide +kernel
theorem dX9_pack_37 : decode cX9_pack 37 = .ok (.istore_n 3, 1) := by decide +kernel
theorem dX9_pack_38 : decode cX9_pack 38 = .ok (.iload_n 3, 1) := by decide +kernel
theorem dX9_pack_39 : decode cX9_pack 39 = .ok (.ifCond .ne 30, 3) := by decide +kernel
theorem dX9_pack_42 : decode cX9_pack 42 = .ok (.aload_n 0, 1) := by decide +kernel
theorem dX9_pack_43 : decode cX9_pack 43 = .ok (.iload_n 1, 1) := by decide +kernel
theorem dX9_pack_44 : decode cX9_pack 44 = .ok (.invokevirtual 206, 3) := by decide +kernel
theorem dX9_pack_47 : decode cX9_pack 47 = .ok (.iconst (-1), 1) := by decide +kernel
theorem dX9_pack_48 : decode cX9_pack 48 = .ok (.if_icmp .ne 21, 3) := by decide +kernel
theorem dX9_pack_51 : decode cX9_pack 51 = .ok (.iload_n 2, 1) := by decide +kernel
theorem dX9_pack_52 : decode cX9_pack 52 = .ok (.iconst (-1), 1) := by decide +kernel
theorem dX9_pack_53 : decode cX9_pack 53 = .ok (.if_icmp .eq 12, 3) := by decide +kernel
theorem dX9_pack_56 : decode cX9_pack 56 = .ok (.aload_n 0, 1) := by decide +kernel
theorem dX9_pack_57 : decode cX9_pack 57 = .ok (.iload_n 2, 1) := by decide +kernel
theorem dX9_pack_58 : decode cX9_pack 58 = .ok (.invokevirtual 206, 3) := by decide +kernel
theorem dX9_pack_61 : decode cX9_pack 61 = .ok (.iconst (-1), 1) := by decide +kernel
theorem dX9_pack_62 : decode cX9_pack 62 = .ok (.if_icmp .ne 7, 3) := by decide +kernel
theorem dX9_pack_65 : decode cX9_pack 65 = .ok (.iconst 1, 1) := by decide +kernel
theorem dX9_pack_66 : decode cX9_pack 66 = .ok (.goto 4, 3) := by decide +kernel
theorem dX9_pack_69 : decode cX9_pack 69 = .ok (.iconst 0, 1) := by decide +kernel
theorem dX9_pack_70 : decode cX9_pack 70 = .ok (.istore 4, 2) := by decide +kernel
theorem dX9_pack_72 : decode cX9_pack 72 = .ok (.iload 4, 2) := by decide +kernel
theorem dX9_pack_74 : decode cX9_pack 74 = .ok (.ifCond .eq 34, 3) := by decide +kernel
theorem dX9_pack_77 : decode cX9_pack 77 = .ok (.iload_n 2, 1) := by decide +kernel
theorem dX9_pack_78 : decode cX9_pack 78 = .ok (.iconst (-1), 1) := by decide +kernel
theorem dX9_pack_79 : decode cX9_pack 79 = .ok (.if_icmp .eq 29, 3) := by decide +kernel
theorem dX9_pack_82 : decode cX9_pack 82 = .ok (.aload_n 0, 1) := by decide +kernel
theorem dX9_pack_83 : decode cX9_pack 83 = .ok (.iload_n 2, 1) := by decide +kernel
theorem dX9_pack_84 : decode cX9_pack 84 = .ok (.invokevirtual 285, 3) := by decide +kernel
theorem dX9_pack_87 : decode cX9_pack 87 = .ok (.ifCond .eq 17, 3) := by decide +kernel
theorem dX9_pack_90 : decode cX9_pack 90 = .ok (.iload_n 2, 1) := by decide +kernel
theorem dX9_pack_91 : decode cX9_pack 91 = .ok (.iload_n 1, 1) := by decide +kernel
theorem dX9_pack_92 : decode cX9_pack 92 = .ok (.if_icmp .eq 12, 3) := by decide +kernel
theorem dX9_pack_95 : decode cX9_pack 95 = .ok (.aload_n 0, 1) := by decide +kernel
theorem dX9_pack_96 : decode cX9_pack 96 = .ok (.iload_n 2, 1) := by decide +kernel
theorem dX9_pack_97 : decode cX9_pack 97 = .ok (.iload_n 1, 1) := by decide +kernel
theorem dX9_pack_98 : decode cX9_pack 98 = .ok (.invokevirtual 203, 3) := by decide +kernel
theorem dX9_pack_101 : decode cX9_pack 101 = .ok (.ifCond .eq 7, 3) := by decide +kernel
theorem dX9_pack_104 : decode cX9_pack 104 = .ok (.iconst 1, 1) := by decide +kernel
theorem dX9_pack_105 : decode cX9_pack 105 = .ok (.goto 4, 3) := by decide +kernel
theorem dX9_pack_108 : decode cX9_pack 108 = .ok (.iconst 0, 1) := by decide +kernel
theorem dX9_pack_109 : decode cX9_pack 109 = .ok (.istore 5, 2) := by decide +kernel
theorem dX9_pack_111 : decode cX9_pack 111 = .ok (.aload_n 0, 1) := by decide +kernel
theorem dX9_pack_112 : decode cX9_pack 112 = .ok (.iload_n 3, 1) := by decide +kernel
theorem dX9_pack_113 : decode cX9_pack 113 = .ok (.ifCond .eq 7, 3) := by decide +kernel
theorem dX9_pack_116 : decode cX9_pack 116 = .ok (.iload_n 3, 1) := by decide +kernel
theorem dX9_pack_117 : decode cX9_pack 117 = .ok (.goto 22, 3) := by decide +kernel
theorem dX9_pack_120 : decode cX9_pack 120 = .ok (.iload 4, 2) := by decide +kernel
theorem dX9_pack_122 : decode cX9_pack 122 = .ok (.ifCond .ne 7, 3) := by decide +kernel
theorem dX9_pack_125 : decode cX9_pack 125 = .ok (.iconst 3, 1) := by decide +kernel
theorem dX9_pack_126 : decode cX9_pack 126 = .ok (.goto 13, 3) := by decide +kernel
theorem dX9_pack_129 : decode cX9_pack 129 = .ok (.iload 5, 2) := by decide +kernel
theorem dX9_pack_131 : decode cX9_pack 131 = .ok (.ifCond .eq 7, 3) := by decide +kernel
theorem dX9_pack_134 : decode cX9_pack 134 = .ok (.iconst 4, 1) := by decide +kernel
theorem dX9_pack_135 : decode cX9_pack 135 = .ok (.goto 4, 3) := by decide +kernel
theorem dX9_pack_138 : decode cX9_pack 138 = .ok (.iconst 0, 1) := by decide +kernel
theorem dX9_pack_139 : decode cX9_pack 139 = .ok (.invokevirtual 149, 3) := by decide +kernel
theorem dX9_pack_142 : decode cX9_pack 142 = .ok (.ifCond .ne 5, 3) := by decide +kernel
theorem dX9_pack_145 : decode cX9_pack 145 = .ok (.iconst 0, 1) := by decide +kernel
theorem dX9_pack_146 : decode cX9_pack 146 = .ok (.ireturn, 1) := by decide +kernel
theorem dX9_pack_147 : decode cX9_pack 147 = .ok (.aload_n 0, 1) := by decide +kernel
theorem dX9_pack_148 : decode cX9_pack 148 = .ok (.getfield 83, 3) := by decide +kernel
theorem dX9_pack_151 : decode cX9_pack 151 = .ok (.iload_n 1, 1) := by decide +kernel
theorem dX9_pack_152 : decode cX9_pack 152 = .ok (.iload_n 2, 1) := by decide +kernel
theorem dX9_pack_153 : decode cX9_pack 153 = .ok (.iconst (-1), 1) := by decide +kernel
theorem dX9_pack_154 : decode cX9_pack 154 = .ok (.if_icmp .ne 7, 3) := by decide +kernel
theorem dX9_pack_157 : decode cX9_pack 157 = .ok (.iconst (-1), 1) := by decide +kernel
theorem dX9_pack_158 : decode cX9_pack 158 = .ok (.goto 7, 3) := by decide +kernel
theorem dX9_pack_161 : decode cX9_pack 161 = .ok (.bipush (-3), 2) := by decide +kernel
theorem dX9_pack_163 : decode cX9_pack 163 = .ok (.iload_n 2, 1) := by decide +kernel
theorem dX9_pack_164 : decode cX9_pack 164 = .ok (.isub, 1) := by decide +kernel
theorem dX9_pack_165 : decode cX9_pack 165 = .ok (.iastore, 1) := by decide +kernel
theorem dX9_pack_166 : decode cX9_pack 166 = .ok (.iconst 0, 1) := by decide +kernel
theorem dX9_pack_167 : decode cX9_pack 167 = .ok (.istore 6, 2) := by decide +kernel
theorem dX9_pack_169 : decode cX9_pack 169 = .ok (.iconst 0, 1) := by decide +kernel
theorem dX9_pack_170 : decode cX9_pack 170 = .ok (.istore 7, 2) := by decide +kernel
theorem dX9_pack_172 : decode cX9_pack 172 = .ok (.iload 7, 2) := by decide +kernel
theorem dX9_pack_174 : decode cX9_pack 174 = .ok (.aload_n 0, 1) := by decide +kernel
theorem dX9_pack_175 : decode cX9_pack 175 = .ok (.getfield 162, 3) := by decide +kernel
theorem dX9_pack_178 : decode cX9_pack 178 = .ok (.if_icmp .ge 35, 3) := by decide +kernel
theorem dX9_pack_181 : decode cX9_pack 181 = .ok (.iload 6, 2) := by decide +kernel
theorem dX9_pack_183 : decode cX9_pack 183 = .ok (.aload_n 0, 1) := by decide +kernel
theorem dX9_pack_184 : decode cX9_pack 184 = .ok (.getfield 83, 3) := by decide +kernel
theorem dX9_pack_187 : decode cX9_pack 187 = .ok (.iload 7, 2) := by decide +kernel
theorem dX9_pack_189 : decode cX9_pack 189 = .ok (.iaload, 1) := by decide +kernel
theorem dX9_pack_190 : decode cX9_pack 190 = .ok (.aload_n 0, 1) := by decide +kernel
theorem dX9_pack_191 : decode cX9_pack 191 = .ok (.getfield 83, 3) := by decide +kernel
theorem dX9_pack_194 : decode cX9_pack 194 = .ok (.iload_n 1, 1) := by decide +kernel
theorem dX9_pack_195 : decode cX9_pack 195 = .ok (.iaload, 1) := by decide +kernel
theorem dX9_pack_196 : decode cX9_pack 196 = .ok (.if_icmp .ne 7, 3) := by decide +kernel
theorem dX9_pack_199 : decode cX9_pack 199 = .ok (.iconst 1, 1) := by decide +kernel
theorem dX9_pack_200 : decode cX9_pack 200 = .ok (.goto 4, 3) := by decide +kernel
theorem dX9_pack_203 : decode cX9_pack 203 = .ok (.iconst 0, 1) := by decide +kernel
theorem dX9_pack_204 : decode cX9_pack 204 = .ok (.iadd, 1) := by decide +kernel
theorem dX9_pack_205 : decode cX9_pack 205 = .ok (.istore 6, 2) := by decide +kernel
theorem dX9_pack_207 : decode cX9_pack 207 = .ok (.iinc 7 1, 3) := by decide +kernel
theorem dX9_pack_210 : decode cX9_pack 210 = .ok (.goto (-38), 3) := by decide +kernel
theorem dX9_pack_213 : decode cX9_pack 213 = .ok (.aload_n 0, 1) := by decide +kernel
theorem dX9_pack_214 : decode cX9_pack 214 = .ok (.invokevirtual 273, 3) := by decide +kernel
theorem dX9_pack_217 : decode cX9_pack 217 = .ok (.iload 6, 2) := by decide +kernel
theorem dX9_pack_219 : decode cX9_pack 219 = .ok (.ireturn, 1) := by decide +kernel
theorem dX9_drink_0 : decode cX9_drink 0 = .ok (.aload_n 0, 1) := by decide +kernel
theorem dX9_drink_1 : decode cX9_drink 1 = .ok (.iload_n 1, 1) := by decide +kernel
theorem dX9_drink_2 : decode cX9_drink 2 = .ok (.invokevirtual 282, 3) := by decide +kernel
theorem dX9_drink_5 : decode cX9_drink 5 = .ok (.istore_n 2, 1) := by decide +kernel
theorem dX9_drink_6 : decode cX9_drink 6 = .ok (.aload_n 0, 1) := by decide +kernel
theorem dX9_drink_7 : decode cX9_drink 7 = .ok (.iload_n 2, 1) := by decide +kernel
theorem dX9_drink_8 : decode cX9_drink 8 = .ok (.ifCond .ne 19, 3) := by decide +kernel
theorem dX9_drink_11 : decode cX9_drink 11 = .ok (.aload_n 0, 1) := by decide +kernel
theorem dX9_drink_12 : decode cX9_drink 12 = .ok (.getfield 50, 3) := by decide +kernel
theorem dX9_drink_15 : decode cX9_drink 15 = .ok (.iload_n 1, 1) := by decide +kernel
theorem dX9_drink_16 : decode cX9_drink 16 = .ok (.iaload, 1) := by decide +kernel
theorem dX9_drink_17 : decode cX9_drink 17 = .ok (.invokestatic 156, 3) := by decide +kernel
theorem dX9_drink_20 : decode cX9_drink 20 = .ok (.ifCond .ne 7, 3) := by decide +kernel
theorem dX9_drink_23 : decode cX9_drink 23 = .ok (.iconst 4, 1) := by decide +kernel
theorem dX9_drink_24 : decode cX9_drink 24 = .ok (.goto 4, 3) := by decide +kernel
theorem dX9_drink_27 : decode cX9_drink 27 = .ok (.iload_n 2, 1) := by decide +kernel
theorem dX9_drink_28 : decode cX9_drink 28 = .ok (.invokevirtual 149, 3) := by decide +kernel
theorem dX9_drink_31 : decode cX9_drink 31 = .ok (.ifCond .ne 5, 3) := by decide +kernel
theorem dX9_drink_34 : decode cX9_drink 34 = .ok (.iconst 0, 1) := by decide +kernel
theorem dX9_drink_35 : decode cX9_drink 35 = .ok (.ireturn, 1) := by decide +kernel
theorem dX9_drink_36 : decode cX9_drink 36 = .ok (.aload_n 0, 1) := by decide +kernel
theorem dX9_drink_37 : decode cX9_drink 37 = .ok (.getfield 50, 3) := by decide +kernel
theorem dX9_drink_40 : decode cX9_drink 40 = .ok (.iload_n 1, 1) := by decide +kernel
theorem dX9_drink_41 : decode cX9_drink 41 = .ok (.iaload, 1) := by decide +kernel
theorem dX9_drink_42 : decode cX9_drink 42 = .ok (.istore_n 3, 1) := by decide +kernel
theorem dX9_drink_43 : decode cX9_drink 43 = .ok (.aload_n 0, 1) := by decide +kernel
theorem dX9_drink_44 : decode cX9_drink 44 = .ok (.getfield 83, 3) := by decide +kernel
theorem dX9_drink_47 : decode cX9_drink 47 = .ok (.iload_n 1, 1) := by decide +kernel
theorem dX9_drink_48 : decode cX9_drink 48 = .ok (.bipush (-2), 2) := by decide +kernel
theorem dX9_drink_50 : decode cX9_drink 50 = .ok (.iastore, 1) := by decide +kernel
theorem dX9_drink_51 : decode cX9_drink 51 = .ok (.aload_n 0, 1) := by decide +kernel
theorem dX9_drink_52 : decode cX9_drink 52 = .ok (.getfield 86, 3) := by decide +kernel
theorem dX9_drink_55 : decode cX9_drink 55 = .ok (.iload_n 3, 1) := by decide +kernel
theorem dX9_drink_56 : decode cX9_drink 56 = .ok (.iconst 1, 1) := by decide +kernel
theorem dX9_drink_57 : decode cX9_drink 57 = .ok (.bastore, 1) := by decide +kernel
theorem dX9_drink_58 : decode cX9_drink 58 = .ok (.aload_n 0, 1) := by decide +kernel
theorem dX9_drink_59 : decode cX9_drink 59 = .ok (.iload_n 3, 1) := by decide +kernel
theorem dX9_drink_60 : decode cX9_drink 60 = .ok (.iconst 0, 1) := by decide +kernel
theorem dX9_drink_61 : decode cX9_drink 61 = .ok (.invokevirtual 255, 3) := by decide +kernel
theorem dX9_drink_64 : decode cX9_drink 64 = .ok (.aload_n 0, 1) := by decide +kernel
theorem dX9_drink_65 : decode cX9_drink 65 = .ok (.getfield 25, 3) := by decide +kernel
theorem dX9_drink_68 : decode cX9_drink 68 = .ok (.iload_n 3, 1) := by decide +kernel
theorem dX9_drink_69 : decode cX9_drink 69 = .ok (.caload, 1) := by decide +kernel
theorem dX9_drink_70 : decode cX9_drink 70 = .ok (.bipush 102, 2) := by decide +kernel
theorem dX9_drink_72 : decode cX9_drink 72 = .ok (.if_icmp .ne 14, 3) := by decide +kernel
theorem dX9_drink_75 : decode cX9_drink 75 = .ok (.aload_n 0, 1) := by decide +kernel
theorem dX9_drink_76 : decode cX9_drink 76 = .ok (.aload_n 0, 1) := by decide +kernel
theorem dX9_drink_77 : decode cX9_drink 77 = .ok (.getfield 65, 3) := by decide +kernel
theorem dX9_drink_80 : decode cX9_drink 80 = .ok (.iconst 0, 1) := by decide +kernel
theorem dX9_drink_81 : decode cX9_drink 81 = .ok (.iaload, 1) := by decide +kernel
theorem dX9_drink_82 : decode cX9_drink 82 = .ok (.iconst 0, 1) := by decide +kernel
theorem dX9_drink_83 : decode cX9_drink 83 = .ok (.invokevirtual 258, 3) := by decide +kernel
theorem dX9_drink_86 : decode cX9_drink 86 = .ok (.aload_n 0, 1) := by decide +kernel
theorem dX9_drink_87 : decode cX9_drink 87 = .ok (.getfield 68, 3) := by decide +kernel
theorem dX9_drink_90 : decode cX9_drink 90 = .ok (.iconst 0, 1) := by decide +kernel
theorem dX9_drink_91 : decode cX9_drink 91 = .ok (.iaload, 1) := by decide +kernel
theorem dX9_drink_92 : decode cX9_drink 92 = .ok (.istore 4, 2) := by decide +kernel
theorem dX9_drink_94 : decode cX9_drink 94 = .ok (.aload_n 0, 1) := by decide +kernel
theorem dX9_drink_95 : decode cX9_drink 95 = .ok (.invokevirtual 273, 3) := by decide +kernel
theorem dX9_drink_98 : decode cX9_drink 98 = .ok (.iload 4, 2) := by decide +kernel
theorem dX9_drink_100 : decode cX9_drink 100 = .ok (.ireturn, 1) := by decide +kernel
theorem dX9_hurl_0 : decode cX9_hurl 0 = .ok (.aload_n 0, 1) := by decide +kernel
theorem dX9_hurl_1 : decode cX9_hurl 1 = .ok (.iload_n 1, 1) := by decide +kernel
theorem dX9_hurl_2 : decode cX9_hurl 2 = .ok (.invokevirtual 165, 3) := by decide +kernel
theorem dX9_hurl_5 : decode cX9_hurl 5 = .ok (.ifCond .ne 7, 3) := by decide +kernel
theorem dX9_hurl_8 : decode cX9_hurl 8 = .ok (.iconst 1, 1) := by decide +kernel
theorem dX9_hurl_9 : decode cX9_hurl 9 = .ok (.goto 42, 3) := by decide +kernel
theorem dX9_hurl_12 : decode cX9_hurl 12 = .ok (.iload_n 2, 1) := by decide +kernel
theorem dX9_hurl_13 : decode cX9_hurl 13 = .ok (.iconst 0, 1) := by decide +kernel
theorem dX9_hurl_14 : decode cX9_hurl 14 = .ok (.iconst 3, 1) := by decide +kernel
theorem dX9_hurl_15 : decode cX9_hurl 15 = .ok (.invokestatic 110, 3) := by decide +kernel
theorem dX9_hurl_18 : decode cX9_hurl 18 = .ok (.ifCond .ne 7, 3) := by decide +kernel
theorem dX9_hurl_21 : decode cX9_hurl 21 = .ok (.iconst 2, 1) := by decide +kernel
theorem dX9_hurl_22 : decode cX9_hurl 22 = .ok (.goto 29, 3) := by decide +kernel
theorem dX9_hurl_25 : decode cX9_hurl 25 = .ok (.aload_n 0, 1) := by decide +kernel
theorem dX9_hurl_26 : decode cX9_hurl 26 = .ok (.invokevirtual 145, 3) := by decide +kernel
theorem dX9_hurl_29 : decode cX9_hurl 29 = .ok (.ifCond .ne 7, 3) := by decide +kernel
theorem dX9_hurl_32 : decode cX9_hurl 32 = .ok (.iconst 3, 1) := by decide +kernel
theorem dX9_hurl_33 : decode cX9_hurl 33 = .ok (.goto 18, 3) := by decide +kernel
theorem dX9_hurl_36 : decode cX9_hurl 36 = .ok (.aload_n 0, 1) := by decide +kernel
theorem dX9_hurl_37 : decode cX9_hurl 37 = .ok (.getfield 83, 3) := by decide +kernel
theorem dX9_hurl_40 : decode cX9_hurl 40 = .ok (.iload_n 1, 1) := by decide +kernel
theorem dX9_hurl_41 : decode cX9_hurl 41 = .ok (.iaload, 1) := by decide +kernel
theorem dX9_hurl_42 : decode cX9_hurl 42 = .ok (.iconst (-1), 1) := by decide +kernel
theorem dX9_hurl_43 : decode cX9_hurl 43 = .ok (.if_icmp .eq 7, 3) := by decide +kernel
theorem dX9_hurl_46 : decode cX9_hurl 46 = .ok (.iconst 4, 1) := by decide +kernel
theorem dX9_hurl_47 : decode cX9_hurl 47 = .ok (.goto 4, 3) := by decide +kernel
theorem dX9_hurl_50 : decode cX9_hurl 50 = .ok (.iconst 0, 1) := by decide +kernel
theorem dX9_hurl_51 : decode cX9_hurl 51 = .ok (.istore_n 3, 1) := by decide +kernel
theorem dX9_hurl_52 : decode cX9_hurl 52 = .ok (.aload_n 0, 1) := by decide +kernel
theorem dX9_hurl_53 : decode cX9_hurl 53 = .ok (.iload_n 3, 1) := by decide +kernel
theorem dX9_hurl_54 : decode cX9_hurl 54 = .ok (.invokevirtual 149, 3) := by decide +kernel
theorem dX9_hurl_57 : decode cX9_hurl 57 = .ok (.ifCond .ne 5, 3) := by decide +kernel
theorem dX9_hurl_60 : decode cX9_hurl 60 = .ok (.iconst 0, 1) := by decide +kernel
theorem dX9_hurl_61 : decode cX9_hurl 61 = .ok (.ireturn, 1) := by decide +kernel
theorem dX9_hurl_62 : decode cX9_hurl 62 = .ok (.aload_n 0, 1) := by decide +kernel
theorem dX9_hurl_63 : decode cX9_hurl 63 = .ok (.getfield 65, 3) := by decide +kernel
theorem dX9_hurl_66 : decode cX9_hurl 66 = .ok (.iconst 0, 1) := by decide +kernel
theorem dX9_hurl_67 : decode cX9_hurl 67 = .ok (.iaload, 1) := by decide +kernel
theorem dX9_hurl_68 : decode cX9_hurl 68 = .ok (.istore 4, 2) := by decide +kernel
theorem dX9_hurl_70 : decode cX9_hurl 70 = .ok (.iconst 0, 1) := by decide +kernel
theorem dX9_hurl_71 : decode cX9_hurl 71 = .ok (.istore 5, 2) := by decide +kernel
theorem dX9_hurl_73 : decode cX9_hurl 73 = .ok (.iload 5, 2) := by decide +kernel
theorem dX9_hurl_75 : decode cX9_hurl 75 = .ok (.iconst 5, 1) := by decide +kernel
theorem dX9_hurl_76 : decode cX9_hurl 76 = .ok (.if_icmp .ge 45, 3) := by decide +kernel
theorem dX9_hurl_79 : decode cX9_hurl 79 = .ok (.aload_n 0, 1) := by decide +kernel
theorem dX9_hurl_80 : decode cX9_hurl 80 = .ok (.iload 4, 2) := by decide +kernel
theorem dX9_hurl_82 : decode cX9_hurl 82 = .ok (.iload_n 2, 1) := by decide +kernel
theorem dX9_hurl_83 : decode cX9_hurl 83 = .ok (.invokestatic 193, 3) := by decide +kernel
theorem dX9_hurl_86 : decode cX9_hurl 86 = .ok (.invokevirtual 174, 3) := by decide +kernel
theorem dX9_hurl_89 : decode cX9_hurl 89 = .ok (.ifCond .eq 32, 3) := by decide +kernel
theorem dX9_hurl_92 : decode cX9_hurl 92 = .ok (.iload 5, 2) := by decide +kernel
theorem dX9_hurl_94 : decode cX9_hurl 94 = .ok (.ifCond .eq 13, 3) := by decide +kernel
theorem dX9_hurl_97 : decode cX9_hurl 97 = .ok (.aload_n 0, 1) := by decide +kernel
theorem dX9_hurl_98 : decode cX9_hurl 98 = .ok (.iload 4, 2) := by decide +kernel
theorem dX9_hurl_100 : decode cX9_hurl 100 = .ok (.invokevirtual 229, 3) := by decide +kernel
theorem dX9_hurl_103 : decode cX9_hurl 103 = .ok (.iconst (-1), 1) := by decide +kernel
theorem dX9_hurl_104 : decode cX9_hurl 104 = .ok (.if_icmp .ne 17, 3) := by decide +kernel
theorem dX9_hurl_107 : decode cX9_hurl 107 = .ok (.iload 4, 2) := by decide +kernel
theorem dX9_hurl_109 : decode cX9_hurl 109 = .ok (.iload_n 2, 1) := by decide +kernel
theorem dX9_hurl_110 : decode cX9_hurl 110 = .ok (.invokestatic 193, 3) := by decide +kernel
theorem dX9_hurl_113 : decode cX9_hurl 113 = .ok (.istore 4, 2) := by decide +kernel
theorem dX9_hurl_115 : decode cX9_hurl 115 = .ok (.iinc 5 1, 3) := by decide +kernel
theorem dX9_hurl_118 : decode cX9_hurl 118 = .ok (.goto (-45), 3) := by decide +kernel
theorem dX9_hurl_121 : decode cX9_hurl 121 = .ok (.aload_n 0, 1) := by decide +kernel
theorem dX9_hurl_122 : decode cX9_hurl 122 = .ok (.getfield 83, 3) := by decide +kernel
theorem dX9_hurl_125 : decode cX9_hurl 125 = .ok (.iload_n 1, 1) := by decide +kernel
theorem dX9_hurl_126 : decode cX9_hurl 126 = .ok (.iload 4, 2) := by decide +kernel
theorem dX9_hurl_128 : decode cX9_hurl 128 = .ok (.iastore, 1) := by decide +kernel
theorem dX9_hurl_129 : decode cX9_hurl 129 = .ok (.iload 5, 2) := by decide +kernel
theorem dX9_hurl_131 : decode cX9_hurl 131 = .ok (.ifCond .le 12, 3) := by decide +kernel
theorem dX9_hurl_134 : decode cX9_hurl 134 = .ok (.aload_n 0, 1) := by decide +kernel
theorem dX9_hurl_135 : decode cX9_hurl 135 = .ok (.iload 4, 2) := by decide +kernel
theorem dX9_hurl_137 : decode cX9_hurl 137 = .ok (.invokevirtual 229, 3) := by decide +kernel
theorem dX9_hurl_140 : decode cX9_hurl 140 = .ok (.goto 4, 3) := by decide +kernel
theorem dX9_hurl_143 : decode cX9_hurl 143 = .ok (.iconst (-1), 1) := by decide +kernel
theorem dX9_hurl_144 : decode cX9_hurl 144 = .ok (.istore 6, 2) := by decide +kernel
theorem dX9_hurl_146 : decode cX9_hurl 146 = .ok (.aload_n 0, 1) := by decide +kernel
theorem dX9_hurl_147 : decode cX9_hurl 147 = .ok (.getfield 50, 3) := by decide +kernel
theorem dX9_hurl_150 : decode cX9_hurl 150 = .ok (.iload_n 1, 1) := by decide +kernel
theorem dX9_hurl_151 : decode cX9_hurl 151 = .ok (.iaload, 1) := by decide +kernel
theorem dX9_hurl_152 : decode cX9_hurl 152 = .ok (.invokestatic 156, 3) := by decide +kernel
theorem dX9_hurl_155 : decode cX9_hurl 155 = .ok (.ifCond .eq 13, 3) := by decide +kernel
theorem dX9_hurl_158 : decode cX9_hurl 158 = .ok (.aload_n 0, 1) := by decide +kernel
theorem dX9_hurl_159 : decode cX9_hurl 159 = .ok (.iload_n 1, 1) := by decide +kernel
theorem dX9_hurl_160 : decode cX9_hurl 160 = .ok (.iload 4, 2) := by decide +kernel
theorem dX9_hurl_162 : decode cX9_hurl 162 = .ok (.invokevirtual 288, 3) := by decide +kernel
theorem dX9_hurl_165 : decode cX9_hurl 165 = .ok (.goto 27, 3) := by decide +kernel
theorem dX9_hurl_168 : decode cX9_hurl 168 = .ok (.aload_n 0, 1) := by decide +kernel
theorem dX9_hurl_169 : decode cX9_hurl 169 = .ok (.getfield 50, 3) := by decide +kernel
theorem dX9_hurl_172 : decode cX9_hurl 172 = .ok (.iload_n 1, 1) := by decide +kernel
theorem dX9_hurl_173 : decode cX9_hurl 173 = .ok (.iaload, 1) := by decide +kernel
theorem dX9_hurl_174 : decode cX9_hurl 174 = .ok (.bipush 7, 2) := by decide +kernel
theorem dX9_hurl_176 : decode cX9_hurl 176 = .ok (.if_icmp .ne 16, 3) := by decide +kernel
theorem dX9_hurl_179 : decode cX9_hurl 179 = .ok (.iload 6, 2) := by decide +kernel
theorem dX9_hurl_181 : decode cX9_hurl 181 = .ok (.iconst (-1), 1) := by decide +kernel
theorem dX9_hurl_182 : decode cX9_hurl 182 = .ok (.if_icmp .eq 10, 3) := by decide +kernel
theorem dX9_hurl_185 : decode cX9_hurl 185 = .ok (.aload_n 0, 1) := by decide +kernel
theorem dX9_hurl_186 : decode cX9_hurl 186 = .ok (.iload 6, 2) := by decide +kernel
theorem dX9_hurl_188 : decode cX9_hurl 188 = .ok (.iconst 4, 1) := by decide +kernel
theorem dX9_hurl_189 : decode cX9_hurl 189 = .ok (.invokevirtual 267, 3) := by decide +kernel
theorem dX9_hurl_192 : decode cX9_hurl 192 = .ok (.aload_n 0, 1) := by decide +kernel
theorem dX9_hurl_193 : decode cX9_hurl 193 = .ok (.invokevirtual 273, 3) := by decide +kernel
theorem dX9_hurl_196 : decode cX9_hurl 196 = .ok (.iload 5, 2) := by decide +kernel
theorem dX9_hurl_198 : decode cX9_hurl 198 = .ok (.ireturn, 1) := by decide +kernel
theorem dX9_shout_0 : decode cX9_shout 0 = .ok (.aload_n 0, 1) := by decide +kernel
theorem dX9_shout_1 : decode cX9_shout 1 = .ok (.iload_n 1, 1) := by decide +kernel
theorem dX9_shout_2 : decode cX9_shout 2 = .ok (.iconst 1, 1) := by decide +kernel
theorem dX9_shout_3 : decode cX9_shout 3 = .ok (.bipush 30, 2) := by decide +kernel
theorem dX9_shout_5 : decode cX9_shout 5 = .ok (.invokestatic 110, 3) := by decide +kernel
theorem dX9_shout_8 : decode cX9_shout 8 = .ok (.ifCond .ne 7, 3) := by decide +kernel
theorem dX9_shout_11 : decode cX9_shout 11 = .ok (.iconst 1, 1) := by decide +kernel
theorem dX9_shout_12 : decode cX9_shout 12 = .ok (.goto 15, 3) := by decide +kernel
theorem dX9_shout_15 : decode cX9_shout 15 = .ok (.aload_n 0, 1) := by decide +kernel
theorem dX9_shout_16 : decode cX9_shout 16 = .ok (.invokevirtual 145, 3) := by decide +kernel
theorem dX9_shout_19 : decode cX9_shout 19 = .ok (.ifCond .ne 7, 3) := by decide +kernel
theorem dX9_shout_22 : decode cX9_shout 22 = .ok (.iconst 2, 1) := by decide +kernel
theorem dX9_shout_23 : decode cX9_shout 23 = .ok (.goto 4, 3) := by decide +kernel
theorem dX9_shout_26 : decode cX9_shout 26 = .ok (.iconst 0, 1) := by decide +kernel
theorem dX9_shout_27 : decode cX9_shout 27 = .ok (.invokevirtual 149, 3) := by decide +kernel
theorem dX9_shout_30 : decode cX9_shout 30 = .ok (.ifCond .ne 5, 3) := by decide +kernel
theorem dX9_shout_33 : decode cX9_shout 33 = .ok (.iconst 0, 1) := by decide +kernel
theorem dX9_shout_34 : decode cX9_shout 34 = .ok (.ireturn, 1) := by decide +kernel
theorem dX9_shout_35 : decode cX9_shout 35 = .ok (.aload_n 0, 1) := by decide +kernel
theorem dX9_shout_36 : decode cX9_shout 36 = .ok (.aload_n 0, 1) := by decide +kernel
theorem dX9_shout_37 : decode cX9_shout 37 = .ok (.getfield 65, 3) := by decide +kernel
theorem dX9_shout_40 : decode cX9_shout 40 = .ok (.iconst 0, 1) := by decide +kernel
theorem dX9_shout_41 : decode cX9_shout 41 = .ok (.iaload, 1) := by decide +kernel
theorem dX9_shout_42 : decode cX9_shout 42 = .ok (.iload_n 1, 1) := by decide +kernel
theorem dX9_shout_43 : decode cX9_shout 43 = .ok (.invokevirtual 238, 3) := by decide +kernel
theorem dX9_shout_46 : decode cX9_shout 46 = .ok (.istore_n 2, 1) := by decide +kernel
theorem dX9_shout_47 : decode cX9_shout 47 = .ok (.aload_n 0, 1) := by decide +kernel
theorem dX9_shout_48 : decode cX9_shout 48 = .ok (.invokevirtual 273, 3) := by decide +kernel
theorem dX9_shout_51 : decode cX9_shout 51 = .ok (.iload_n 2, 1) := by decide +kernel
theorem dX9_shout_52 : decode cX9_shout 52 = .ok (.ireturn, 1) := by decide +kernel
theorem dX9_pray_0 : decode cX9_pray 0 = .ok (.aload_n 0, 1) := by decide +kernel
theorem dX9_pray_1 : decode cX9_pray 1 = .ok (.aload_n 0, 1) := by decide +kernel
theorem dX9_pray_2 : decode cX9_pray 2 = .ok (.invokevirtual 145, 3) := by decide +kernel
theorem dX9_pray_5 : decode cX9_pray 5 = .ok (.ifCond .eq 7, 3) := by decide +kernel
theorem dX9_pray_8 : decode cX9_pray 8 = .ok (.iconst 0, 1) := by decide +kernel
theorem dX9_pray_9 : decode cX9_pray 9 = .ok (.goto 4, 3) := by decide +kernel
theorem dX9_pray_12 : decode cX9_pray 12 = .ok (.iconst 1, 1) := by decide +kernel
theorem dX9_pray_13 : decode cX9_pray 13 = .ok (.invokevirtual 149, 3) := by decide +kernel
theorem dX9_pray_16 : decode cX9_pray 16 = .ok (.ifCond .ne 5, 3) := by decide +kernel
theorem dX9_pray_19 : decode cX9_pray 19 = .ok (.iconst 0, 1) := by decide +kernel
theorem dX9_pray_20 : decode cX9_pray 20 = .ok (.ireturn, 1) := by decide +kernel
theorem dX9_pray_21 : decode cX9_pray 21 = .ok (.iconst 3, 1) := by decide +kernel
theorem dX9_pray_22 : decode cX9_pray 22 = .ok (.aload_n 0, 1) := by decide +kernel
theorem dX9_pray_23 : decode cX9_pray 23 = .ok (.getfield 68, 3) := by decide +kernel
theorem dX9_pray_26 : decode cX9_pray 26 = .ok (.iconst 0, 1) := by decide +kernel
theorem dX9_pray_27 : decode cX9_pray 27 = .ok (.iaload, 1) := by decide +kernel
theorem dX9_pray_28 : decode cX9_pray 28 = .ok (.imul, 1) := by decide +kernel
theorem dX9_pray_29 : decode cX9_pray 29 = .ok (.aload_n 0, 1) := by decide +kernel
theorem dX9_pray_30 : decode cX9_pray 30 = .ok (.getfield 47, 3) := by decide +kernel
theorem dX9_pray_33 : decode cX9_pray 33 = .ok (.iconst 0, 1) := by decide +kernel
theorem dX9_pray_34 : decode cX9_pray 34 = .ok (.iaload, 1) := by decide +kernel
theorem dX9_pray_35 : decode cX9_pray 35 = .ok (.if_icmp .ge 14, 3) := by decide +kernel
theorem dX9_pray_38 : decode cX9_pray 38 = .ok (.aload_n 0, 1) := by decide +kernel
theorem dX9_pray_39 : decode cX9_pray 39 = .ok (.getfield 139, 3) := by decide +kernel
theorem dX9_pray_42 : decode cX9_pray 42 = .ok (.ifCond .lt 7, 3) := by decide +kernel
theorem dX9_pray_45 : decode cX9_pray 45 = .ok (.iconst 1, 1) := by decide +kernel
theorem dX9_pray_46 : decode cX9_pray 46 = .ok (.goto 4, 3) := by decide +kernel
theorem dX9_pray_49 : decode cX9_pray 49 = .ok (.iconst 0, 1) := by decide +kernel
theorem dX9_pray_50 : decode cX9_pray 50 = .ok (.istore_n 1, 1) := by decide +kernel
theorem dX9_pray_51 : decode cX9_pray 51 = .ok (.aload_n 0, 1) := by decide +kernel
theorem dX9_pray_52 : decode cX9_pray 52 = .ok (.getfield 68, 3) := by decide +kernel
theorem dX9_pray_55 : decode cX9_pray 55 = .ok (.iconst 0, 1) := by decide +kernel
theorem dX9_pray_56 : decode cX9_pray 56 = .ok (.iload_n 1, 1) := by decide +kernel
theorem dX9_pray_57 : decode cX9_pray 57 = .ok (.ifCond .eq 12, 3) := by decide +kernel
theorem dX9_pray_60 : decode cX9_pray 60 = .ok (.aload_n 0, 1) := by decide +kernel
theorem dX9_pray_61 : decode cX9_pray 61 = .ok (.getfield 47, 3) := by decide +kernel
theorem dX9_pray_64 : decode cX9_pray 64 = .ok (.iconst 0, 1) := by decide +kernel
theorem dX9_pray_65 : decode cX9_pray 65 = .ok (.iaload, 1) := by decide +kernel
theorem dX9_pray_66 : decode cX9_pray 66 = .ok (.goto 9, 3) := by decide +kernel
theorem dX9_pray_69 : decode cX9_pray 69 = .ok (.aload_n 0, 1) := by decide +kernel
theorem dX9_pray_70 : decode cX9_pray 70 = .ok (.getfield 68, 3) := by decide +kernel
theorem dX9_pray_73 : decode cX9_pray 73 = .ok (.iconst 0, 1) := by decide +kernel
theorem dX9_pray_74 : decode cX9_pray 74 = .ok (.iaload, 1) := by decide +kernel
theorem dX9_pray_75 : decode cX9_pray 75 = .ok (.iastore, 1) := by decide +kernel
theorem dX9_pray_76 : decode cX9_pray 76 = .ok (.aload_n 0, 1) := by decide +kernel
theorem dX9_pray_77 : decode cX9_pray 77 = .ok (.dup, 1) := by decide +kernel
theorem dX9_pray_78 : decode cX9_pray 78 = .ok (.getfield 139, 3) := by decide +kernel
theorem dX9_pray_81 : decode cX9_pray 81 = .ok (.iload_n 1, 1) := by decide +kernel
theorem dX9_pray_82 : decode cX9_pray 82 = .ok (.ifCond .eq 7, 3) := by decide +kernel
theorem dX9_pray_85 : decode cX9_pray 85 = .ok (.iconst 5, 1) := by decide +kernel
theorem dX9_pray_86 : decode cX9_pray 86 = .ok (.goto 4, 3) := by decide +kernel
theorem dX9_pray_89 : decode cX9_pray 89 = .ok (.iconst 1, 1) := by decide +kernel
theorem dX9_pray_90 : decode cX9_pray 90 = .ok (.isub, 1) := by decide +kernel
theorem dX9_pray_91 : decode cX9_pray 91 = .ok (.putfield 139, 3) := by decide +kernel
theorem dX9_pray_94 : decode cX9_pray 94 = .ok (.aload_n 0, 1) := by decide +kernel
theorem dX9_pray_95 : decode cX9_pray 95 = .ok (.getfield 139, 3) := by decide +kernel
theorem dX9_pray_98 : decode cX9_pray 98 = .ok (.istore_n 2, 1) := by decide +kernel
theorem dX9_pray_99 : decode cX9_pray 99 = .ok (.aload_n 0, 1) := by decide +kernel
theorem dX9_pray_100 : decode cX9_pray 100 = .ok (.invokevirtual 273, 3) := by decide +kernel
theorem dX9_pray_103 : decode cX9_pray 103 = .ok (.iload_n 2, 1) := by decide +kernel
theorem dX9_pray_104 : decode cX9_pray 104 = .ok (.ireturn, 1) := by decide +kernel
theorem dX9_state_0 : decode cX9_state 0 = .ok (.aload_n 0, 1) := by decide +kernel
theorem dX9_state_1 : decode cX9_state 1 = .ok (.iconst 0, 1) := by decide +kernel
theorem dX9_state_2 : decode cX9_state 2 = .ok (.putfield 107, 3) := by decide +kernel
theorem dX9_state_5 : decode cX9_state 5 = .ok (.aload_n 0, 1) := by decide +kernel
theorem dX9_state_6 : decode cX9_state 6 = .ok (.getfield 7, 3) := by decide +kernel
theorem dX9_state_9 : decode cX9_state 9 = .ok (.ireturn, 1) := by decide +kernel
theorem dX9_tick_0 : decode cX9_tick 0 = .ok (.aload_n 0, 1) := by decide +kernel
theorem dX9_tick_1 : decode cX9_tick 1 = .ok (.iconst 0, 1) := by decide +kernel
theorem dX9_tick_2 : decode cX9_tick 2 = .ok (.putfield 107, 3) := by decide +kernel
theorem dX9_tick_5 : decode cX9_tick 5 = .ok (.aload_n 0, 1) := by decide +kernel
theorem dX9_tick_6 : decode cX9_tick 6 = .ok (.getfield 133, 3) := by decide +kernel
theorem dX9_tick_9 : decode cX9_tick 9 = .ok (.ireturn, 1) := by decide +kernel
theorem dX9_cell_0 : decode cX9_cell 0 = .ok (.aload_n 0, 1) := by decide +kernel
theorem dX9_cell_1 : decode cX9_cell 1 = .ok (.iload_n 1, 1) := by decide +kernel
theorem dX9_cell_2 : decode cX9_cell 2 = .ok (.iload_n 2, 1) := by decide +kernel
theorem dX9_cell_3 : decode cX9_cell 3 = .ok (.invokestatic 121, 3) := by decide +kernel
theorem dX9_cell_6 : decode cX9_cell 6 = .ok (.ifCond .eq 7, 3) := by decide +kernel
theorem dX9_cell_9 : decode cX9_cell 9 = .ok (.iconst 0, 1) := by decide +kernel
theorem dX9_cell_10 : decode cX9_cell 10 = .ok (.goto 4, 3) := by decide +kernel
theorem dX9_cell_13 : decode cX9_cell 13 = .ok (.iconst 1, 1) := by decide +kernel
theorem dX9_cell_14 : decode cX9_cell 14 = .ok (.invokevirtual 149, 3) := by decide +kernel
theorem dX9_cell_17 : decode cX9_cell 17 = .ok (.ifCond .eq 16, 3) := by decide +kernel
theorem dX9_cell_20 : decode cX9_cell 20 = .ok (.aload_n 0, 1) := by decide +kernel
theorem dX9_cell_21 : decode cX9_cell 21 = .ok (.getfield 62, 3) := by decide +kernel
theorem dX9_cell_24 : decode cX9_cell 24 = .ok (.iload_n 1, 1) := by decide +kernel
theorem dX9_cell_25 : decode cX9_cell 25 = .ok (.iload_n 2, 1) := by decide +kernel
theorem dX9_cell_26 : decode cX9_cell 26 = .ok (.invokestatic 125, 3) := by decide +kernel
theorem dX9_cell_29 : decode cX9_cell 29 = .ok (.caload, 1) := by decide +kernel
theorem dX9_cell_30 : decode cX9_cell 30 = .ok (.goto 4, 3) := by decide +kernel
theorem dX9_cell_33 : decode cX9_cell 33 = .ok (.iconst 0, 1) := by decide +kernel
theorem dX9_cell_34 : decode cX9_cell 34 = .ok (.ireturn, 1) := by decide +kernel
theorem dX9_see_0 : decode cX9_see 0 = .ok (.aload_n 0, 1) := by decide +kernel
theorem dX9_see_1 : decode cX9_see 1 = .ok (.iload_n 1, 1) := by decide +kernel
theorem dX9_see_2 : decode cX9_see 2 = .ok (.iload_n 2, 1) := by decide +kernel
theorem dX9_see_3 : decode cX9_see 3 = .ok (.invokestatic 121, 3) := by decide +kernel
theorem dX9_see_6 : decode cX9_see 6 = .ok (.ifCond .eq 16, 3) := by decide +kernel
theorem dX9_see_9 : decode cX9_see 9 = .ok (.iload_n 3, 1) := by decide +kernel
theorem dX9_see_10 : decode cX9_see 10 = .ok (.iload 4, 2) := by decide +kernel
theorem dX9_see_12 : decode cX9_see 12 = .ok (.invokestatic 121, 3) := by decide +kernel
theorem dX9_see_15 : decode cX9_see 15 = .ok (.ifCond .eq 7, 3) := by decide +kernel
theorem dX9_see_18 : decode cX9_see 18 = .ok (.iconst 0, 1) := by decide +kernel
theorem dX9_see_19 : decode cX9_see 19 = .ok (.goto 4, 3) := by decide +kernel
theorem dX9_see_22 : decode cX9_see 22 = .ok (.iconst 1, 1) := by decide +kernel
theorem dX9_see_23 : decode cX9_see 23 = .ok (.invokevirtual 149, 3) := by decide +kernel
theorem dX9_see_26 : decode cX9_see 26 = .ok (.ifCond .eq 25, 3) := by decide +kernel
theorem dX9_see_29 : decode cX9_see 29 = .ok (.aload_n 0, 1) := by decide +kernel
theorem dX9_see_30 : decode cX9_see 30 = .ok (.iload_n 1, 1) := by decide +kernel
theorem dX9_see_31 : decode cX9_see 31 = .ok (.iload_n 2, 1) := by decide +kernel
theorem dX9_see_32 : decode cX9_see 32 = .ok (.invokestatic 125, 3) := by decide +kernel
theorem dX9_see_35 : decode cX9_see 35 = .ok (.iload_n 3, 1) := by decide +kernel
theorem dX9_see_36 : decode cX9_see 36 = .ok (.iload 4, 2) := by decide +kernel
theorem dX9_see_38 : decode cX9_see 38 = .ok (.invokestatic 125, 3) := by decide +kernel
theorem dX9_see_41 : decode cX9_see 41 = .ok (.invokevirtual 180, 3) := by decide +kernel
theorem dX9_see_44 : decode cX9_see 44 = .ok (.ifCond .eq 7, 3) := by decide +kernel
theorem dX9_see_47 : decode cX9_see 47 = .ok (.iconst 1, 1) := by decide +kernel
theorem dX9_see_48 : decode cX9_see 48 = .ok (.goto 4, 3) := by decide +kernel
theorem dX9_see_51 : decode cX9_see 51 = .ok (.iconst 0, 1) := by decide +kernel
theorem dX9_see_52 : decode cX9_see 52 = .ok (.ireturn, 1) := by decide +kernel
theorem dX9_heroSees_0 : decode cX9_heroSees 0 = .ok (.aload_n 0, 1) := by decide +kernel
theorem dX9_heroSees_1 : decode cX9_heroSees 1 = .ok (.iload_n 1, 1) := by decide +kernel
theorem dX9_heroSees_2 : decode cX9_heroSees 2 = .ok (.iload_n 2, 1) := by decide +kernel
theorem dX9_heroSees_3 : decode cX9_heroSees 3 = .ok (.invokestatic 121, 3) := by decide +kernel
theorem dX9_heroSees_6 : decode cX9_heroSees 6 = .ok (.ifCond .ne 7, 3) := by decide +kernel
theorem dX9_heroSees_9 : decode cX9_heroSees 9 = .ok (.iconst 1, 1) := by decide +kernel
theorem dX9_heroSees_10 : decode cX9_heroSees 10 = .ok (.goto 15, 3) := by decide +kernel
theorem dX9_heroSees_13 : decode cX9_heroSees 13 = .ok (.aload_n 0, 1) := by decide +kernel
theorem dX9_heroSees_14 : decode cX9_heroSees 14 = .ok (.invokevirtual 145, 3) := by decide +kernel
theorem dX9_heroSees_17 : decode cX9_heroSees 17 = .ok (.ifCond .ne 7, 3) := by decide +kernel
theorem dX9_heroSees_20 : decode cX9_heroSees 20 = .ok (.iconst 2, 1) := by decide +kernel
theorem dX9_heroSees_21 : decode cX9_heroSees 21 = .ok (.goto 4, 3) := by decide +kernel
theorem dX9_heroSees_24 : decode cX9_heroSees 24 = .ok (.iconst 0, 1) := by decide +kernel
theorem dX9_heroSees_25 : decode cX9_heroSees 25 = .ok (.invokevirtual 149, 3) := by decide +kernel
theorem dX9_heroSees_28 : decode cX9_heroSees 28 = .ok (.ifCond .eq 19, 3) := by decide +kernel
theorem dX9_heroSees_31 : decode cX9_heroSees 31 = .ok (.aload_n 0, 1) := by decide +kernel
theorem dX9_heroSees_32 : decode cX9_heroSees 32 = .ok (.iload_n 1, 1) := by decide +kernel
theorem dX9_heroSees_33 : decode cX9_heroSees 33 = .ok (.iload_n 2, 1) := by decide +kernel
theorem dX9_heroSees_34 : decode cX9_heroSees 34 = .ok (.invokestatic 125, 3) := by decide +kernel
theorem dX9_heroSees_37 : decode cX9_heroSees 37 = .ok (.invokevirtual 291, 3) := by decide +kernel
theorem dX9_heroSees_40 : decode cX9_heroSees 40 = .ok (.ifCond .eq 7, 3) := by decide +kernel
theorem dX9_heroSees_43 : decode cX9_heroSees 43 = .ok (.iconst 1, 1) := by decide +kernel
theorem dX9_heroSees_44 : decode cX9_heroSees 44 = .ok (.goto 4, 3) := by decide +kernel
theorem dX9_heroSees_47 : decode cX9_heroSees 47 = .ok (.iconst 0, 1) := by decide +kernel
theorem dX9_heroSees_48 : decode cX9_heroSees 48 = .ok (.ireturn, 1) := by decide +kernel
theorem dX9_placeOf_0 : decode cX9_placeOf 0 = .ok (.aload_n 0, 1) := by decide +kernel
theorem dX9_placeOf_1 : decode cX9_placeOf 1 = .ok (.iload_n 1, 1) := by decide +kernel
theorem dX9_placeOf_2 : decode cX9_placeOf 2 = .ok (.iconst 0, 1) := by decide +kernel
theorem dX9_placeOf_3 : decode cX9_placeOf 3 = .ok (.aload_n 0, 1) := by decide +kernel
theorem dX9_placeOf_4 : decode cX9_placeOf 4 = .ok (.getfield 34, 3) := by decide +kernel
theorem dX9_placeOf_7 : decode cX9_placeOf 7 = .ok (.iconst 1, 1) := by decide +kernel
theorem dX9_placeOf_8 : decode cX9_placeOf 8 = .ok (.isub, 1) := by decide +kernel
theorem dX9_placeOf_9 : decode cX9_placeOf 9 = .ok (.invokestatic 110, 3) := by decide +kernel
theorem dX9_placeOf_12 : decode cX9_placeOf 12 = .ok (.ifCond .eq 7, 3) := by decide +kernel
theorem dX9_placeOf_15 : decode cX9_placeOf 15 = .ok (.iconst 0, 1) := by decide +kernel
theorem dX9_placeOf_16 : decode cX9_placeOf 16 = .ok (.goto 4, 3) := by decide +kernel
theorem dX9_placeOf_19 : decode cX9_placeOf 19 = .ok (.iconst 1, 1) := by decide +kernel
theorem dX9_placeOf_20 : decode cX9_placeOf 20 = .ok (.invokevirtual 149, 3) := by decide +kernel
theorem dX9_placeOf_23 : decode cX9_placeOf 23 = .ok (.ifCond .eq 15, 3) := by decide +kernel
theorem dX9_placeOf_26 : decode cX9_placeOf 26 = .ok (.aload_n 0, 1) := by decide +kernel
theorem dX9_placeOf_27 : decode cX9_placeOf 27 = .ok (.getfield 65, 3) := by decide +kernel
theorem dX9_placeOf_30 : decode cX9_placeOf 30 = .ok (.iload_n 1, 1) := by decide +kernel
theorem dX9_placeOf_31 : decode cX9_placeOf 31 = .ok (.iaload, 1) := by decide +kernel
theorem dX9_placeOf_32 : decode cX9_placeOf 32 = .ok (.invokestatic 294, 3) := by decide +kernel
theorem dX9_placeOf_35 : decode cX9_placeOf 35 = .ok (.goto 4, 3) := by decide +kernel
theorem dX9_placeOf_38 : decode cX9_placeOf 38 = .ok (.iconst 0, 1) := by decide +kernel
theorem dX9_placeOf_39 : decode cX9_placeOf 39 = .ok (.ireturn, 1) := by decide +kernel
theorem dX9_healthOf_0 : decode cX9_healthOf 0 = .ok (.aload_n 0, 1) := by decide +kernel
theorem dX9_healthOf_1 : decode cX9_healthOf 1 = .ok (.iload_n 1, 1) := by decide +kernel
theorem dX9_healthOf_2 : decode cX9_healthOf 2 = .ok (.iconst 0, 1) := by decide +kernel
theorem dX9_healthOf_3 : decode cX9_healthOf 3 = .ok (.aload_n 0, 1) := by decide +kernel
theorem dX9_healthOf_4 : decode cX9_healthOf 4 = .ok (.getfield 34, 3) := by decide +kernel
theorem dX9_healthOf_7 : decode cX9_healthOf 7 = .ok (.iconst 1, 1) := by decide +kernel
theorem dX9_healthOf_8 : decode cX9_healthOf 8 = .ok (.isub, 1) := by decide +kernel
theorem dX9_healthOf_9 : decode cX9_healthOf 9 = .ok (.invokestatic 110, 3) := by decide +kernel
theorem dX9_healthOf_12 : decode cX9_healthOf 12 = .ok (.ifCond .eq 7, 3) := by decide +kernel
theorem dX9_healthOf_15 : decode cX9_healthOf 15 = .ok (.iconst 0, 1) := by decide +kernel
theorem dX9_healthOf_16 : decode cX9_healthOf 16 = .ok (.goto 4, 3) := by decide +kernel
theorem dX9_healthOf_19 : decode cX9_healthOf 19 = .ok (.iconst 1, 1) := by decide +kernel
theorem dX9_healthOf_20 : decode cX9_healthOf 20 = .ok (.invokevirtual 149, 3) := by decide +kernel
theorem dX9_healthOf_23 : decode cX9_healthOf 23 = .ok (.ifCond .eq 12, 3) := by decide +kernel
theorem dX9_healthOf_26 : decode cX9_healthOf 26 = .ok (.aload_n 0, 1) := by decide +kernel
theorem dX9_healthOf_27 : decode cX9_healthOf 27 = .ok (.getfield 68, 3) := by decide +kernel
theorem dX9_healthOf_30 : decode cX9_healthOf 30 = .ok (.iload_n 1, 1) := by decide +kernel
theorem dX9_healthOf_31 : decode cX9_healthOf 31 = .ok (.iaload, 1) := by decide +kernel
theorem dX9_healthOf_32 : decode cX9_healthOf 32 = .ok (.goto 4, 3) := by decide +kernel
theorem dX9_healthOf_35 : decode cX9_healthOf 35 = .ok (.iconst 0, 1) := by decide +kernel
theorem dX9_healthOf_36 : decode cX9_healthOf 36 = .ok (.ireturn, 1) := by decide +kernel
theorem dX9_aimOf_0 : decode cX9_aimOf 0 = .ok (.iload_n 1, 1) := by decide +kernel
theorem dX9_aimOf_1 : decode cX9_aimOf 1 = .ok (.iconst 1, 1) := by decide +kernel
theorem dX9_aimOf_2 : decode cX9_aimOf 2 = .ok (.aload_n 0, 1) := by decide +kernel
theorem dX9_aimOf_3 : decode cX9_aimOf 3 = .ok (.getfield 34, 3) := by decide +kernel
theorem dX9_aimOf_6 : decode cX9_aimOf 6 = .ok (.iconst 1, 1) := by decide +kernel
theorem dX9_aimOf_7 : decode cX9_aimOf 7 = .ok (.isub, 1) := by decide +kernel
theorem dX9_aimOf_8 : decode cX9_aimOf 8 = .ok (.invokestatic 110, 3) := by decide +kernel
theorem dX9_aimOf_11 : decode cX9_aimOf 11 = .ok (.istore_n 2, 1) := by decide +kernel
theorem dX9_aimOf_12 : decode cX9_aimOf 12 = .ok (.aload_n 0, 1) := by decide +kernel
theorem dX9_aimOf_13 : decode cX9_aimOf 13 = .ok (.iload_n 2, 1) := by decide +kernel
theorem dX9_aimOf_14 : decode cX9_aimOf 14 = .ok (.ifCond .ne 7, 3) := by decide +kernel
theorem dX9_aimOf_17 : decode cX9_aimOf 17 = .ok (.iconst 1, 1) := by decide +kernel
theorem dX9_aimOf_18 : decode cX9_aimOf 18 = .ok (.goto 18, 3) := by decide +kernel
theorem dX9_aimOf_21 : decode cX9_aimOf 21 = .ok (.aload_n 0, 1) := by decide +kernel
theorem dX9_aimOf_22 : decode cX9_aimOf 22 = .ok (.getfield 80, 3) := by decide +kernel
theorem dX9_aimOf_25 : decode cX9_aimOf 25 = .ok (.iload_n 1, 1) := by decide +kernel
theorem dX9_aimOf_26 : decode cX9_aimOf 26 = .ok (.iaload, 1) := by decide +kernel
theorem dX9_aimOf_27 : decode cX9_aimOf 27 = .ok (.iconst (-1), 1) := by decide +kernel
theorem dX9_aimOf_28 : decode cX9_aimOf 28 = .ok (.if_icmp .ne 7, 3) := by decide +kernel
theorem dX9_aimOf_31 : decode cX9_aimOf 31 = .ok (.iconst 2, 1) := by decide +kernel
theorem dX9_aimOf_32 : decode cX9_aimOf 32 = .ok (.goto 4, 3) := by decide +kernel
theorem dX9_aimOf_35 : decode cX9_aimOf 35 = .ok (.iconst 0, 1) := by decide +kernel
theorem dX9_aimOf_36 : decode cX9_aimOf 36 = .ok (.invokevirtual 149, 3) := by decide +kernel
theorem dX9_aimOf_39 : decode cX9_aimOf 39 = .ok (.ifCond .eq 15, 3) := by decide +kernel
theorem dX9_aimOf_42 : decode cX9_aimOf 42 = .ok (.aload_n 0, 1) := by decide +kernel
theorem dX9_aimOf_43 : decode cX9_aimOf 43 = .ok (.getfield 80, 3) := by decide +kernel
theorem dX9_aimOf_46 : decode cX9_aimOf 46 = .ok (.iload_n 1, 1) := by decide +kernel
theorem dX9_aimOf_47 : decode cX9_aimOf 47 = .ok (.iaload, 1) := by decide +kernel
theorem dX9_aimOf_48 : decode cX9_aimOf 48 = .ok (.invokestatic 294, 3) := by decide +kernel
theorem dX9_aimOf_51 : decode cX9_aimOf 51 = .ok (.goto 4, 3) := by decide +kernel
theorem dX9_aimOf_54 : decode cX9_aimOf 54 = .ok (.iconst 0, 1) := by decide +kernel
theorem dX9_aimOf_55 : decode cX9_aimOf 55 = .ok (.ireturn, 1) := by decide +kernel
theorem dX9_whereIs_0 : decode cX9_whereIs 0 = .ok (.aload_n 0, 1) := by decide +kernel
theorem dX9_whereIs_1 : decode cX9_whereIs 1 = .ok (.aload_n 0, 1) := by decide +kernel
theorem dX9_whereIs_2 : decode cX9_whereIs 2 = .ok (.iload_n 1, 1) := by decide +kernel
theorem dX9_whereIs_3 : decode cX9_whereIs 3 = .ok (.invokevirtual 165, 3) := by decide +kernel
theorem dX9_whereIs_6 : decode cX9_whereIs 6 = .ok (.ifCond .eq 7, 3) := by decide +kernel
theorem dX9_whereIs_9 : decode cX9_whereIs 9 = .ok (.iconst 0, 1) := by decide +kernel
theorem dX9_whereIs_10 : decode cX9_whereIs 10 = .ok (.goto 4, 3) := by decide +kernel
theorem dX9_whereIs_13 : decode cX9_whereIs 13 = .ok (.iconst 1, 1) := by decide +kernel
theorem dX9_whereIs_14 : decode cX9_whereIs 14 = .ok (.invokevirtual 149, 3) := by decide +kernel
theorem dX9_whereIs_17 : decode cX9_whereIs 17 = .ok (.ifCond .eq 33, 3) := by decide +kernel
theorem dX9_whereIs_20 : decode cX9_whereIs 20 = .ok (.aload_n 0, 1) := by decide +kernel
theorem dX9_whereIs_21 : decode cX9_whereIs 21 = .ok (.getfield 83, 3) := by decide +kernel
theorem dX9_whereIs_24 : decode cX9_whereIs 24 = .ok (.iload_n 1, 1) := by decide +kernel
theorem dX9_whereIs_25 : decode cX9_whereIs 25 = .ok (.iaload, 1) := by decide +kernel
theorem dX9_whereIs_26 : decode cX9_whereIs 26 = .ok (.ifCond .lt 15, 3) := by decide +kernel
theorem dX9_whereIs_29 : decode cX9_whereIs 29 = .ok (.aload_n 0, 1) := by decide +kernel
theorem dX9_whereIs_30 : decode cX9_whereIs 30 = .ok (.getfield 83, 3) := by decide +kernel
theorem dX9_whereIs_33 : decode cX9_whereIs 33 = .ok (.iload_n 1, 1) := by decide +kernel
theorem dX9_whereIs_34 : decode cX9_whereIs 34 = .ok (.iaload, 1) := by decide +kernel
theorem dX9_whereIs_35 : decode cX9_whereIs 35 = .ok (.invokestatic 294, 3) := by decide +kernel
theorem dX9_whereIs_38 : decode cX9_whereIs 38 = .ok (.goto 13, 3) := by decide +kernel
theorem dX9_whereIs_41 : decode cX9_whereIs 41 = .ok (.aload_n 0, 1) := by decide +kernel
theorem dX9_whereIs_42 : decode cX9_whereIs 42 = .ok (.getfield 83, 3) := by decide +kernel
theorem dX9_whereIs_45 : decode cX9_whereIs 45 = .ok (.iload_n 1, 1) := by decide +kernel
theorem dX9_whereIs_46 : decode cX9_whereIs 46 = .ok (.iaload, 1) := by decide +kernel
theorem dX9_whereIs_47 : decode cX9_whereIs 47 = .ok (.goto 4, 3) := by decide +kernel
theorem dX9_whereIs_50 : decode cX9_whereIs 50 = .ok (.iconst 0, 1) := by decide +kernel
theorem dX9_whereIs_51 : decode cX9_whereIs 51 = .ok (.ireturn, 1) := by decide +kernel
theorem dX9_weightOf_0 : decode cX9_weightOf 0 = .ok (.aload_n 0, 1) := by decide +kernel
theorem dX9_weightOf_1 : decode cX9_weightOf 1 = .ok (.aload_n 0, 1) := by decide +kernel
theorem dX9_weightOf_2 : decode cX9_weightOf 2 = .ok (.iload_n 1, 1) := by decide +kernel
theorem dX9_weightOf_3 : decode cX9_weightOf 3 = .ok (.invokevirtual 165, 3) := by decide +kernel
theorem dX9_weightOf_6 : decode cX9_weightOf 6 = .ok (.ifCond .eq 7, 3) := by decide +kernel
theorem dX9_weightOf_9 : decode cX9_weightOf 9 = .ok (.iconst 0, 1) := by decide +kernel
theorem dX9_weightOf_10 : decode cX9_weightOf 10 = .ok (.goto 4, 3) := by decide +kernel
theorem dX9_weightOf_13 : decode cX9_weightOf 13 = .ok (.iconst 1, 1) := by decide +kernel
theorem dX9_weightOf_14 : decode cX9_weightOf 14 = .ok (.invokevirtual 149, 3) := by decide +kernel
theorem dX9_weightOf_17 : decode cX9_weightOf 17 = .ok (.ifCond .eq 11, 3) := by decide +kernel
theorem dX9_weightOf_20 : decode cX9_weightOf 20 = .ok (.aload_n 0, 1) := by decide +kernel
theorem dX9_weightOf_21 : decode cX9_weightOf 21 = .ok (.iload_n 1, 1) := by decide +kernel
theorem dX9_weightOf_22 : decode cX9_weightOf 22 = .ok (.invokevirtual 279, 3) := by decide +kernel
theorem dX9_weightOf_25 : decode cX9_weightOf 25 = .ok (.goto 4, 3) := by decide +kernel
theorem dX9_weightOf_28 : decode cX9_weightOf 28 = .ok (.iconst 0, 1) := by decide +kernel
theorem dX9_weightOf_29 : decode cX9_weightOf 29 = .ok (.ireturn, 1) := by decide +kernel
theorem dX9_lookOf_0 : decode cX9_lookOf 0 = .ok (.aload_n 0, 1) := by decide +kernel
theorem dX9_lookOf_1 : decode cX9_lookOf 1 = .ok (.getfield 252, 3) := by decide +kernel
theorem dX9_lookOf_4 : decode cX9_lookOf 4 = .ok (.bipush 6, 2) := by decide +kernel
theorem dX9_lookOf_6 : decode cX9_lookOf 6 = .ok (.irem, 1) := by decide +kernel
theorem dX9_lookOf_7 : decode cX9_lookOf 7 = .ok (.istore_n 2, 1) := by decide +kernel
theorem dX9_lookOf_8 : decode cX9_lookOf 8 = .ok (.iload_n 2, 1) := by decide +kernel
theorem dX9_lookOf_9 : decode cX9_lookOf 9 = .ok (.iconst 2, 1) := by decide +kernel
theorem dX9_lookOf_10 : decode cX9_lookOf 10 = .ok (.idiv, 1) := by decide +kernel
theorem dX9_lookOf_11 : decode cX9_lookOf 11 = .ok (.istore_n 3, 1) := by decide +kernel
theorem dX9_lookOf_12 : decode cX9_lookOf 12 = .ok (.iload_n 3, 1) := by decide +kernel
theorem dX9_lookOf_13 : decode cX9_lookOf 13 = .ok (.ifCond .ne 7, 3) := by decide +kernel
theorem dX9_lookOf_16 : decode cX9_lookOf 16 = .ok (.iconst 1, 1) := by decide +kernel
theorem dX9_lookOf_17 : decode cX9_lookOf 17 = .ok (.goto 4, 3) := by decide +kernel
theorem dX9_lookOf_20 : decode cX9_lookOf 20 = .ok (.iconst 0, 1) := by decide +kernel
theorem dX9_lookOf_21 : decode cX9_lookOf 21 = .ok (.istore 4, 2) := by decide +kernel
theorem dX9_lookOf_23 : decode cX9_lookOf 23 = .ok (.iconst 3, 1) := by decide +kernel
theorem dX9_lookOf_24 : decode cX9_lookOf 24 = .ok (.iload_n 3, 1) := by decide +kernel
theorem dX9_lookOf_25 : decode cX9_lookOf 25 = .ok (.isub, 1) := by decide +kernel
theorem dX9_lookOf_26 : decode cX9_lookOf 26 = .ok (.iload 4, 2) := by decide +kernel
theorem dX9_lookOf_28 : decode cX9_lookOf 28 = .ok (.isub, 1) := by decide +kernel
theorem dX9_lookOf_29 : decode cX9_lookOf 29 = .ok (.istore 5, 2) := by decide +kernel
theorem dX9_lookOf_31 : decode cX9_lookOf 31 = .ok (.iload_n 2, 1) := by decide +kernel
theorem dX9_lookOf_32 : decode cX9_lookOf 32 = .ok (.iconst 2, 1) := by decide +kernel
theorem dX9_lookOf_33 : decode cX9_lookOf 33 = .ok (.irem, 1) := by decide +kernel
theorem dX9_lookOf_34 : decode cX9_lookOf 34 = .ok (.ifCond .ne 8, 3) := by decide +kernel
theorem dX9_lookOf_37 : decode cX9_lookOf 37 = .ok (.iload 4, 2) := by decide +kernel
theorem dX9_lookOf_39 : decode cX9_lookOf 39 = .ok (.goto 5, 3) := by decide +kernel
theorem dX9_lookOf_42 : decode cX9_lookOf 42 = .ok (.iload 5, 2) := by decide +kernel
theorem dX9_lookOf_44 : decode cX9_lookOf 44 = .ok (.istore 6, 2) := by decide +kernel
theorem dX9_lookOf_46 : decode cX9_lookOf 46 = .ok (.iload_n 1, 1) := by decide +kernel
theorem dX9_lookOf_47 : decode cX9_lookOf 47 = .ok (.iconst 3, 1) := by decide +kernel
theorem dX9_lookOf_48 : decode cX9_lookOf 48 = .ok (.if_icmp .ne 7, 3) := by decide +kernel
theorem dX9_lookOf_51 : decode cX9_lookOf 51 = .ok (.iload_n 3, 1) := by decide +kernel
theorem dX9_lookOf_52 : decode cX9_lookOf 52 = .ok (.goto 19, 3) := by decide +kernel
theorem dX9_lookOf_55 : decode cX9_lookOf 55 = .ok (.iload_n 1, 1) := by decide +kernel
theorem dX9_lookOf_56 : decode cX9_lookOf 56 = .ok (.iconst 4, 1) := by decide +kernel
theorem dX9_lookOf_57 : decode cX9_lookOf 57 = .ok (.if_icmp .ne 8, 3) := by decide +kernel
theorem dX9_lookOf_60 : decode cX9_lookOf 60 = .ok (.iload 6, 2) := by decide +kernel
theorem dX9_lookOf_62 : decode cX9_lookOf 62 = .ok (.goto 9, 3) := by decide +kernel
theorem dX9_lookOf_65 : decode cX9_lookOf 65 = .ok (.iconst 3, 1) := by decide +kernel
theorem dX9_lookOf_66 : decode cX9_lookOf 66 = .ok (.iload_n 3, 1) := by decide +kernel
theorem dX9_lookOf_67 : decode cX9_lookOf 67 = .ok (.isub, 1) := by decide +kernel
theorem dX9_lookOf_68 : decode cX9_lookOf 68 = .ok (.iload 6, 2) := by decide +kernel
theorem dX9_lookOf_70 : decode cX9_lookOf 70 = .ok (.isub, 1) := by decide +kernel
theorem dX9_lookOf_71 : decode cX9_lookOf 71 = .ok (.ireturn, 1) := by decide +kernel
theorem dX9_nameOf_0 : decode cX9_nameOf 0 = .ok (.aload_n 0, 1) := by decide +kernel
theorem dX9_nameOf_1 : decode cX9_nameOf 1 = .ok (.aload_n 0, 1) := by decide +kernel
theorem dX9_nameOf_2 : decode cX9_nameOf 2 = .ok (.iload_n 1, 1) := by decide +kernel
theorem dX9_nameOf_3 : decode cX9_nameOf 3 = .ok (.invokevirtual 165, 3) := by decide +kernel
theorem dX9_nameOf_6 : decode cX9_nameOf 6 = .ok (.ifCond .ne 7, 3) := by decide +kernel
theorem dX9_nameOf_9 : decode cX9_nameOf 9 = .ok (.iconst 1, 1) := by decide +kernel
theorem dX9_nameOf_10 : decode cX9_nameOf 10 = .ok (.goto 15, 3) := by decide +kernel
theorem dX9_nameOf_13 : decode cX9_nameOf 13 = .ok (.aload_n 0, 1) := by decide +kernel
theorem dX9_nameOf_14 : decode cX9_nameOf 14 = .ok (.invokevirtual 145, 3) := by decide +kernel
theorem dX9_nameOf_17 : decode cX9_nameOf 17 = .ok (.ifCond .ne 7, 3) := by decide +kernel
theorem dX9_nameOf_20 : decode cX9_nameOf 20 = .ok (.iconst 2, 1) := by decide +kernel
theorem dX9_nameOf_21 : decode cX9_nameOf 21 = .ok (.goto 4, 3) := by decide +kernel
theorem dX9_nameOf_24 : decode cX9_nameOf 24 = .ok (.iconst 0, 1) := by decide +kernel
theorem dX9_nameOf_25 : decode cX9_nameOf 25 = .ok (.invokevirtual 149, 3) := by decide +kernel
theorem dX9_nameOf_28 : decode cX9_nameOf 28 = .ok (.ifCond .ne 5, 3) := by decide +kernel
theorem dX9_nameOf_31 : decode cX9_nameOf 31 = .ok (.iconst 0, 1) := by decide +kernel
theorem dX9_nameOf_32 : decode cX9_nameOf 32 = .ok (.ireturn, 1) := by decide +kernel
theorem dX9_nameOf_33 : decode cX9_nameOf 33 = .ok (.aload_n 0, 1) := by decide +kernel
theorem dX9_nameOf_34 : decode cX9_nameOf 34 = .ok (.getfield 50, 3) := by decide +kernel
theorem dX9_nameOf_37 : decode cX9_nameOf 37 = .ok (.iload_n 1, 1) := by decide +kernel
theorem dX9_nameOf_38 : decode cX9_nameOf 38 = .ok (.iaload, 1) := by decide +kernel
theorem dX9_nameOf_39 : decode cX9_nameOf 39 = .ok (.istore_n 2, 1) := by decide +kernel
theorem dX9_nameOf_40 : decode cX9_nameOf 40 = .ok (.iload_n 2, 1) := by decide +kernel
theorem dX9_nameOf_41 : decode cX9_nameOf 41 = .ok (.invokestatic 156, 3) := by decide +kernel
theorem dX9_nameOf_44 : decode cX9_nameOf 44 = .ok (.ifCond .eq 23, 3) := by decide +kernel
theorem dX9_nameOf_47 : decode cX9_nameOf 47 = .ok (.aload_n 0, 1) := by decide +kernel
theorem dX9_nameOf_48 : decode cX9_nameOf 48 = .ok (.getfield 86, 3) := by decide +kernel
theorem dX9_nameOf_51 : decode cX9_nameOf 51 = .ok (.iload_n 2, 1) := by decide +kernel
theorem dX9_nameOf_52 : decode cX9_nameOf 52 = .ok (.baload, 1) := by decide +kernel
theorem dX9_nameOf_53 : decode cX9_nameOf 53 = .ok (.ifCond .ne 14, 3) := by decide +kernel
theorem dX9_nameOf_56 : decode cX9_nameOf 56 = .ok (.bipush 100, 2) := by decide +kernel
theorem dX9_nameOf_58 : decode cX9_nameOf 58 = .ok (.aload_n 0, 1) := by decide +kernel
theorem dX9_nameOf_59 : decode cX9_nameOf 59 = .ok (.iload_n 2, 1) := by decide +kernel
theorem dX9_nameOf_60 : decode cX9_nameOf 60 = .ok (.invokevirtual 297, 3) := by decide +kernel
theorem dX9_nameOf_63 : decode cX9_nameOf 63 = .ok (.iadd, 1) := by decide +kernel
theorem dX9_nameOf_64 : decode cX9_nameOf 64 = .ok (.goto 4, 3) := by decide +kernel
theorem dX9_nameOf_67 : decode cX9_nameOf 67 = .ok (.iload_n 2, 1) := by decide +kernel
theorem dX9_nameOf_68 : decode cX9_nameOf 68 = .ok (.ireturn, 1) := by decide +kernel
theorem dX9_hasFound_0 : decode cX9_hasFound 0 = .ok (.iconst 0, 1) := by decide +kernel
theorem dX9_hasFound_1 : decode cX9_hasFound 1 = .ok (.istore_n 2, 1) := by decide +kernel
theorem dX9_hasFound_2 : decode cX9_hasFound 2 = .ok (.iconst 0, 1) := by decide +kernel
theorem dX9_hasFound_3 : decode cX9_hasFound 3 = .ok (.istore_n 3, 1) := by decide +kernel
theorem dX9_hasFound_4 : decode cX9_hasFound 4 = .ok (.iload_n 3, 1) := by decide +kernel
theorem dX9_hasFound_5 : decode cX9_hasFound 5 = .ok (.aload_n 0, 1) := by decide +kernel
theorem dX9_hasFound_6 : decode cX9_hasFound 6 = .ok (.getfield 162, 3) := by decide +kernel
theorem dX9_hasFound_9 : decode cX9_hasFound 9 = .ok (.if_icmp .ge 57, 3) := by decide +kernel
theorem dX9_hasFound_12 : decode cX9_hasFound 12 = .ok (.aload_n 0, 1) := by decide +kernel
theorem dX9_hasFound_13 : decode cX9_hasFound 13 = .ok (.iload_n 3, 1) := by decide +kernel
theorem dX9_hasFound_14 : decode cX9_hasFound 14 = .ok (.invokevirtual 206, 3) := by decide +kernel
theorem dX9_hasFound_17 : decode cX9_hasFound 17 = .ok (.istore 4, 2) := by decide +kernel
theorem dX9_hasFound_19 : decode cX9_hasFound 19 = .ok (.iload_n 2, 1) := by decide +kernel
theorem dX9_hasFound_20 : decode cX9_hasFound 20 = .ok (.ifCond .ne 34, 3) := by decide +kernel
theorem dX9_hasFound_23 : decode cX9_hasFound 23 = .ok (.aload_n 0, 1) := by decide +kernel
theorem dX9_hasFound_24 : decode cX9_hasFound 24 = .ok (.getfield 50, 3) := by decide +kernel
theorem dX9_hasFound_27 : decode cX9_hasFound 27 = .ok (.iload_n 3, 1) := by decide +kernel
theorem dX9_hasFound_28 : decode cX9_hasFound 28 = .ok (.iaload, 1) := by decide +kernel
theorem dX9_hasFound_29 : decode cX9_hasFound 29 = .ok (.iload_n 1, 1) := by decide +kernel
theorem dX9_hasFound_30 : decode cX9_hasFound 30 = .ok (.if_icmp .ne 28, 3) := by decide +kernel
theorem dX9_hasFound_33 : decode cX9_hasFound 33 = .ok (.iload 4, 2) := by decide +kernel
theorem dX9_hasFound_35 : decode cX9_hasFound 35 = .ok (.iconst (-1), 1) := by decide +kernel
theorem dX9_hasFound_36 : decode cX9_hasFound 36 = .ok (.if_icmp .eq 18, 3) := by decide +kernel
theorem dX9_hasFound_39 : decode cX9_hasFound 39 = .ok (.iload 4, 2) := by decide +kernel
theorem dX9_hasFound_41 : decode cX9_hasFound 41 = .ok (.ifCond .lt 17, 3) := by decide +kernel
theorem dX9_hasFound_44 : decode cX9_hasFound 44 = .ok (.aload_n 0, 1) := by decide +kernel
theorem dX9_hasFound_45 : decode cX9_hasFound 45 = .ok (.getfield 101, 3) := by decide +kernel
theorem dX9_hasFound_48 : decode cX9_hasFound 48 = .ok (.iload 4, 2) := by decide +kernel
theorem dX9_hasFound_50 : decode cX9_hasFound 50 = .ok (.baload, 1) := by decide +kernel
theorem dX9_hasFound_51 : decode cX9_hasFound 51 = .ok (.ifCond .eq 7, 3) := by decide +kernel
theorem dX9_hasFound_54 : decode cX9_hasFound 54 = .ok (.iconst 1, 1) := by decide +kernel
theorem dX9_hasFound_55 : decode cX9_hasFound 55 = .ok (.goto 4, 3) := by decide +kernel
theorem dX9_hasFound_58 : decode cX9_hasFound 58 = .ok (.iconst 0, 1) := by decide +kernel
theorem dX9_hasFound_59 : decode cX9_hasFound 59 = .ok (.istore_n 2, 1) := by decide +kernel
theorem dX9_hasFound_60 : decode cX9_hasFound 60 = .ok (.iinc 3 1, 3) := by decide +kernel
theorem dX9_hasFound_63 : decode cX9_hasFound 63 = .ok (.goto (-59), 3) := by decide +kernel
theorem dX9_hasFound_66 : decode cX9_hasFound 66 = .ok (.iload_n 2, 1) := by decide +kernel
theorem dX9_hasFound_67 : decode cX9_hasFound 67 = .ok (.ireturn, 1) := by decide +kernel
theorem dX9_spreads_0 : decode cX9_spreads 0 = .ok (.iconst 0, 1) := by decide +kernel
theorem dX9_spreads_1 : decode cX9_spreads 1 = .ok (.istore_n 1, 1) := by decide +kernel
theorem dX9_spreads_2 : decode cX9_spreads 2 = .ok (.iconst 0, 1) := by decide +kernel
theorem dX9_spreads_3 : decode cX9_spreads 3 = .ok (.istore_n 2, 1) := by decide +kernel
theorem dX9_spreads_4 : decode cX9_spreads 4 = .ok (.iload_n 2, 1) := by decide +kernel
theorem dX9_spreads_5 : decode cX9_spreads 5 = .ok (.sipush 144, 3) := by decide +kernel
theorem dX9_spreads_8 : decode cX9_spreads 8 = .ok (.if_icmp .ge 165, 3) := by decide +kernel
theorem dX9_spreads_11 : decode cX9_spreads 11 = .ok (.aload_n 0, 1) := by decide +kernel
theorem dX9_spreads_12 : decode cX9_spreads 12 = .ok (.iload_n 2, 1) := by decide +kernel
theorem dX9_spreads_13 : decode cX9_spreads 13 = .ok (.invokevirtual 174, 3) := by decide +kernel
theorem dX9_spreads_16 : decode cX9_spreads 16 = .ok (.ifCond .ne 46, 3) := by decide +kernel
theorem dX9_spreads_19 : decode cX9_spreads 19 = .ok (.aload_n 0, 1) := by decide +kernel
theorem dX9_spreads_20 : decode cX9_spreads 20 = .ok (.getfield 62, 3) := by decide +kernel
theorem dX9_spreads_23 : decode cX9_spreads 23 = .ok (.iload_n 2, 1) := by decide +kernel
theorem dX9_spreads_24 : decode cX9_spreads 24 = .ok (.caload, 1) := by decide +kernel
theorem dX9_spreads_25 : decode cX9_spreads 25 = .ok (.bipush 43, 2) := by decide +kernel
theorem dX9_spreads_27 : decode cX9_spreads 27 = .ok (.if_icmp .eq 35, 3) := by decide +kernel
theorem dX9_spreads_30 : decode cX9_spreads 30 = .ok (.aload_n 0, 1) := by decide +kernel
theorem dX9_spreads_31 : decode cX9_spreads 31 = .ok (.getfield 62, 3) := by decide +kernel
theorem dX9_spreads_34 : decode cX9_spreads 34 = .ok (.iload_n 2, 1) := by decide +kernel
theorem dX9_spreads_35 : decode cX9_spreads 35 = .ok (.caload, 1) := by decide +kernel
theorem dX9_spreads_36 : decode cX9_spreads 36 = .ok (.bipush 48, 2) := by decide +kernel
theorem dX9_spreads_38 : decode cX9_spreads 38 = .ok (.bipush 50, 2) := by decide +kernel
theorem dX9_spreads_40 : decode cX9_spreads 40 = .ok (.invokestatic 110, 3) := by decide +kernel
theorem dX9_spreads_43 : decode cX9_spreads 43 = .ok (.ifCond .eq 23, 3) := by decide +kernel
theorem dX9_spreads_46 : decode cX9_spreads 46 = .ok (.aload_n 0, 1) := by decide +kernel
theorem dX9_spreads_47 : decode cX9_spreads 47 = .ok (.aload_n 0, 1) := by decide +kernel
theorem dX9_spreads_48 : decode cX9_spreads 48 = .ok (.getfield 62, 3) := by decide +kernel
theorem dX9_spreads_51 : decode cX9_spreads 51 = .ok (.iload_n 2, 1) := by decide +kernel
theorem dX9_spreads_52 : decode cX9_spreads 52 = .ok (.caload, 1) := by decide +kernel
theorem dX9_spreads_53 : decode cX9_spreads 53 = .ok (.bipush 48, 2) := by decide +kernel
theorem dX9_spreads_55 : decode cX9_spreads 55 = .ok (.isub, 1) := by decide +kernel
theorem dX9_spreads_56 : decode cX9_spreads 56 = .ok (.invokevirtual 300, 3) := by decide +kernel
theorem dX9_spreads_59 : decode cX9_spreads 59 = .ok (.ifCond .eq 7, 3) := by decide +kernel
theorem dX9_spreads_62 : decode cX9_spreads 62 = .ok (.iconst 1, 1) := by decide +kernel
theorem dX9_spreads_63 : decode cX9_spreads 63 = .ok (.goto 4, 3) := by decide +kernel
theorem dX9_spreads_66 : decode cX9_spreads 66 = .ok (.iconst 0, 1) := by decide +kernel
theorem dX9_spreads_67 : decode cX9_spreads 67 = .ok (.istore_n 3, 1) := by decide +kernel
theorem dX9_spreads_68 : decode cX9_spreads 68 = .ok (.iconst 0, 1) := by decide +kernel
theorem dX9_spreads_69 : decode cX9_spreads 69 = .ok (.istore 4, 2) := by decide +kernel
theorem dX9_spreads_71 : decode cX9_spreads 71 = .ok (.iload 4, 2) := by decide +kernel
theorem dX9_spreads_73 : decode cX9_spreads 73 = .ok (.iconst 4, 1) := by decide +kernel
theorem dX9_spreads_74 : decode cX9_spreads 74 = .ok (.if_icmp .ge 93, 3) := by decide +kernel
theorem dX9_spreads_77 : decode cX9_spreads 77 = .ok (.iload_n 3, 1) := by decide +kernel
theorem dX9_spreads_78 : decode cX9_spreads 78 = .ok (.ifCond .eq 89, 3) := by decide +kernel
theorem dX9_spreads_81 : decode cX9_spreads 81 = .ok (.aload_n 0, 1) := by decide +kernel
theorem dX9_spreads_82 : decode cX9_spreads 82 = .ok (.getfield 101, 3) := by decide +kernel
theorem dX9_spreads_85 : decode cX9_spreads 85 = .ok (.iload_n 2, 1) := by decide +kernel
theorem dX9_spreads_86 : decode cX9_spreads 86 = .ok (.baload, 1) := by decide +kernel
theorem dX9_spreads_87 : decode cX9_spreads 87 = .ok (.ifCond .ne 80, 3) := by decide +kernel
theorem dX9_spreads_90 : decode cX9_spreads 90 = .ok (.iload_n 2, 1) := by decide +kernel
theorem dX9_spreads_91 : decode cX9_spreads 91 = .ok (.iload 4, 2) := by decide +kernel
theorem dX9_spreads_93 : decode cX9_spreads 93 = .ok (.invokestatic 193, 3) := by decide +kernel
theorem dX9_spreads_96 : decode cX9_spreads 96 = .ok (.istore 5, 2) := by decide +kernel
theorem dX9_spreads_98 : decode cX9_spreads 98 = .ok (.iload 5, 2) := by decide +kernel
theorem dX9_spreads_100 : decode cX9_spreads 100 = .ok (.iconst (-1), 1) := by decide +kernel
theorem dX9_spreads_101 : decode cX9_spreads 101 = .ok (.if_icmp .eq 17, 3) := by decide +kernel
theorem dX9_spreads_104 : decode cX9_spreads 104 = .ok (.aload_n 0, 1) := by decide +kernel
theorem dX9_spreads_105 : decode cX9_spreads 105 = .ok (.getfield 101, 3) := by decide +kernel
theorem dX9_spreads_108 : decode cX9_spreads 108 = .ok (.iload 5, 2) := by decide +kernel
theorem dX9_spreads_110 : decode cX9_spreads 110 = .ok (.baload, 1) := by decide +kernel
theorem dX9_spreads_111 : decode cX9_spreads 111 = .ok (.ifCond .eq 7, 3) := by decide +kernel
theorem dX9_spreads_114 : decode cX9_spreads 114 = .ok (.iconst 1, 1) := by decide +kernel
theorem dX9_spreads_115 : decode cX9_spreads 115 = .ok (.goto 4, 3) := by decide +kernel
theorem dX9_spreads_118 : decode cX9_spreads 118 = .ok (.iconst 0, 1) := by decide +kernel
theorem dX9_spreads_119 : decode cX9_spreads 119 = .ok (.istore 6, 2) := by decide +kernel
theorem dX9_spreads_121 : decode cX9_spreads 121 = .ok (.aload_n 0, 1) := by decide +kernel
theorem dX9_spreads_122 : decode cX9_spreads 122 = .ok (.getfield 101, 3) := by decide +kernel
theorem dX9_spreads_125 : decode cX9_spreads 125 = .ok (.iload_n 2, 1) := by decide +kernel
theorem dX9_spreads_126 : decode cX9_spreads 126 = .ok (.aload_n 0, 1) := by decide +kernel
theorem dX9_spreads_127 : decode cX9_spreads 127 = .ok (.getfield 101, 3) := by decide +kernel
theorem dX9_spreads_130 : decode cX9_spreads 130 = .ok (.iload_n 2, 1) := by decide +kernel
theorem dX9_spreads_131 : decode cX9_spreads 131 = .ok (.baload, 1) := by decide +kernel
theorem dX9_spreads_132 : decode cX9_spreads 132 = .ok (.ifCond .ne 8, 3) := by decide +kernel
theorem dX9_spreads_135 : decode cX9_spreads 135 = .ok (.iload 6, 2) := by decide +kernel
theorem dX9_spreads_137 : decode cX9_spreads 137 = .ok (.ifCond .eq 7, 3) := by decide +kernel
theorem dX9_spreads_140 : decode cX9_spreads 140 = .ok (.iconst 1, 1) := by decide +kernel
theorem dX9_spreads_141 : decode cX9_spreads 141 = .ok (.goto 4, 3) := by decide +kernel
theorem dX9_spreads_144 : decode cX9_spreads 144 = .ok (.iconst 0, 1) := by decide +kernel
theorem dX9_spreads_145 : decode cX9_spreads 145 = .ok (.bastore, 1) := by decide +kernel
theorem dX9_spreads_146 : decode cX9_spreads 146 = .ok (.iload_n 1, 1) := by decide +kernel
theorem dX9_spreads_147 : decode cX9_spreads 147 = .ok (.ifCond .ne 8, 3) := by decide +kernel
theorem dX9_spreads_150 : decode cX9_spreads 150 = .ok (.iload 6, 2) := by decide +kernel
theorem dX9_spreads_152 : decode cX9_spreads 152 = .ok (.ifCond .eq 7, 3) := by decide +kernel
theorem dX9_spreads_155 : decode cX9_spreads 155 = .ok (.iconst 1, 1) := by decide +kernel
theorem dX9_spreads_156 : decode cX9_spreads 156 = .ok (.goto 4, 3) := by decide +kernel
theorem dX9_spreads_159 : decode cX9_spreads 159 = .ok (.iconst 0, 1) := by decide +kernel
theorem dX9_spreads_160 : decode cX9_spreads 160 = .ok (.istore_n 1, 1) := by decide +kernel
theorem dX9_spreads_161 : decode cX9_spreads 161 = .ok (.iinc 4 1, 3) := by decide +kernel
theorem dX9_spreads_164 : decode cX9_spreads 164 = .ok (.goto (-93), 3) := by decide +kernel
theorem dX9_spreads_167 : decode cX9_spreads 167 = .ok (.iinc 2 1, 3) := by decide +kernel
theorem dX9_spreads_170 : decode cX9_spreads 170 = .ok (.goto (-166), 3) := by decide +kernel
theorem dX9_spreads_173 : decode cX9_spreads 173 = .ok (.iload_n 1, 1) := by decide +kernel
theorem dX9_spreads_174 : decode cX9_spreads 174 = .ok (.ireturn, 1) := by decide +kernel
theorem dX9_isReachable_0 : decode cX9_isReachable 0 = .ok (.aload_n 0, 1) := by decide +kernel
theorem dX9_isReachable_1 : decode cX9_isReachable 1 = .ok (.iload_n 1, 1) := by decide +kernel
theorem dX9_isReachable_2 : decode cX9_isReachable 2 = .ok (.iload_n 2, 1) := by decide +kernel
theorem dX9_isReachable_3 : decode cX9_isReachable 3 = .ok (.invokestatic 121, 3) := by decide +kernel
theorem dX9_isReachable_6 : decode cX9_isReachable 6 = .ok (.ifCond .ne 7, 3) := by decide +kernel
theorem dX9_isReachable_9 : decode cX9_isReachable 9 = .ok (.iconst 1, 1) := by decide +kernel
theorem dX9_isReachable_10 : decode cX9_isReachable 10 = .ok (.goto 15, 3) := by decide +kernel
theorem dX9_isReachable_13 : decode cX9_isReachable 13 = .ok (.aload_n 0, 1) := by decide +kernel
theorem dX9_isReachable_14 : decode cX9_isReachable 14 = .ok (.invokevirtual 145, 3) := by decide +kernel
theorem dX9_isReachable_17 : decode cX9_isReachable 17 = .ok (.ifCond .ne 7, 3) := by decide +kernel
theorem dX9_isReachable_20 : decode cX9_isReachable 20 = .ok (.iconst 2, 1) := by decide +kernel
theorem dX9_isReachable_21 : decode cX9_isReachable 21 = .ok (.goto 4, 3) := by decide +kernel
theorem dX9_isReachable_24 : decode cX9_isReachable 24 = .ok (.iconst 0, 1) := by decide +kernel
theorem dX9_isReachable_25 : decode cX9_isReachable 25 = .ok (.invokevirtual 149, 3) := by decide +kernel
theorem dX9_isReachable_28 : decode cX9_isReachable 28 = .ok (.ifCond .ne 5, 3) := by decide +kernel
theorem dX9_isReachable_31 : decode cX9_isReachable 31 = .ok (.iconst 0, 1) := by decide +kernel
theorem dX9_isReachable_32 : decode cX9_isReachable 32 = .ok (.ireturn, 1) := by decide +kernel
theorem dX9_isReachable_33 : decode cX9_isReachable 33 = .ok (.iconst 0, 1) := by decide +kernel
theorem dX9_isReachable_34 : decode cX9_isReachable 34 = .ok (.istore_n 3, 1) := by decide +kernel
theorem dX9_isReachable_35 : decode cX9_isReachable 35 = .ok (.iload_n 3, 1) := by decide +kernel
theorem dX9_isReachable_36 : decode cX9_isReachable 36 = .ok (.sipush 144, 3) := by decide +kernel
theorem dX9_isReachable_39 : decode cX9_isReachable 39 = .ok (.if_icmp .ge 30, 3) := by decide +kernel
theorem dX9_isReachable_42 : decode cX9_isReachable 42 = .ok (.aload_n 0, 1) := by decide +kernel
theorem dX9_isReachable_43 : decode cX9_isReachable 43 = .ok (.getfield 101, 3) := by decide +kernel
theorem dX9_isReachable_46 : decode cX9_isReachable 46 = .ok (.iload_n 3, 1) := by decide +kernel
theorem dX9_isReachable_47 : decode cX9_isReachable 47 = .ok (.iload_n 3, 1) := by decide +kernel
theorem dX9_isReachable_48 : decode cX9_isReachable 48 = .ok (.aload_n 0, 1) := by decide +kernel
theorem dX9_isReachable_49 : decode cX9_isReachable 49 = .ok (.getfield 65, 3) := by decide +kernel
theorem dX9_isReachable_52 : decode cX9_isReachable 52 = .ok (.iconst 0, 1) := by decide +kernel
theorem dX9_isReachable_53 : decode cX9_isReachable 53 = .ok (.iaload, 1) := by decide +kernel
theorem dX9_isReachable_54 : decode cX9_isReachable 54 = .ok (.if_icmp .ne 7, 3) := by decide +kernel
theorem dX9_isReachable_57 : decode cX9_isReachable 57 = .ok (.iconst 1, 1) := by decide +kernel
theorem dX9_isReachable_58 : decode cX9_isReachable 58 = .ok (.goto 4, 3) := by decide +kernel
theorem dX9_isReachable_61 : decode cX9_isReachable 61 = .ok (.iconst 0, 1) := by decide +kernel
theorem dX9_isReachable_62 : decode cX9_isReachable 62 = .ok (.bastore, 1) := by decide +kernel
theorem dX9_isReachable_63 : decode cX9_isReachable 63 = .ok (.iinc 3 1, 3) := by decide +kernel
theorem dX9_isReachable_66 : decode cX9_isReachable 66 = .ok (.goto (-31), 3) := by decide +kernel
theorem dX9_isReachable_69 : decode cX9_isReachable 69 = .ok (.iconst 1, 1) := by decide +kernel
theorem dX9_isReachable_70 : decode cX9_isReachable 70 = .ok (.istore_n 3, 1) := by decide +kernel
theorem dX9_isReachable_71 : decode cX9_isReachable 71 = .ok (.iload_n 3, 1) := by decide +kernel
theorem dX9_isReachable_72 : decode cX9_isReachable 72 = .ok (.ifCond .eq 11, 3) := by decide +kernel
theorem dX9_isReachable_75 : decode cX9_isReachable 75 = .ok (.aload_n 0, 1) := by decide +kernel
theorem dX9_isReachable_76 : decode cX9_isReachable 76 = .ok (.invokevirtual 303, 3) := by decide +kernel
theorem dX9_isReachable_79 : decode cX9_isReachable 79 = .ok (.istore_n 3, 1) := by decide +kernel
theorem dX9_isReachable_80 : decode cX9_isReachable 80 = .ok (.goto (-9), 3) := by decide +kernel
theorem dX9_isReachable_83 : decode cX9_isReachable 83 = .ok (.aload_n 0, 1) := by decide +kernel
theorem dX9_isReachable_84 : decode cX9_isReachable 84 = .ok (.getfield 101, 3) := by decide +kernel
theorem dX9_isReachable_87 : decode cX9_isReachable 87 = .ok (.iload_n 1, 1) := by decide +kernel
theorem dX9_isReachable_88 : decode cX9_isReachable 88 = .ok (.iload_n 2, 1) := by decide +kernel
theorem dX9_isReachable_89 : decode cX9_isReachable 89 = .ok (.invokestatic 125, 3) := by decide +kernel
theorem dX9_isReachable_92 : decode cX9_isReachable 92 = .ok (.baload, 1) := by decide +kernel
theorem dX9_isReachable_93 : decode cX9_isReachable 93 = .ok (.ireturn, 1) := by decide +kernel
theorem dX9_isSame_0 : decode cX9_isSame 0 = .ok (.aload_n 0, 1) := by decide +kernel
