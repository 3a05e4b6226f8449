theorem dX7_comeNearer_70 : decode cX7_comeNearer 70 = .ok (.invokestatic 82, 3) := by decide +kernel
theorem dX7_comeNearer_73 : decode cX7_comeNearer 73 = .ok (.istore 7, 2) := by decide +kernel
theorem dX7_comeNearer_75 : decode cX7_comeNearer 75 = .ok (.iload 6, 2) := by decide +kernel
theorem dX7_comeNearer_77 : decode cX7_comeNearer 77 = .ok (.ifCond .eq 27, 3) := by decide +kernel
theorem dX7_comeNearer_80 : decode cX7_comeNearer 80 = .ok (.iload 7, 2) := by decide +kernel
theorem dX7_comeNearer_82 : decode cX7_comeNearer 82 = .ok (.ifCond .lt 22, 3) := by decide +kernel
theorem dX7_comeNearer_85 : decode cX7_comeNearer 85 = .ok (.iload 7, 2) := by decide +kernel
theorem dX7_comeNearer_87 : decode cX7_comeNearer 87 = .ok (.aload_n 0, 1) := by decide +kernel
theorem dX7_comeNearer_88 : decode cX7_comeNearer 88 = .ok (.getfield 12, 3) := by decide +kernel
theorem dX7_comeNearer_91 : decode cX7_comeNearer 91 = .ok (.getfield 290, 3) := by decide +kernel
theorem dX7_comeNearer_94 : decode cX7_comeNearer 94 = .ok (.iload_n 3, 1) := by decide +kernel
theorem dX7_comeNearer_95 : decode cX7_comeNearer 95 = .ok (.invokestatic 82, 3) := by decide +kernel
theorem dX7_comeNearer_98 : decode cX7_comeNearer 98 = .ok (.if_icmp .ge 6, 3) := by decide +kernel
theorem dX7_comeNearer_101 : decode cX7_comeNearer 101 = .ok (.iload 5, 2) := by decide +kernel
theorem dX7_comeNearer_103 : decode cX7_comeNearer 103 = .ok (.istore_n 3, 1) := by decide +kernel
theorem dX7_comeNearer_104 : decode cX7_comeNearer 104 = .ok (.iinc 4 1, 3) := by decide +kernel
theorem dX7_comeNearer_107 : decode cX7_comeNearer 107 = .ok (.goto (-90), 3) := by decide +kernel
theorem dX7_comeNearer_110 : decode cX7_comeNearer 110 = .ok (.aload_n 0, 1) := by decide +kernel
theorem dX7_comeNearer_111 : decode cX7_comeNearer 111 = .ok (.getfield 12, 3) := by decide +kernel
theorem dX7_comeNearer_114 : decode cX7_comeNearer 114 = .ok (.iload_n 3, 1) := by decide +kernel
theorem dX7_comeNearer_115 : decode cX7_comeNearer 115 = .ok (.invokevirtual 176, 3) := by decide +kernel
theorem dX7_comeNearer_118 : decode cX7_comeNearer 118 = .ok (.bipush 43, 2) := by decide +kernel
theorem dX7_comeNearer_120 : decode cX7_comeNearer 120 = .ok (.if_icmp .ne 16, 3) := by decide +kernel
theorem dX7_comeNearer_123 : decode cX7_comeNearer 123 = .ok (.aload_n 0, 1) := by decide +kernel
theorem dX7_comeNearer_124 : decode cX7_comeNearer 124 = .ok (.getfield 12, 3) := by decide +kernel
theorem dX7_comeNearer_127 : decode cX7_comeNearer 127 = .ok (.iload_n 3, 1) := by decide +kernel
theorem dX7_comeNearer_128 : decode cX7_comeNearer 128 = .ok (.bipush 47, 2) := by decide +kernel
theorem dX7_comeNearer_130 : decode cX7_comeNearer 130 = .ok (.invokevirtual 190, 3) := by decide +kernel
theorem dX7_comeNearer_133 : decode cX7_comeNearer 133 = .ok (.goto 15, 3) := by decide +kernel
theorem dX7_comeNearer_136 : decode cX7_comeNearer 136 = .ok (.aload_n 0, 1) := by decide +kernel
theorem dX7_comeNearer_137 : decode cX7_comeNearer 137 = .ok (.getfield 28, 3) := by decide +kernel
theorem dX7_comeNearer_140 : decode cX7_comeNearer 140 = .ok (.getfield 78, 3) := by decide +kernel
theorem dX7_comeNearer_143 : decode cX7_comeNearer 143 = .ok (.iload_n 1, 1) := by decide +kernel
theorem dX7_comeNearer_144 : decode cX7_comeNearer 144 = .ok (.iload_n 3, 1) := by decide +kernel
theorem dX7_comeNearer_145 : decode cX7_comeNearer 145 = .ok (.invokestatic 142, 3) := by decide +kernel
theorem dX7_comeNearer_148 : decode cX7_comeNearer 148 = .ok (.return_, 1) := by decide +kernel
theorem dX7_isOpenTo_0 : decode cX7_isOpenTo 0 = .ok (.aload_n 0, 1) := by decide +kernel
theorem dX7_isOpenTo_1 : decode cX7_isOpenTo 1 = .ok (.getfield 12, 3) := by decide +kernel
theorem dX7_isOpenTo_4 : decode cX7_isOpenTo 4 = .ok (.iload_n 1, 1) := by decide +kernel
theorem dX7_isOpenTo_5 : decode cX7_isOpenTo 5 = .ok (.invokevirtual 176, 3) := by decide +kernel
theorem dX7_isOpenTo_8 : decode cX7_isOpenTo 8 = .ok (.invokestatic 194, 3) := by decide +kernel
theorem dX7_isOpenTo_11 : decode cX7_isOpenTo 11 = .ok (.ifCond .eq 19, 3) := by decide +kernel
theorem dX7_isOpenTo_14 : decode cX7_isOpenTo 14 = .ok (.aload_n 0, 1) := by decide +kernel
theorem dX7_isOpenTo_15 : decode cX7_isOpenTo 15 = .ok (.getfield 28, 3) := by decide +kernel
theorem dX7_isOpenTo_18 : decode cX7_isOpenTo 18 = .ok (.iload_n 1, 1) := by decide +kernel
theorem dX7_isOpenTo_19 : decode cX7_isOpenTo 19 = .ok (.invokevirtual 173, 3) := by decide +kernel
theorem dX7_isOpenTo_22 : decode cX7_isOpenTo 22 = .ok (.iconst (-1), 1) := by decide +kernel
theorem dX7_isOpenTo_23 : decode cX7_isOpenTo 23 = .ok (.if_icmp .ne 7, 3) := by decide +kernel
theorem dX7_isOpenTo_26 : decode cX7_isOpenTo 26 = .ok (.iconst 1, 1) := by decide +kernel
theorem dX7_isOpenTo_27 : decode cX7_isOpenTo 27 = .ok (.goto 4, 3) := by decide +kernel
theorem dX7_isOpenTo_30 : decode cX7_isOpenTo 30 = .ok (.iconst 0, 1) := by decide +kernel
theorem dX7_isOpenTo_31 : decode cX7_isOpenTo 31 = .ok (.ireturn, 1) := by decide +kernel
theorem dX7_makeNoise_0 : decode cX7_makeNoise 0 = .ok (.aload_n 0, 1) := by decide +kernel
theorem dX7_makeNoise_1 : decode cX7_makeNoise 1 = .ok (.getfield 12, 3) := by decide +kernel
theorem dX7_makeNoise_4 : decode cX7_makeNoise 4 = .ok (.aload_n 0, 1) := by decide +kernel
theorem dX7_makeNoise_5 : decode cX7_makeNoise 5 = .ok (.getfield 12, 3) := by decide +kernel
theorem dX7_makeNoise_8 : decode cX7_makeNoise 8 = .ok (.getfield 115, 3) := by decide +kernel
theorem dX7_makeNoise_11 : decode cX7_makeNoise 11 = .ok (.iload_n 1, 1) := by decide +kernel
theorem dX7_makeNoise_12 : decode cX7_makeNoise 12 = .ok (.iconst 3, 1) := by decide +kernel
theorem dX7_makeNoise_13 : decode cX7_makeNoise 13 = .ok (.bipush 7, 2) := by decide +kernel
theorem dX7_makeNoise_15 : decode cX7_makeNoise 15 = .ok (.iload_n 2, 1) := by decide +kernel
theorem dX7_makeNoise_16 : decode cX7_makeNoise 16 = .ok (.invokevirtual 119, 3) := by decide +kernel
theorem dX7_makeNoise_19 : decode cX7_makeNoise 19 = .ok (.iconst 0, 1) := by decide +kernel
theorem dX7_makeNoise_20 : decode cX7_makeNoise 20 = .ok (.istore_n 3, 1) := by decide +kernel
theorem dX7_makeNoise_21 : decode cX7_makeNoise 21 = .ok (.iconst 1, 1) := by decide +kernel
theorem dX7_makeNoise_22 : decode cX7_makeNoise 22 = .ok (.istore 4, 2) := by decide +kernel
theorem dX7_makeNoise_24 : decode cX7_makeNoise 24 = .ok (.iload 4, 2) := by decide +kernel
theorem dX7_makeNoise_26 : decode cX7_makeNoise 26 = .ok (.aload_n 0, 1) := by decide +kernel
theorem dX7_makeNoise_27 : decode cX7_makeNoise 27 = .ok (.getfield 28, 3) := by decide +kernel
theorem dX7_makeNoise_30 : decode cX7_makeNoise 30 = .ok (.getfield 86, 3) := by decide +kernel
theorem dX7_makeNoise_33 : decode cX7_makeNoise 33 = .ok (.if_icmp .ge 72, 3) := by decide +kernel
theorem dX7_makeNoise_36 : decode cX7_makeNoise 36 = .ok (.aload_n 0, 1) := by decide +kernel
theorem dX7_makeNoise_37 : decode cX7_makeNoise 37 = .ok (.getfield 12, 3) := by decide +kernel
theorem dX7_makeNoise_40 : decode cX7_makeNoise 40 = .ok (.getfield 115, 3) := by decide +kernel
theorem dX7_makeNoise_43 : decode cX7_makeNoise 43 = .ok (.aload_n 0, 1) := by decide +kernel
theorem dX7_makeNoise_44 : decode cX7_makeNoise 44 = .ok (.getfield 28, 3) := by decide +kernel
theorem dX7_makeNoise_47 : decode cX7_makeNoise 47 = .ok (.getfield 78, 3) := by decide +kernel
theorem dX7_makeNoise_50 : decode cX7_makeNoise 50 = .ok (.iload 4, 2) := by decide +kernel
theorem dX7_makeNoise_52 : decode cX7_makeNoise 52 = .ok (.invokestatic 82, 3) := by decide +kernel
theorem dX7_makeNoise_55 : decode cX7_makeNoise 55 = .ok (.invokestatic 82, 3) := by decide +kernel
theorem dX7_makeNoise_58 : decode cX7_makeNoise 58 = .ok (.istore 5, 2) := by decide +kernel
theorem dX7_makeNoise_60 : decode cX7_makeNoise 60 = .ok (.aload_n 0, 1) := by decide +kernel
theorem dX7_makeNoise_61 : decode cX7_makeNoise 61 = .ok (.getfield 28, 3) := by decide +kernel
theorem dX7_makeNoise_64 : decode cX7_makeNoise 64 = .ok (.iload 4, 2) := by decide +kernel
theorem dX7_makeNoise_66 : decode cX7_makeNoise 66 = .ok (.invokevirtual 204, 3) := by decide +kernel
theorem dX7_makeNoise_69 : decode cX7_makeNoise 69 = .ok (.ifCond .eq 30, 3) := by decide +kernel
theorem dX7_makeNoise_72 : decode cX7_makeNoise 72 = .ok (.iload 5, 2) := by decide +kernel
theorem dX7_makeNoise_74 : decode cX7_makeNoise 74 = .ok (.ifCond .lt 25, 3) := by decide +kernel
theorem dX7_makeNoise_77 : decode cX7_makeNoise 77 = .ok (.iload 5, 2) := by decide +kernel
theorem dX7_makeNoise_79 : decode cX7_makeNoise 79 = .ok (.iload_n 2, 1) := by decide +kernel
theorem dX7_makeNoise_80 : decode cX7_makeNoise 80 = .ok (.if_icmp .gt 19, 3) := by decide +kernel
theorem dX7_makeNoise_83 : decode cX7_makeNoise 83 = .ok (.aload_n 0, 1) := by decide +kernel
theorem dX7_makeNoise_84 : decode cX7_makeNoise 84 = .ok (.getfield 28, 3) := by decide +kernel
theorem dX7_makeNoise_87 : decode cX7_makeNoise 87 = .ok (.getfield 271, 3) := by decide +kernel
theorem dX7_makeNoise_90 : decode cX7_makeNoise 90 = .ok (.iload 4, 2) := by decide +kernel
theorem dX7_makeNoise_92 : decode cX7_makeNoise 92 = .ok (.iload_n 1, 1) := by decide +kernel
theorem dX7_makeNoise_93 : decode cX7_makeNoise 93 = .ok (.invokestatic 142, 3) := by decide +kernel
theorem dX7_makeNoise_96 : decode cX7_makeNoise 96 = .ok (.iinc 3 1, 3) := by decide +kernel
theorem dX7_makeNoise_99 : decode cX7_makeNoise 99 = .ok (.iinc 4 1, 3) := by decide +kernel
theorem dX7_makeNoise_102 : decode cX7_makeNoise 102 = .ok (.goto (-78), 3) := by decide +kernel
theorem dX7_makeNoise_105 : decode cX7_makeNoise 105 = .ok (.iload_n 3, 1) := by decide +kernel
theorem dX7_makeNoise_106 : decode cX7_makeNoise 106 = .ok (.ireturn, 1) := by decide +kernel
theorem dX8_init_0 : decode cX8_init 0 = .ok (.aload_n 0, 1) := by decide +kernel
theorem dX8_init_1 : decode cX8_init 1 = .ok (.invokespecial 3, 3) := by decide +kernel
theorem dX8_init_4 : decode cX8_init 4 = .ok (.aload_n 0, 1) := by decide +kernel
theorem dX8_init_5 : decode cX8_init 5 = .ok (.new 9, 3) := by decide +kernel
theorem dX8_init_8 : decode cX8_init 8 = .ok (.dup, 1) := by decide +kernel
theorem dX8_init_9 : decode cX8_init 9 = .ok (.invokespecial 11, 3) := by decide +kernel
theorem dX8_init_12 : decode cX8_init 12 = .ok (.putfield 12, 3) := by decide +kernel
theorem dX8_init_15 : decode cX8_init 15 = .ok (.aload_n 0, 1) := by decide +kernel
theorem dX8_init_16 : decode cX8_init 16 = .ok (.new 9, 3) := by decide +kernel
theorem dX8_init_19 : decode cX8_init 19 = .ok (.dup, 1) := by decide +kernel
theorem dX8_init_20 : decode cX8_init 20 = .ok (.invokespecial 11, 3) := by decide +kernel
theorem dX8_init_23 : decode cX8_init 23 = .ok (.putfield 16, 3) := by decide +kernel
theorem dX8_init_26 : decode cX8_init 26 = .ok (.aload_n 0, 1) := by decide +kernel
theorem dX8_init_27 : decode cX8_init 27 = .ok (.new 9, 3) := by decide +kernel
theorem dX8_init_30 : decode cX8_init 30 = .ok (.dup, 1) := by decide +kernel
theorem dX8_init_31 : decode cX8_init 31 = .ok (.invokespecial 11, 3) := by decide +kernel
theorem dX8_init_34 : decode cX8_init 34 = .ok (.putfield 19, 3) := by decide +kernel
theorem dX8_init_37 : decode cX8_init 37 = .ok (.aload_n 0, 1) := by decide +kernel
theorem dX8_init_38 : decode cX8_init 38 = .ok (.new 22, 3) := by decide +kernel
theorem dX8_init_41 : decode cX8_init 41 = .ok (.dup, 1) := by decide +kernel
theorem dX8_init_42 : decode cX8_init 42 = .ok (.invokespecial 24, 3) := by decide +kernel
theorem dX8_init_45 : decode cX8_init 45 = .ok (.putfield 25, 3) := by decide +kernel
theorem dX8_init_48 : decode cX8_init 48 = .ok (.aload_n 0, 1) := by decide +kernel
theorem dX8_init_49 : decode cX8_init 49 = .ok (.new 29, 3) := by decide +kernel
theorem dX8_init_52 : decode cX8_init 52 = .ok (.dup, 1) := by decide +kernel
theorem dX8_init_53 : decode cX8_init 53 = .ok (.invokespecial 31, 3) := by decide +kernel
theorem dX8_init_56 : decode cX8_init 56 = .ok (.putfield 32, 3) := by decide +kernel
theorem dX8_init_59 : decode cX8_init 59 = .ok (.aload_n 0, 1) := by decide +kernel
theorem dX8_init_60 : decode cX8_init 60 = .ok (.bipush 110, 2) := by decide +kernel
theorem dX8_init_62 : decode cX8_init 62 = .ok (.putfield 36, 3) := by decide +kernel
theorem dX8_init_65 : decode cX8_init 65 = .ok (.aload_n 0, 1) := by decide +kernel
theorem dX8_init_66 : decode cX8_init 66 = .ok (.iconst 0, 1) := by decide +kernel
theorem dX8_init_67 : decode cX8_init 67 = .ok (.putfield 40, 3) := by decide +kernel
theorem dX8_init_70 : decode cX8_init 70 = .ok (.return_, 1) := by decide +kernel
theorem dX8_dig_0 : decode cX8_dig 0 = .ok (.iload_n 1, 1) := by decide +kernel
theorem dX8_dig_1 : decode cX8_dig 1 = .ok (.iload_n 2, 1) := by decide +kernel
theorem dX8_dig_2 : decode cX8_dig 2 = .ok (.invokestatic 44, 3) := by decide +kernel
theorem dX8_dig_5 : decode cX8_dig 5 = .ok (.ldc 48, 2) := by decide +kernel
theorem dX8_dig_7 : decode cX8_dig 7 = .ok (.iload_n 3, 1) := by decide +kernel
theorem dX8_dig_8 : decode cX8_dig 8 = .ok (.invokevirtual 50, 3) := by decide +kernel
theorem dX8_dig_11 : decode cX8_dig 11 = .ok (.ifCond .ge 11, 3) := by decide +kernel
theorem dX8_dig_14 : decode cX8_dig 14 = .ok (.new 56, 3) := by decide +kernel
theorem dX8_dig_17 : decode cX8_dig 17 = .ok (.dup, 1) := by decide +kernel
theorem dX8_dig_18 : decode cX8_dig 18 = .ok (.invokespecial 58, 3) := by decide +kernel
theorem dX8_dig_21 : decode cX8_dig 21 = .ok (.athrow, 1) := by decide +kernel
theorem dX8_dig_22 : decode cX8_dig 22 = .ok (.aload_n 0, 1) := by decide +kernel
theorem dX8_dig_23 : decode cX8_dig 23 = .ok (.invokevirtual 59, 3) := by decide +kernel
theorem dX8_dig_26 : decode cX8_dig 26 = .ok (.aload_n 0, 1) := by decide +kernel
theorem dX8_dig_27 : decode cX8_dig 27 = .ok (.getfield 12, 3) := by decide +kernel
theorem dX8_dig_30 : decode cX8_dig 30 = .ok (.getfield 62, 3) := by decide +kernel
theorem dX8_dig_33 : decode cX8_dig 33 = .ok (.iload_n 1, 1) := by decide +kernel
theorem dX8_dig_34 : decode cX8_dig 34 = .ok (.iload_n 2, 1) := by decide +kernel
theorem dX8_dig_35 : decode cX8_dig 35 = .ok (.invokestatic 66, 3) := by decide +kernel
theorem dX8_dig_38 : decode cX8_dig 38 = .ok (.invokevirtual 70, 3) := by decide +kernel
theorem dX8_dig_41 : decode cX8_dig 41 = .ok (.istore 4, 2) := by decide +kernel
theorem dX8_dig_43 : decode cX8_dig 43 = .ok (.aload_n 0, 1) := by decide +kernel
theorem dX8_dig_44 : decode cX8_dig 44 = .ok (.getfield 12, 3) := by decide +kernel
theorem dX8_dig_47 : decode cX8_dig 47 = .ok (.getfield 62, 3) := by decide +kernel
theorem dX8_dig_50 : decode cX8_dig 50 = .ok (.iload_n 1, 1) := by decide +kernel
theorem dX8_dig_51 : decode cX8_dig 51 = .ok (.iload_n 2, 1) := by decide +kernel
theorem dX8_dig_52 : decode cX8_dig 52 = .ok (.invokestatic 66, 3) := by decide +kernel
theorem dX8_dig_55 : decode cX8_dig 55 = .ok (.iload_n 3, 1) := by decide +kernel
theorem dX8_dig_56 : decode cX8_dig 56 = .ok (.invokevirtual 76, 3) := by decide +kernel
theorem dX8_dig_59 : decode cX8_dig 59 = .ok (.aload_n 0, 1) := by decide +kernel
theorem dX8_dig_60 : decode cX8_dig 60 = .ok (.bipush 110, 2) := by decide +kernel
theorem dX8_dig_62 : decode cX8_dig 62 = .ok (.putfield 36, 3) := by decide +kernel
theorem dX8_dig_65 : decode cX8_dig 65 = .ok (.iload 4, 2) := by decide +kernel
theorem dX8_dig_67 : decode cX8_dig 67 = .ok (.ireturn, 1) := by decide +kernel
theorem dX8_setKind_0 : decode cX8_setKind 0 = .ok (.iload_n 1, 1) := by decide +kernel
theorem dX8_setKind_1 : decode cX8_setKind 1 = .ok (.iconst 0, 1) := by decide +kernel
theorem dX8_setKind_2 : decode cX8_setKind 2 = .ok (.bipush 7, 2) := by decide +kernel
theorem dX8_setKind_4 : decode cX8_setKind 4 = .ok (.invokestatic 80, 3) := by decide +kernel
theorem dX8_setKind_7 : decode cX8_setKind 7 = .ok (.iload_n 2, 1) := by decide +kernel
theorem dX8_setKind_8 : decode cX8_setKind 8 = .ok (.iconst 0, 1) := by decide +kernel
theorem dX8_setKind_9 : decode cX8_setKind 9 = .ok (.bipush 9, 2) := by decide +kernel
theorem dX8_setKind_11 : decode cX8_setKind 11 = .ok (.invokestatic 80, 3) := by decide +kernel
theorem dX8_setKind_14 : decode cX8_setKind 14 = .ok (.aload_n 0, 1) := by decide +kernel
theorem dX8_setKind_15 : decode cX8_setKind 15 = .ok (.invokevirtual 59, 3) := by decide +kernel
theorem dX8_setKind_18 : decode cX8_setKind 18 = .ok (.aload_n 0, 1) := by decide +kernel
theorem dX8_setKind_19 : decode cX8_setKind 19 = .ok (.getfield 12, 3) := by decide +kernel
theorem dX8_setKind_22 : decode cX8_setKind 22 = .ok (.getfield 84, 3) := by decide +kernel
theorem dX8_setKind_25 : decode cX8_setKind 25 = .ok (.getfield 88, 3) := by decide +kernel
theorem dX8_setKind_28 : decode cX8_setKind 28 = .ok (.iload_n 1, 1) := by decide +kernel
theorem dX8_setKind_29 : decode cX8_setKind 29 = .ok (.invokestatic 94, 3) := by decide +kernel
theorem dX8_setKind_32 : decode cX8_setKind 32 = .ok (.istore 4, 2) := by decide +kernel
theorem dX8_setKind_34 : decode cX8_setKind 34 = .ok (.aload_n 0, 1) := by decide +kernel
theorem dX8_setKind_35 : decode cX8_setKind 35 = .ok (.getfield 12, 3) := by decide +kernel
theorem dX8_setKind_38 : decode cX8_setKind 38 = .ok (.getfield 84, 3) := by decide +kernel
theorem dX8_setKind_41 : decode cX8_setKind 41 = .ok (.iload_n 1, 1) := by decide +kernel
theorem dX8_setKind_42 : decode cX8_setKind 42 = .ok (.iload_n 2, 1) := by decide +kernel
theorem dX8_setKind_43 : decode cX8_setKind 43 = .ok (.iload_n 3, 1) := by decide +kernel
theorem dX8_setKind_44 : decode cX8_setKind 44 = .ok (.invokevirtual 98, 3) := by decide +kernel
theorem dX8_setKind_47 : decode cX8_setKind 47 = .ok (.aload_n 0, 1) := by decide +kernel
theorem dX8_setKind_48 : decode cX8_setKind 48 = .ok (.bipush 110, 2) := by decide +kernel
theorem dX8_setKind_50 : decode cX8_setKind 50 = .ok (.putfield 36, 3) := by decide +kernel
theorem dX8_setKind_53 : decode cX8_setKind 53 = .ok (.iload 4, 2) := by decide +kernel
theorem dX8_setKind_55 : decode cX8_setKind 55 = .ok (.ireturn, 1) := by decide +kernel
theorem dX8_setEffect_0 : decode cX8_setEffect 0 = .ok (.iload_n 1, 1) := by decide +kernel
theorem dX8_setEffect_1 : decode cX8_setEffect 1 = .ok (.iconst 3, 1) := by decide +kernel
theorem dX8_setEffect_2 : decode cX8_setEffect 2 = .ok (.iconst 5, 1) := by decide +kernel
theorem dX8_setEffect_3 : decode cX8_setEffect 3 = .ok (.invokestatic 80, 3) := by decide +kernel
theorem dX8_setEffect_6 : decode cX8_setEffect 6 = .ok (.ldc 102, 2) := by decide +kernel
theorem dX8_setEffect_8 : decode cX8_setEffect 8 = .ok (.iload_n 2, 1) := by decide +kernel
theorem dX8_setEffect_9 : decode cX8_setEffect 9 = .ok (.invokevirtual 50, 3) := by decide +kernel
theorem dX8_setEffect_12 : decode cX8_setEffect 12 = .ok (.ifCond .ge 11, 3) := by decide +kernel
theorem dX8_setEffect_15 : decode cX8_setEffect 15 = .ok (.new 56, 3) := by decide +kernel
theorem dX8_setEffect_18 : decode cX8_setEffect 18 = .ok (.dup, 1) := by decide +kernel
theorem dX8_setEffect_19 : decode cX8_setEffect 19 = .ok (.invokespecial 58, 3) := by decide +kernel
theorem dX8_setEffect_22 : decode cX8_setEffect 22 = .ok (.athrow, 1) := by decide +kernel
theorem dX8_setEffect_23 : decode cX8_setEffect 23 = .ok (.iload_n 3, 1) := by decide +kernel
theorem dX8_setEffect_24 : decode cX8_setEffect 24 = .ok (.iconst 1, 1) := by decide +kernel
theorem dX8_setEffect_25 : decode cX8_setEffect 25 = .ok (.bipush 20, 2) := by decide +kernel
theorem dX8_setEffect_27 : decode cX8_setEffect 27 = .ok (.invokestatic 80, 3) := by decide +kernel
theorem dX8_setEffect_30 : decode cX8_setEffect 30 = .ok (.iload 4, 2) := by decide +kernel
theorem dX8_setEffect_32 : decode cX8_setEffect 32 = .ok (.iconst 0, 1) := by decide +kernel
theorem dX8_setEffect_33 : decode cX8_setEffect 33 = .ok (.iconst 3, 1) := by decide +kernel
theorem dX8_setEffect_34 : decode cX8_setEffect 34 = .ok (.invokestatic 80, 3) := by decide +kernel
theorem dX8_setEffect_37 : decode cX8_setEffect 37 = .ok (.aload_n 0, 1) := by decide +kernel
theorem dX8_setEffect_38 : decode cX8_setEffect 38 = .ok (.invokevirtual 59, 3) := by decide +kernel
theorem dX8_setEffect_41 : decode cX8_setEffect 41 = .ok (.aload_n 0, 1) := by decide +kernel
theorem dX8_setEffect_42 : decode cX8_setEffect 42 = .ok (.getfield 12, 3) := by decide +kernel
theorem dX8_setEffect_45 : decode cX8_setEffect 45 = .ok (.getfield 84, 3) := by decide +kernel
theorem dX8_setEffect_48 : decode cX8_setEffect 48 = .ok (.iload_n 1, 1) := by decide +kernel
theorem dX8_setEffect_49 : decode cX8_setEffect 49 = .ok (.invokevirtual 104, 3) := by decide +kernel
theorem dX8_setEffect_52 : decode cX8_setEffect 52 = .ok (.istore 5, 2) := by decide +kernel
theorem dX8_setEffect_54 : decode cX8_setEffect 54 = .ok (.aload_n 0, 1) := by decide +kernel
theorem dX8_setEffect_55 : decode cX8_setEffect 55 = .ok (.getfield 12, 3) := by decide +kernel
theorem dX8_setEffect_58 : decode cX8_setEffect 58 = .ok (.getfield 84, 3) := by decide +kernel
theorem dX8_setEffect_61 : decode cX8_setEffect 61 = .ok (.iload_n 1, 1) := by decide +kernel
theorem dX8_setEffect_62 : decode cX8_setEffect 62 = .ok (.iload_n 2, 1) := by decide +kernel
theorem dX8_setEffect_63 : decode cX8_setEffect 63 = .ok (.iload_n 3, 1) := by decide +kernel
theorem dX8_setEffect_64 : decode cX8_setEffect 64 = .ok (.iload 4, 2) := by decide +kernel
theorem dX8_setEffect_66 : decode cX8_setEffect 66 = .ok (.invokevirtual 107, 3) := by decide +kernel
theorem dX8_setEffect_69 : decode cX8_setEffect 69 = .ok (.aload_n 0, 1) := by decide +kernel
theorem dX8_setEffect_70 : decode cX8_setEffect 70 = .ok (.bipush 110, 2) := by decide +kernel
theorem dX8_setEffect_72 : decode cX8_setEffect 72 = .ok (.putfield 36, 3) := by decide +kernel
theorem dX8_setEffect_75 : decode cX8_setEffect 75 = .ok (.iload 5, 2) := by decide +kernel
theorem dX8_setEffect_77 : decode cX8_setEffect 77 = .ok (.ireturn, 1) := by decide +kernel
theorem dX8_setHero_0 : decode cX8_setHero 0 = .ok (.iload_n 1, 1) := by decide +kernel
theorem dX8_setHero_1 : decode cX8_setHero 1 = .ok (.iload_n 2, 1) := by decide +kernel
theorem dX8_setHero_2 : decode cX8_setHero 2 = .ok (.invokestatic 44, 3) := by decide +kernel
theorem dX8_setHero_5 : decode cX8_setHero 5 = .ok (.iload_n 3, 1) := by decide +kernel
theorem dX8_setHero_6 : decode cX8_setHero 6 = .ok (.iconst 1, 1) := by decide +kernel
theorem dX8_setHero_7 : decode cX8_setHero 7 = .ok (.bipush 24, 2) := by decide +kernel
theorem dX8_setHero_9 : decode cX8_setHero 9 = .ok (.invokestatic 80, 3) := by decide +kernel
theorem dX8_setHero_12 : decode cX8_setHero 12 = .ok (.iload 4, 2) := by decide +kernel
theorem dX8_setHero_14 : decode cX8_setHero 14 = .ok (.iconst 1, 1) := by decide +kernel
theorem dX8_setHero_15 : decode cX8_setHero 15 = .ok (.bipush 99, 2) := by decide +kernel
theorem dX8_setHero_17 : decode cX8_setHero 17 = .ok (.invokestatic 80, 3) := by decide +kernel
theorem dX8_setHero_20 : decode cX8_setHero 20 = .ok (.aload_n 0, 1) := by decide +kernel
theorem dX8_setHero_21 : decode cX8_setHero 21 = .ok (.invokevirtual 59, 3) := by decide +kernel
theorem dX8_setHero_24 : decode cX8_setHero 24 = .ok (.aload_n 0, 1) := by decide +kernel
theorem dX8_setHero_25 : decode cX8_setHero 25 = .ok (.getfield 12, 3) := by decide +kernel
theorem dX8_setHero_28 : decode cX8_setHero 28 = .ok (.getfield 111, 3) := by decide +kernel
theorem dX8_setHero_31 : decode cX8_setHero 31 = .ok (.getfield 115, 3) := by decide +kernel
theorem dX8_setHero_34 : decode cX8_setHero 34 = .ok (.iconst 0, 1) := by decide +kernel
theorem dX8_setHero_35 : decode cX8_setHero 35 = .ok (.invokestatic 94, 3) := by decide +kernel
theorem dX8_setHero_38 : decode cX8_setHero 38 = .ok (.istore 5, 2) := by decide +kernel
theorem dX8_setHero_40 : decode cX8_setHero 40 = .ok (.aload_n 0, 1) := by decide +kernel
theorem dX8_setHero_41 : decode cX8_setHero 41 = .ok (.getfield 12, 3) := by decide +kernel
theorem dX8_setHero_44 : decode cX8_setHero 44 = .ok (.getfield 111, 3) := by decide +kernel
theorem dX8_setHero_47 : decode cX8_setHero 47 = .ok (.iconst 0, 1) := by decide +kernel
theorem dX8_setHero_48 : decode cX8_setHero 48 = .ok (.iload_n 1, 1) := by decide +kernel
theorem dX8_setHero_49 : decode cX8_setHero 49 = .ok (.iload_n 2, 1) := by decide +kernel
theorem dX8_setHero_50 : decode cX8_setHero 50 = .ok (.invokestatic 66, 3) := by decide +kernel
theorem dX8_setHero_53 : decode cX8_setHero 53 = .ok (.iload_n 3, 1) := by decide +kernel
theorem dX8_setHero_54 : decode cX8_setHero 54 = .ok (.iconst 0, 1) := by decide +kernel
theorem dX8_setHero_55 : decode cX8_setHero 55 = .ok (.iload 4, 2) := by decide +kernel
theorem dX8_setHero_57 : decode cX8_setHero 57 = .ok (.invokevirtual 120, 3) := by decide +kernel
theorem dX8_setHero_60 : decode cX8_setHero 60 = .ok (.aload_n 0, 1) := by decide +kernel
theorem dX8_setHero_61 : decode cX8_setHero 61 = .ok (.bipush 110, 2) := by decide +kernel
theorem dX8_setHero_63 : decode cX8_setHero 63 = .ok (.putfield 36, 3) := by decide +kernel
theorem dX8_setHero_66 : decode cX8_setHero 66 = .ok (.iload 5, 2) := by decide +kernel
theorem dX8_setHero_68 : decode cX8_setHero 68 = .ok (.ireturn, 1) := by decide +kernel
theorem dX8_addBeast_0 : decode cX8_addBeast 0 = .ok (.iload_n 1, 1) := by decide +kernel
theorem dX8_addBeast_1 : decode cX8_addBeast 1 = .ok (.iload_n 2, 1) := by decide +kernel
theorem dX8_addBeast_2 : decode cX8_addBeast 2 = .ok (.invokestatic 44, 3) := by decide +kernel
theorem dX8_addBeast_5 : decode cX8_addBeast 5 = .ok (.iload_n 3, 1) := by decide +kernel
theorem dX8_addBeast_6 : decode cX8_addBeast 6 = .ok (.iconst 1, 1) := by decide +kernel
theorem dX8_addBeast_7 : decode cX8_addBeast 7 = .ok (.bipush 24, 2) := by decide +kernel
theorem dX8_addBeast_9 : decode cX8_addBeast 9 = .ok (.invokestatic 80, 3) := by decide +kernel
theorem dX8_addBeast_12 : decode cX8_addBeast 12 = .ok (.iload 4, 2) := by decide +kernel
theorem dX8_addBeast_14 : decode cX8_addBeast 14 = .ok (.iconst 0, 1) := by decide +kernel
theorem dX8_addBeast_15 : decode cX8_addBeast 15 = .ok (.bipush 9, 2) := by decide +kernel
theorem dX8_addBeast_17 : decode cX8_addBeast 17 = .ok (.invokestatic 80, 3) := by decide +kernel
theorem dX8_addBeast_20 : decode cX8_addBeast 20 = .ok (.iload 5, 2) := by decide +kernel
theorem dX8_addBeast_22 : decode cX8_addBeast 22 = .ok (.iconst 1, 1) := by decide +kernel
theorem dX8_addBeast_23 : decode cX8_addBeast 23 = .ok (.bipush 30, 2) := by decide +kernel
theorem dX8_addBeast_25 : decode cX8_addBeast 25 = .ok (.invokestatic 80, 3) := by decide +kernel
theorem dX8_addBeast_28 : decode cX8_addBeast 28 = .ok (.aload_n 0, 1) := by decide +kernel
theorem dX8_addBeast_29 : decode cX8_addBeast 29 = .ok (.invokevirtual 59, 3) := by decide +kernel
theorem dX8_addBeast_32 : decode cX8_addBeast 32 = .ok (.aload_n 0, 1) := by decide +kernel
theorem dX8_addBeast_33 : decode cX8_addBeast 33 = .ok (.getfield 12, 3) := by decide +kernel
theorem dX8_addBeast_36 : decode cX8_addBeast 36 = .ok (.getfield 111, 3) := by decide +kernel
theorem dX8_addBeast_39 : decode cX8_addBeast 39 = .ok (.getfield 123, 3) := by decide +kernel
theorem dX8_addBeast_42 : decode cX8_addBeast 42 = .ok (.bipush 8, 2) := by decide +kernel
theorem dX8_addBeast_44 : decode cX8_addBeast 44 = .ok (.invokestatic 126, 3) := by decide +kernel
theorem dX8_addBeast_47 : decode cX8_addBeast 47 = .ok (.aload_n 0, 1) := by decide +kernel
theorem dX8_addBeast_48 : decode cX8_addBeast 48 = .ok (.getfield 12, 3) := by decide +kernel
theorem dX8_addBeast_51 : decode cX8_addBeast 51 = .ok (.getfield 111, 3) := by decide +kernel
theorem dX8_addBeast_54 : decode cX8_addBeast 54 = .ok (.getfield 123, 3) := by decide +kernel
theorem dX8_addBeast_57 : decode cX8_addBeast 57 = .ok (.istore 6, 2) := by decide +kernel
theorem dX8_addBeast_59 : decode cX8_addBeast 59 = .ok (.aload_n 0, 1) := by decide +kernel
theorem dX8_addBeast_60 : decode cX8_addBeast 60 = .ok (.getfield 12, 3) := by decide +kernel
theorem dX8_addBeast_63 : decode cX8_addBeast 63 = .ok (.getfield 111, 3) := by decide +kernel
theorem dX8_addBeast_66 : decode cX8_addBeast 66 = .ok (.iload 6, 2) := by decide +kernel
theorem dX8_addBeast_68 : decode cX8_addBeast 68 = .ok (.iload_n 1, 1) := by decide +kernel
theorem dX8_addBeast_69 : decode cX8_addBeast 69 = .ok (.iload_n 2, 1) := by decide +kernel
theorem dX8_addBeast_70 : decode cX8_addBeast 70 = .ok (.invokestatic 66, 3) := by decide +kernel
theorem dX8_addBeast_73 : decode cX8_addBeast 73 = .ok (.iload_n 3, 1) := by decide +kernel
theorem dX8_addBeast_74 : decode cX8_addBeast 74 = .ok (.iload 4, 2) := by decide +kernel
theorem dX8_addBeast_76 : decode cX8_addBeast 76 = .ok (.iload 5, 2) := by decide +kernel
theorem dX8_addBeast_78 : decode cX8_addBeast 78 = .ok (.invokevirtual 120, 3) := by decide +kernel
theorem dX8_addBeast_81 : decode cX8_addBeast 81 = .ok (.aload_n 0, 1) := by decide +kernel
theorem dX8_addBeast_82 : decode cX8_addBeast 82 = .ok (.getfield 12, 3) := by decide +kernel
theorem dX8_addBeast_85 : decode cX8_addBeast 85 = .ok (.getfield 111, 3) := by decide +kernel
theorem dX8_addBeast_88 : decode cX8_addBeast 88 = .ok (.iload 6, 2) := by decide +kernel
theorem dX8_addBeast_90 : decode cX8_addBeast 90 = .ok (.iconst 1, 1) := by decide +kernel
theorem dX8_addBeast_91 : decode cX8_addBeast 91 = .ok (.iadd, 1) := by decide +kernel
theorem dX8_addBeast_92 : decode cX8_addBeast 92 = .ok (.putfield 123, 3) := by decide +kernel
theorem dX8_addBeast_95 : decode cX8_addBeast 95 = .ok (.aload_n 0, 1) := by decide +kernel
theorem dX8_addBeast_96 : decode cX8_addBeast 96 = .ok (.bipush 110, 2) := by decide +kernel
theorem dX8_addBeast_98 : decode cX8_addBeast 98 = .ok (.putfield 36, 3) := by decide +kernel
theorem dX8_addBeast_101 : decode cX8_addBeast 101 = .ok (.iload 6, 2) := by decide +kernel
theorem dX8_addBeast_103 : decode cX8_addBeast 103 = .ok (.ireturn, 1) := by decide +kernel
theorem dX8_addThing_0 : decode cX8_addThing 0 = .ok (.iload_n 1, 1) := by decide +kernel
theorem dX8_addThing_1 : decode cX8_addThing 1 = .ok (.iconst 0, 1) := by decide +kernel
theorem dX8_addThing_2 : decode cX8_addThing 2 = .ok (.bipush 7, 2) := by decide +kernel
theorem dX8_addThing_4 : decode cX8_addThing 4 = .ok (.invokestatic 80, 3) := by decide +kernel
theorem dX8_addThing_7 : decode cX8_addThing 7 = .ok (.iload_n 2, 1) := by decide +kernel
theorem dX8_addThing_8 : decode cX8_addThing 8 = .ok (.iload_n 3, 1) := by decide +kernel
theorem dX8_addThing_9 : decode cX8_addThing 9 = .ok (.invokestatic 44, 3) := by decide +kernel
theorem dX8_addThing_12 : decode cX8_addThing 12 = .ok (.iload 4, 2) := by decide +kernel
theorem dX8_addThing_14 : decode cX8_addThing 14 = .ok (.iconst (-1), 1) := by decide +kernel
theorem dX8_addThing_15 : decode cX8_addThing 15 = .ok (.if_icmp .eq 15, 3) := by decide +kernel
theorem dX8_addThing_18 : decode cX8_addThing 18 = .ok (.aload_n 0, 1) := by decide +kernel
theorem dX8_addThing_19 : decode cX8_addThing 19 = .ok (.iload 4, 2) := by decide +kernel
theorem dX8_addThing_21 : decode cX8_addThing 21 = .ok (.invokevirtual 129, 3) := by decide +kernel
theorem dX8_addThing_24 : decode cX8_addThing 24 = .ok (.aload_n 0, 1) := by decide +kernel
theorem dX8_addThing_25 : decode cX8_addThing 25 = .ok (.iload 4, 2) := by decide +kernel
theorem dX8_addThing_27 : decode cX8_addThing 27 = .ok (.invokevirtual 133, 3) := by decide +kernel
theorem dX8_addThing_30 : decode cX8_addThing 30 = .ok (.aload_n 0, 1) := by decide +kernel
theorem dX8_addThing_31 : decode cX8_addThing 31 = .ok (.invokevirtual 59, 3) := by decide +kernel
theorem dX8_addThing_34 : decode cX8_addThing 34 = .ok (.aload_n 0, 1) := by decide +kernel
theorem dX8_addThing_35 : decode cX8_addThing 35 = .ok (.getfield 12, 3) := by decide +kernel
theorem dX8_addThing_38 : decode cX8_addThing 38 = .ok (.getfield 136, 3) := by decide +kernel
theorem dX8_addThing_41 : decode cX8_addThing 41 = .ok (.getfield 140, 3) := by decide +kernel
theorem dX8_addThing_44 : decode cX8_addThing 44 = .ok (.bipush 24, 2) := by decide +kernel
theorem dX8_addThing_46 : decode cX8_addThing 46 = .ok (.invokestatic 126, 3) := by decide +kernel
theorem dX8_addThing_49 : decode cX8_addThing 49 = .ok (.aload_n 0, 1) := by decide +kernel
theorem dX8_addThing_50 : decode cX8_addThing 50 = .ok (.bipush 110, 2) := by decide +kernel
theorem dX8_addThing_52 : decode cX8_addThing 52 = .ok (.putfield 36, 3) := by decide +kernel
theorem dX8_addThing_55 : decode cX8_addThing 55 = .ok (.aload_n 0, 1) := by decide +kernel
theorem dX8_addThing_56 : decode cX8_addThing 56 = .ok (.getfield 12, 3) := by decide +kernel
theorem dX8_addThing_59 : decode cX8_addThing 59 = .ok (.getfield 136, 3) := by decide +kernel
theorem dX8_addThing_62 : decode cX8_addThing 62 = .ok (.iload_n 1, 1) := by decide +kernel
theorem dX8_addThing_63 : decode cX8_addThing 63 = .ok (.iload 4, 2) := by decide +kernel
theorem dX8_addThing_65 : decode cX8_addThing 65 = .ok (.iconst (-1), 1) := by decide +kernel
theorem dX8_addThing_66 : decode cX8_addThing 66 = .ok (.if_icmp .ne 11, 3) := by decide +kernel
theorem dX8_addThing_69 : decode cX8_addThing 69 = .ok (.iload_n 2, 1) := by decide +kernel
theorem dX8_addThing_70 : decode cX8_addThing 70 = .ok (.iload_n 3, 1) := by decide +kernel
theorem dX8_addThing_71 : decode cX8_addThing 71 = .ok (.invokestatic 66, 3) := by decide +kernel
theorem dX8_addThing_74 : decode cX8_addThing 74 = .ok (.goto 8, 3) := by decide +kernel
theorem dX8_addThing_77 : decode cX8_addThing 77 = .ok (.bipush (-3), 2) := by decide +kernel
theorem dX8_addThing_79 : decode cX8_addThing 79 = .ok (.iload 4, 2) := by decide +kernel
theorem dX8_addThing_81 : decode cX8_addThing 81 = .ok (.isub, 1) := by decide +kernel
theorem dX8_addThing_82 : decode cX8_addThing 82 = .ok (.invokevirtual 143, 3) := by decide +kernel
theorem dX8_addThing_85 : decode cX8_addThing 85 = .ok (.ireturn, 1) := by decide +kernel
theorem dX8_addLamp_0 : decode cX8_addLamp 0 = .ok (.iload_n 1, 1) := by decide +kernel
theorem dX8_addLamp_1 : decode cX8_addLamp 1 = .ok (.iload_n 2, 1) := by decide +kernel
theorem dX8_addLamp_2 : decode cX8_addLamp 2 = .ok (.invokestatic 44, 3) := by decide +kernel
theorem dX8_addLamp_5 : decode cX8_addLamp 5 = .ok (.iload_n 3, 1) := by decide +kernel
theorem dX8_addLamp_6 : decode cX8_addLamp 6 = .ok (.iconst 0, 1) := by decide +kernel
theorem dX8_addLamp_7 : decode cX8_addLamp 7 = .ok (.bipush 9, 2) := by decide +kernel
theorem dX8_addLamp_9 : decode cX8_addLamp 9 = .ok (.invokestatic 80, 3) := by decide +kernel
theorem dX8_addLamp_12 : decode cX8_addLamp 12 = .ok (.aload_n 0, 1) := by decide +kernel
theorem dX8_addLamp_13 : decode cX8_addLamp 13 = .ok (.invokevirtual 59, 3) := by decide +kernel
theorem dX8_addLamp_16 : decode cX8_addLamp 16 = .ok (.aload_n 0, 1) := by decide +kernel
theorem dX8_addLamp_17 : decode cX8_addLamp 17 = .ok (.getfield 12, 3) := by decide +kernel
theorem dX8_addLamp_20 : decode cX8_addLamp 20 = .ok (.getfield 146, 3) := by decide +kernel
theorem dX8_addLamp_23 : decode cX8_addLamp 23 = .ok (.getfield 150, 3) := by decide +kernel
theorem dX8_addLamp_26 : decode cX8_addLamp 26 = .ok (.iconst 4, 1) := by decide +kernel
theorem dX8_addLamp_27 : decode cX8_addLamp 27 = .ok (.invokestatic 126, 3) := by decide +kernel
theorem dX8_addLamp_30 : decode cX8_addLamp 30 = .ok (.aload_n 0, 1) := by decide +kernel
theorem dX8_addLamp_31 : decode cX8_addLamp 31 = .ok (.bipush 110, 2) := by decide +kernel
theorem dX8_addLamp_33 : decode cX8_addLamp 33 = .ok (.putfield 36, 3) := by decide +kernel
theorem dX8_addLamp_36 : decode cX8_addLamp 36 = .ok (.aload_n 0, 1) := by decide +kernel
theorem dX8_addLamp_37 : decode cX8_addLamp 37 = .ok (.getfield 12, 3) := by decide +kernel
theorem dX8_addLamp_40 : decode cX8_addLamp 40 = .ok (.getfield 146, 3) := by decide +kernel
theorem dX8_addLamp_43 : decode cX8_addLamp 43 = .ok (.iload_n 1, 1) := by decide +kernel
theorem dX8_addLamp_44 : decode cX8_addLamp 44 = .ok (.iload_n 2, 1) := by decide +kernel
theorem dX8_addLamp_45 : decode cX8_addLamp 45 = .ok (.invokestatic 66, 3) := by decide +kernel
theorem dX8_addLamp_48 : decode cX8_addLamp 48 = .ok (.iload_n 3, 1) := by decide +kernel
theorem dX8_addLamp_49 : decode cX8_addLamp 49 = .ok (.invokevirtual 153, 3) := by decide +kernel
theorem dX8_addLamp_52 : decode cX8_addLamp 52 = .ok (.ireturn, 1) := by decide +kernel
theorem dX8_begin_0 : decode cX8_begin 0 = .ok (.iload_n 1, 1) := by decide +kernel
theorem dX8_begin_1 : decode cX8_begin 1 = .ok (.ifCond .ge 11, 3) := by decide +kernel
theorem dX8_begin_4 : decode cX8_begin 4 = .ok (.new 56, 3) := by decide +kernel
theorem dX8_begin_7 : decode cX8_begin 7 = .ok (.dup, 1) := by decide +kernel
theorem dX8_begin_8 : decode cX8_begin 8 = .ok (.invokespecial 58, 3) := by decide +kernel
theorem dX8_begin_11 : decode cX8_begin 11 = .ok (.athrow, 1) := by decide +kernel
theorem dX8_begin_12 : decode cX8_begin 12 = .ok (.aload_n 0, 1) := by decide +kernel
theorem dX8_begin_13 : decode cX8_begin 13 = .ok (.invokevirtual 59, 3) := by decide +kernel
theorem dX8_begin_16 : decode cX8_begin 16 = .ok (.aload_n 0, 1) := by decide +kernel
theorem dX8_begin_17 : decode cX8_begin 17 = .ok (.getfield 12, 3) := by decide +kernel
theorem dX8_begin_20 : decode cX8_begin 20 = .ok (.getfield 111, 3) := by decide +kernel
theorem dX8_begin_23 : decode cX8_begin 23 = .ok (.invokevirtual 154, 3) := by decide +kernel
theorem dX8_begin_26 : decode cX8_begin 26 = .ok (.ifCond .eq 13, 3) := by decide +kernel
theorem dX8_begin_29 : decode cX8_begin 29 = .ok (.aload_n 0, 1) := by decide +kernel
theorem dX8_begin_30 : decode cX8_begin 30 = .ok (.getfield 12, 3) := by decide +kernel
theorem dX8_begin_33 : decode cX8_begin 33 = .ok (.invokevirtual 158, 3) := by decide +kernel
theorem dX8_begin_36 : decode cX8_begin 36 = .ok (.ifCond .ne 11, 3) := by decide +kernel
theorem dX8_begin_39 : decode cX8_begin 39 = .ok (.new 161, 3) := by decide +kernel
theorem dX8_begin_42 : decode cX8_begin 42 = .ok (.dup, 1) := by decide +kernel
theorem dX8_begin_43 : decode cX8_begin 43 = .ok (.invokespecial 163, 3) := by decide +kernel
theorem dX8_begin_46 : decode cX8_begin 46 = .ok (.athrow, 1) := by decide +kernel
theorem dX8_begin_47 : decode cX8_begin 47 = .ok (.aload_n 0, 1) := by decide +kernel
theorem dX8_begin_48 : decode cX8_begin 48 = .ok (.aload_n 0, 1) := by decide +kernel
theorem dX8_begin_49 : decode cX8_begin 49 = .ok (.getfield 16, 3) := by decide +kernel
theorem dX8_begin_52 : decode cX8_begin 52 = .ok (.iload_n 1, 1) := by decide +kernel
theorem dX8_begin_53 : decode cX8_begin 53 = .ok (.invokevirtual 164, 3) := by decide +kernel
theorem dX8_begin_56 : decode cX8_begin 56 = .ok (.aload_n 0, 1) := by decide +kernel
theorem dX8_begin_57 : decode cX8_begin 57 = .ok (.aload_n 0, 1) := by decide +kernel
theorem dX8_begin_58 : decode cX8_begin 58 = .ok (.getfield 19, 3) := by decide +kernel
theorem dX8_begin_61 : decode cX8_begin 61 = .ok (.iload_n 1, 1) := by decide +kernel
theorem dX8_begin_62 : decode cX8_begin 62 = .ok (.invokevirtual 164, 3) := by decide +kernel
theorem dX8_begin_65 : decode cX8_begin 65 = .ok (.aload_n 0, 1) := by decide +kernel
theorem dX8_begin_66 : decode cX8_begin 66 = .ok (.getfield 25, 3) := by decide +kernel
theorem dX8_begin_69 : decode cX8_begin 69 = .ok (.iconst 0, 1) := by decide +kernel
theorem dX8_begin_70 : decode cX8_begin 70 = .ok (.putfield 168, 3) := by decide +kernel
theorem dX8_begin_73 : decode cX8_begin 73 = .ok (.aload_n 0, 1) := by decide +kernel
theorem dX8_begin_74 : decode cX8_begin 74 = .ok (.iconst 0, 1) := by decide +kernel
theorem dX8_begin_75 : decode cX8_begin 75 = .ok (.putfield 40, 3) := by decide +kernel
theorem dX8_begin_78 : decode cX8_begin 78 = .ok (.aload_n 0, 1) := by decide +kernel
theorem dX8_begin_79 : decode cX8_begin 79 = .ok (.bipush 111, 2) := by decide +kernel
theorem dX8_begin_81 : decode cX8_begin 81 = .ok (.putfield 36, 3) := by decide +kernel
theorem dX8_begin_84 : decode cX8_begin 84 = .ok (.aload_n 0, 1) := by decide +kernel
theorem dX8_begin_85 : decode cX8_begin 85 = .ok (.getfield 16, 3) := by decide +kernel
theorem dX8_begin_88 : decode cX8_begin 88 = .ok (.invokevirtual 169, 3) := by decide +kernel
theorem dX8_begin_91 : decode cX8_begin 91 = .ok (.aload_n 0, 1) := by decide +kernel
theorem dX8_begin_92 : decode cX8_begin 92 = .ok (.invokevirtual 172, 3) := by decide +kernel
theorem dX8_begin_95 : decode cX8_begin 95 = .ok (.aload_n 0, 1) := by decide +kernel
theorem dX8_begin_96 : decode cX8_begin 96 = .ok (.getfield 16, 3) := by decide +kernel
theorem dX8_begin_99 : decode cX8_begin 99 = .ok (.getfield 175, 3) := by decide +kernel
theorem dX8_begin_102 : decode cX8_begin 102 = .ok (.ireturn, 1) := by decide +kernel
theorem dX8_leave_0 : decode cX8_leave 0 = .ok (.aload_n 0, 1) := by decide +kernel
theorem dX8_leave_1 : decode cX8_leave 1 = .ok (.invokevirtual 178, 3) := by decide +kernel
theorem dX8_leave_4 : decode cX8_leave 4 = .ok (.aload_n 0, 1) := by decide +kernel
theorem dX8_leave_5 : decode cX8_leave 5 = .ok (.bipush 108, 2) := by decide +kernel
theorem dX8_leave_7 : decode cX8_leave 7 = .ok (.putfield 36, 3) := by decide +kernel
theorem dX8_leave_10 : decode cX8_leave 10 = .ok (.aload_n 0, 1) := by decide +kernel
theorem dX8_leave_11 : decode cX8_leave 11 = .ok (.getfield 16, 3) := by decide +kernel
theorem dX8_leave_14 : decode cX8_leave 14 = .ok (.getfield 175, 3) := by decide +kernel
theorem dX8_leave_17 : decode cX8_leave 17 = .ok (.ireturn, 1) := by decide +kernel
theorem dX8_go_0 : decode cX8_go 0 = .ok (.iload_n 1, 1) := by decide +kernel
theorem dX8_go_1 : decode cX8_go 1 = .ok (.invokestatic 181, 3) := by decide +kernel
theorem dX8_go_4 : decode cX8_go 4 = .ok (.aload_n 0, 1) := by decide +kernel
theorem dX8_go_5 : decode cX8_go 5 = .ok (.invokevirtual 178, 3) := by decide +kernel
theorem dX8_go_8 : decode cX8_go 8 = .ok (.aload_n 0, 1) := by decide +kernel
theorem dX8_go_9 : decode cX8_go 9 = .ok (.iconst 0, 1) := by decide +kernel
theorem dX8_go_10 : decode cX8_go 10 = .ok (.iload_n 1, 1) := by decide +kernel
theorem dX8_go_11 : decode cX8_go 11 = .ok (.iconst 0, 1) := by decide +kernel
theorem dX8_go_12 : decode cX8_go 12 = .ok (.invokevirtual 184, 3) := by decide +kernel
theorem dX8_go_15 : decode cX8_go 15 = .ok (.istore_n 2, 1) := by decide +kernel
theorem dX8_go_16 : decode cX8_go 16 = .ok (.iload_n 2, 1) := by decide +kernel
theorem dX8_go_17 : decode cX8_go 17 = .ok (.ldc 188, 2) := by decide +kernel
theorem dX8_go_19 : decode cX8_go 19 = .ok (.if_icmp .ne 8, 3) := by decide +kernel
theorem dX8_go_22 : decode cX8_go 22 = .ok (.bipush 98, 2) := by decide +kernel
theorem dX8_go_24 : decode cX8_go 24 = .ok (.goto 5, 3) := by decide +kernel
theorem dX8_go_27 : decode cX8_go 27 = .ok (.iload_n 2, 1) := by decide +kernel
theorem dX8_go_28 : decode cX8_go 28 = .ok (.i2c, 1) := by decide +kernel
theorem dX8_go_29 : decode cX8_go 29 = .ok (.ireturn, 1) := by decide +kernel
theorem dX8_rest_0 : decode cX8_rest 0 = .ok (.aload_n 0, 1) := by decide +kernel
theorem dX8_rest_1 : decode cX8_rest 1 = .ok (.invokevirtual 178, 3) := by decide +kernel
theorem dX8_rest_4 : decode cX8_rest 4 = .ok (.aload_n 0, 1) := by decide +kernel
theorem dX8_rest_5 : decode cX8_rest 5 = .ok (.iconst 1, 1) := by decide +kernel
theorem dX8_rest_6 : decode cX8_rest 6 = .ok (.iconst 0, 1) := by decide +kernel
theorem dX8_rest_7 : decode cX8_rest 7 = .ok (.iconst 0, 1) := by decide +kernel
theorem dX8_rest_8 : decode cX8_rest 8 = .ok (.invokevirtual 184, 3) := by decide +kernel
theorem dX8_rest_11 : decode cX8_rest 11 = .ok (.pop, 1) := by decide +kernel
theorem dX8_rest_12 : decode cX8_rest 12 = .ok (.aload_n 0, 1) := by decide +kernel
theorem dX8_rest_13 : decode cX8_rest 13 = .ok (.getfield 16, 3) := by decide +kernel
theorem dX8_rest_16 : decode cX8_rest 16 = .ok (.getfield 175, 3) := by decide +kernel
theorem dX8_rest_19 : decode cX8_rest 19 = .ok (.ireturn, 1) := by decide +kernel
theorem dX8_take_0 : decode cX8_take 0 = .ok (.aload_n 0, 1) := by decide +kernel
theorem dX8_take_1 : decode cX8_take 1 = .ok (.iload_n 1, 1) := by decide +kernel
theorem dX8_take_2 : decode cX8_take 2 = .ok (.invokevirtual 129, 3) := by decide +kernel
theorem dX8_take_5 : decode cX8_take 5 = .ok (.aload_n 0, 1) := by decide +kernel
theorem dX8_take_6 : decode cX8_take 6 = .ok (.invokevirtual 178, 3) := by decide +kernel
theorem dX8_take_9 : decode cX8_take 9 = .ok (.aload_n 0, 1) := by decide +kernel
theorem dX8_take_10 : decode cX8_take 10 = .ok (.getfield 16, 3) := by decide +kernel
theorem dX8_take_13 : decode cX8_take 13 = .ok (.getfield 136, 3) := by decide +kernel
theorem dX8_take_16 : decode cX8_take 16 = .ok (.getfield 189, 3) := by decide +kernel
theorem dX8_take_19 : decode cX8_take 19 = .ok (.iload_n 1, 1) := by decide +kernel
theorem dX8_take_20 : decode cX8_take 20 = .ok (.invokestatic 94, 3) := by decide +kernel
theorem dX8_take_23 : decode cX8_take 23 = .ok (.aload_n 0, 1) := by decide +kernel
theorem dX8_take_24 : decode cX8_take 24 = .ok (.getfield 16, 3) := by decide +kernel
theorem dX8_take_27 : decode cX8_take 27 = .ok (.invokevirtual 192, 3) := by decide +kernel
theorem dX8_take_30 : decode cX8_take 30 = .ok (.if_icmp .eq 11, 3) := by decide +kernel
theorem dX8_take_33 : decode cX8_take 33 = .ok (.new 196, 3) := by decide +kernel
theorem dX8_take_36 : decode cX8_take 36 = .ok (.dup, 1) := by decide +kernel
theorem dX8_take_37 : decode cX8_take 37 = .ok (.invokespecial 198, 3) := by decide +kernel
theorem dX8_take_40 : decode cX8_take 40 = .ok (.athrow, 1) := by decide +kernel
theorem dX8_take_41 : decode cX8_take 41 = .ok (.aload_n 0, 1) := by decide +kernel
theorem dX8_take_42 : decode cX8_take 42 = .ok (.getfield 16, 3) := by decide +kernel
theorem dX8_take_45 : decode cX8_take 45 = .ok (.getfield 136, 3) := by decide +kernel
theorem dX8_take_48 : decode cX8_take 48 = .ok (.aload_n 0, 1) := by decide +kernel
theorem dX8_take_49 : decode cX8_take 49 = .ok (.getfield 16, 3) := by decide +kernel
theorem dX8_take_52 : decode cX8_take 52 = .ok (.getfield 84, 3) := by decide +kernel
theorem dX8_take_55 : decode cX8_take 55 = .ok (.invokevirtual 199, 3) := by decide +kernel
theorem dX8_take_58 : decode cX8_take 58 = .ok (.aload_n 0, 1) := by decide +kernel
theorem dX8_take_59 : decode cX8_take 59 = .ok (.getfield 16, 3) := by decide +kernel
theorem dX8_take_62 : decode cX8_take 62 = .ok (.getfield 136, 3) := by decide +kernel
theorem dX8_take_65 : decode cX8_take 65 = .ok (.iload_n 1, 1) := by decide +kernel
theorem dX8_take_66 : decode cX8_take 66 = .ok (.aload_n 0, 1) := by decide +kernel
theorem dX8_take_67 : decode cX8_take 67 = .ok (.getfield 16, 3) := by decide +kernel
theorem dX8_take_70 : decode cX8_take 70 = .ok (.getfield 84, 3) := by decide +kernel
theorem dX8_take_73 : decode cX8_take 73 = .ok (.invokevirtual 203, 3) := by decide +kernel
theorem dX8_take_76 : decode cX8_take 76 = .ok (.iadd, 1) := by decide +kernel
theorem dX8_take_77 : decode cX8_take 77 = .ok (.bipush 30, 2) := by decide +kernel
theorem dX8_take_79 : decode cX8_take 79 = .ok (.if_icmp .le 11, 3) := by decide +kernel
theorem dX8_take_82 : decode cX8_take 82 = .ok (.new 207, 3) := by decide +kernel
theorem dX8_take_85 : decode cX8_take 85 = .ok (.dup, 1) := by decide +kernel
theorem dX8_take_86 : decode cX8_take 86 = .ok (.invokespecial 209, 3) := by decide +kernel
theorem dX8_take_89 : decode cX8_take 89 = .ok (.athrow, 1) := by decide +kernel
theorem dX8_take_90 : decode cX8_take 90 = .ok (.aload_n 0, 1) := by decide +kernel
theorem dX8_take_91 : decode cX8_take 91 = .ok (.iconst 2, 1) := by decide +kernel
theorem dX8_take_92 : decode cX8_take 92 = .ok (.iload_n 1, 1) := by decide +kernel
theorem dX8_take_93 : decode cX8_take 93 = .ok (.iconst 0, 1) := by decide +kernel
theorem dX8_take_94 : decode cX8_take 94 = .ok (.invokevirtual 184, 3) := by decide +kernel
theorem dX8_take_97 : decode cX8_take 97 = .ok (.ireturn, 1) := by decide +kernel
theorem dX8_drop_0 : decode cX8_drop 0 = .ok (.aload_n 0, 1) := by decide +kernel
theorem dX8_drop_1 : decode cX8_drop 1 = .ok (.iload_n 1, 1) := by decide +kernel
theorem dX8_drop_2 : decode cX8_drop 2 = .ok (.invokevirtual 129, 3) := by decide +kernel
theorem dX8_drop_5 : decode cX8_drop 5 = .ok (.aload_n 0, 1) := by decide +kernel
theorem dX8_drop_6 : decode cX8_drop 6 = .ok (.invokevirtual 178, 3) := by decide +kernel
theorem dX8_drop_9 : decode cX8_drop 9 = .ok (.aload_n 0, 1) := by decide +kernel
theorem dX8_drop_10 : decode cX8_drop 10 = .ok (.iload_n 1, 1) := by decide +kernel
theorem dX8_drop_11 : decode cX8_drop 11 = .ok (.invokevirtual 210, 3) := by decide +kernel
theorem dX8_drop_14 : decode cX8_drop 14 = .ok (.aload_n 0, 1) := by decide +kernel
theorem dX8_drop_15 : decode cX8_drop 15 = .ok (.iconst 3, 1) := by decide +kernel
theorem dX8_drop_16 : decode cX8_drop 16 = .ok (.iload_n 1, 1) := by decide +kernel
theorem dX8_drop_17 : decode cX8_drop 17 = .ok (.iconst 0, 1) := by decide +kernel
theorem dX8_drop_18 : decode cX8_drop 18 = .ok (.invokevirtual 184, 3) := by decide +kernel
theorem dX8_drop_21 : decode cX8_drop 21 = .ok (.ireturn, 1) := by decide +kernel
theorem dX8_pack_0 : decode cX8_pack 0 = .ok (.aload_n 0, 1) := by decide +kernel
theorem dX8_pack_1 : decode cX8_pack 1 = .ok (.iload_n 1, 1) := by decide +kernel
theorem dX8_pack_2 : decode cX8_pack 2 = .ok (.invokevirtual 129, 3) := by decide +kernel
theorem dX8_pack_5 : decode cX8_pack 5 = .ok (.iload_n 2, 1) := by decide +kernel
theorem dX8_pack_6 : decode cX8_pack 6 = .ok (.iconst (-1), 1) := by decide +kernel
theorem dX8_pack_7 : decode cX8_pack 7 = .ok (.if_icmp .eq 8, 3) := by decide +kernel
theorem dX8_pack_10 : decode cX8_pack 10 = .ok (.aload_n 0, 1) := by decide +kernel
theorem dX8_pack_11 : decode cX8_pack 11 = .ok (.iload_n 2, 1) := by decide +kernel
theorem dX8_pack_12 : decode cX8_pack 12 = .ok (.invokevirtual 129, 3) := by decide +kernel
theorem dX8_pack_15 : decode cX8_pack 15 = .ok (.aload_n 0, 1) := by decide +kernel
theorem dX8_pack_16 : decode cX8_pack 16 = .ok (.invokevirtual 178, 3) := by decide +kernel
theorem dX8_pack_19 : decode cX8_pack 19 = .ok (.aload_n 0, 1) := by decide +kernel
theorem dX8_pack_20 : decode cX8_pack 20 = .ok (.iload_n 1, 1) := by decide +kernel
theorem dX8_pack_21 : decode cX8_pack 21 = .ok (.invokevirtual 213, 3) := by decide +kernel
theorem dX8_pack_24 : decode cX8_pack 24 = .ok (.iload_n 2, 1) := by decide +kernel
theorem dX8_pack_25 : decode cX8_pack 25 = .ok (.iconst (-1), 1) := by decide +kernel
theorem dX8_pack_26 : decode cX8_pack 26 = .ok (.if_icmp .eq 36, 3) := by decide +kernel
theorem dX8_pack_29 : decode cX8_pack 29 = .ok (.aload_n 0, 1) := by decide +kernel
theorem dX8_pack_30 : decode cX8_pack 30 = .ok (.iload_n 2, 1) := by decide +kernel
theorem dX8_pack_31 : decode cX8_pack 31 = .ok (.invokevirtual 213, 3) := by decide +kernel
theorem dX8_pack_34 : decode cX8_pack 34 = .ok (.aload_n 0, 1) := by decide +kernel
theorem dX8_pack_35 : decode cX8_pack 35 = .ok (.iload_n 2, 1) := by decide +kernel
theorem dX8_pack_36 : decode cX8_pack 36 = .ok (.invokevirtual 133, 3) := by decide +kernel
theorem dX8_pack_39 : decode cX8_pack 39 = .ok (.aload_n 0, 1) := by decide +kernel
theorem dX8_pack_40 : decode cX8_pack 40 = .ok (.getfield 16, 3) := by decide +kernel
theorem dX8_pack_43 : decode cX8_pack 43 = .ok (.getfield 136, 3) := by decide +kernel
theorem dX8_pack_46 : decode cX8_pack 46 = .ok (.iload_n 2, 1) := by decide +kernel
theorem dX8_pack_47 : decode cX8_pack 47 = .ok (.iload_n 1, 1) := by decide +kernel
theorem dX8_pack_48 : decode cX8_pack 48 = .ok (.invokevirtual 216, 3) := by decide +kernel
theorem dX8_pack_51 : decode cX8_pack 51 = .ok (.ifCond .eq 11, 3) := by decide +kernel
theorem dX8_pack_54 : decode cX8_pack 54 = .ok (.new 207, 3) := by decide +kernel
theorem dX8_pack_57 : decode cX8_pack 57 = .ok (.dup, 1) := by decide +kernel
theorem dX8_pack_58 : decode cX8_pack 58 = .ok (.invokespecial 209, 3) := by decide +kernel
theorem dX8_pack_61 : decode cX8_pack 61 = .ok (.athrow, 1) := by decide +kernel
theorem dX8_pack_62 : decode cX8_pack 62 = .ok (.aload_n 0, 1) := by decide +kernel
theorem dX8_pack_63 : decode cX8_pack 63 = .ok (.iconst 4, 1) := by decide +kernel
theorem dX8_pack_64 : decode cX8_pack 64 = .ok (.iload_n 1, 1) := by decide +kernel
theorem dX8_pack_65 : decode cX8_pack 65 = .ok (.iload_n 2, 1) := by decide +kernel
theorem dX8_pack_66 : decode cX8_pack 66 = .ok (.invokevirtual 184, 3) := by decide +kernel
theorem dX8_pack_69 : decode cX8_pack 69 = .ok (.ireturn, 1) := by decide +kernel
theorem dX8_drink_0 : decode cX8_drink 0 = .ok (.aload_n 0, 1) := by decide +kernel
theorem dX8_drink_1 : decode cX8_drink 1 = .ok (.iload_n 1, 1) := by decide +kernel
theorem dX8_drink_2 : decode cX8_drink 2 = .ok (.invokevirtual 129, 3) := by decide +kernel
theorem dX8_drink_5 : decode cX8_drink 5 = .ok (.aload_n 0, 1) := by decide +kernel
theorem dX8_drink_6 : decode cX8_drink 6 = .ok (.invokevirtual 178, 3) := by decide +kernel
theorem dX8_drink_9 : decode cX8_drink 9 = .ok (.aload_n 0, 1) := by decide +kernel
theorem dX8_drink_10 : decode cX8_drink 10 = .ok (.iload_n 1, 1) := by decide +kernel
theorem dX8_drink_11 : decode cX8_drink 11 = .ok (.invokevirtual 210, 3) := by decide +kernel
theorem dX8_drink_14 : decode cX8_drink 14 = .ok (.aload_n 0, 1) := by decide +kernel
theorem dX8_drink_15 : decode cX8_drink 15 = .ok (.getfield 16, 3) := by decide +kernel
theorem dX8_drink_18 : decode cX8_drink 18 = .ok (.getfield 136, 3) := by decide +kernel
theorem dX8_drink_21 : decode cX8_drink 21 = .ok (.getfield 220, 3) := by decide +kernel
theorem dX8_drink_24 : decode cX8_drink 24 = .ok (.iload_n 1, 1) := by decide +kernel
theorem dX8_drink_25 : decode cX8_drink 25 = .ok (.invokestatic 94, 3) := by decide +kernel
theorem dX8_drink_28 : decode cX8_drink 28 = .ok (.invokestatic 223, 3) := by decide +kernel
theorem dX8_drink_31 : decode cX8_drink 31 = .ok (.ifCond .ne 11, 3) := by decide +kernel
theorem dX8_drink_34 : decode cX8_drink 34 = .ok (.new 207, 3) := by decide +kernel
theorem dX8_drink_37 : decode cX8_drink 37 = .ok (.dup, 1) := by decide +kernel
theorem dX8_drink_38 : decode cX8_drink 38 = .ok (.invokespecial 209, 3) := by decide +kernel
theorem dX8_drink_41 : decode cX8_drink 41 = .ok (.athrow, 1) := by decide +kernel
theorem dX8_drink_42 : decode cX8_drink 42 = .ok (.aload_n 0, 1) := by decide +kernel
theorem dX8_drink_43 : decode cX8_drink 43 = .ok (.iconst 5, 1) := by decide +kernel
theorem dX8_drink_44 : decode cX8_drink 44 = .ok (.iload_n 1, 1) := by decide +kernel
theorem dX8_drink_45 : decode cX8_drink 45 = .ok (.iconst 0, 1) := by decide +kernel
theorem dX8_drink_46 : decode cX8_drink 46 = .ok (.invokevirtual 184, 3) := by decide +kernel
theorem dX8_drink_49 : decode cX8_drink 49 = .ok (.ireturn, 1) := by decide +kernel
theorem dX8_hurl_0 : decode cX8_hurl 0 = .ok (.aload_n 0, 1) := by decide +kernel
theorem dX8_hurl_1 : decode cX8_hurl 1 = .ok (.iload_n 1, 1) := by decide +kernel
theorem dX8_hurl_2 : decode cX8_hurl 2 = .ok (.invokevirtual 129, 3) := by decide +kernel
theorem dX8_hurl_5 : decode cX8_hurl 5 = .ok (.iload_n 2, 1) := by decide +kernel
theorem dX8_hurl_6 : decode cX8_hurl 6 = .ok (.invokestatic 181, 3) := by decide +kernel
theorem dX8_hurl_9 : decode cX8_hurl 9 = .ok (.aload_n 0, 1) := by decide +kernel
theorem dX8_hurl_10 : decode cX8_hurl 10 = .ok (.invokevirtual 178, 3) := by decide +kernel
theorem dX8_hurl_13 : decode cX8_hurl 13 = .ok (.aload_n 0, 1) := by decide +kernel
theorem dX8_hurl_14 : decode cX8_hurl 14 = .ok (.iload_n 1, 1) := by decide +kernel
theorem dX8_hurl_15 : decode cX8_hurl 15 = .ok (.invokevirtual 210, 3) := by decide +kernel
theorem dX8_hurl_18 : decode cX8_hurl 18 = .ok (.aload_n 0, 1) := by decide +kernel
theorem dX8_hurl_19 : decode cX8_hurl 19 = .ok (.bipush 6, 2) := by decide +kernel
theorem dX8_hurl_21 : decode cX8_hurl 21 = .ok (.iload_n 1, 1) := by decide +kernel
theorem dX8_hurl_22 : decode cX8_hurl 22 = .ok (.iload_n 2, 1) := by decide +kernel
theorem dX8_hurl_23 : decode cX8_hurl 23 = .ok (.invokevirtual 184, 3) := by decide +kernel
theorem dX8_hurl_26 : decode cX8_hurl 26 = .ok (.ireturn, 1) := by decide +kernel
theorem dX8_shout_0 : decode cX8_shout 0 = .ok (.iload_n 1, 1) := by decide +kernel
theorem dX8_shout_1 : decode cX8_shout 1 = .ok (.iconst 1, 1) := by decide +kernel
theorem dX8_shout_2 : decode cX8_shout 2 = .ok (.bipush 30, 2) := by decide +kernel
theorem dX8_shout_4 : decode cX8_shout 4 = .ok (.invokestatic 80, 3) := by decide +kernel
theorem dX8_shout_7 : decode cX8_shout 7 = .ok (.aload_n 0, 1) := by decide +kernel
theorem dX8_shout_8 : decode cX8_shout 8 = .ok (.invokevirtual 178, 3) := by decide +kernel
theorem dX8_shout_11 : decode cX8_shout 11 = .ok (.aload_n 0, 1) := by decide +kernel
theorem dX8_shout_12 : decode cX8_shout 12 = .ok (.bipush 7, 2) := by decide +kernel
theorem dX8_shout_14 : decode cX8_shout 14 = .ok (.iload_n 1, 1) := by decide +kernel
theorem dX8_shout_15 : decode cX8_shout 15 = .ok (.iconst 0, 1) := by decide +kernel
theorem dX8_shout_16 : decode cX8_shout 16 = .ok (.invokevirtual 184, 3) := by decide +kernel
theorem dX8_shout_19 : decode cX8_shout 19 = .ok (.ireturn, 1) := by decide +kernel
theorem dX8_pray_0 : decode cX8_pray 0 = .ok (.aload_n 0, 1) := by decide +kernel
theorem dX8_pray_1 : decode cX8_pray 1 = .ok (.invokevirtual 178, 3) := by decide +kernel
theorem dX8_pray_4 : decode cX8_pray 4 = .ok (.aload_n 0, 1) := by decide +kernel
theorem dX8_pray_5 : decode cX8_pray 5 = .ok (.bipush 8, 2) := by decide +kernel
theorem dX8_pray_7 : decode cX8_pray 7 = .ok (.iconst 0, 1) := by decide +kernel
theorem dX8_pray_8 : decode cX8_pray 8 = .ok (.iconst 0, 1) := by decide +kernel
theorem dX8_pray_9 : decode cX8_pray 9 = .ok (.invokevirtual 184, 3) := by decide +kernel
theorem dX8_pray_12 : decode cX8_pray 12 = .ok (.ireturn, 1) := by decide +kernel
theorem dX8_state_0 : decode cX8_state 0 = .ok (.aload_n 0, 1) := by decide +kernel
theorem dX8_state_1 : decode cX8_state 1 = .ok (.getfield 36, 3) := by decide +kernel
theorem dX8_state_4 : decode cX8_state 4 = .ok (.ireturn, 1) := by decide +kernel
theorem dX8_tick_0 : decode cX8_tick 0 = .ok (.aload_n 0, 1) := by decide +kernel
theorem dX8_tick_1 : decode cX8_tick 1 = .ok (.invokevirtual 227, 3) := by decide +kernel
theorem dX8_tick_4 : decode cX8_tick 4 = .ok (.getfield 175, 3) := by decide +kernel
theorem dX8_tick_7 : decode cX8_tick 7 = .ok (.ireturn, 1) := by decide +kernel
theorem dX8_cell_0 : decode cX8_cell 0 = .ok (.iload_n 1, 1) := by decide +kernel
theorem dX8_cell_1 : decode cX8_cell 1 = .ok (.iload_n 2, 1) := by decide +kernel
theorem dX8_cell_2 : decode cX8_cell 2 = .ok (.invokestatic 44, 3) := by decide +kernel
theorem dX8_cell_5 : decode cX8_cell 5 = .ok (.aload_n 0, 1) := by decide +kernel
theorem dX8_cell_6 : decode cX8_cell 6 = .ok (.invokevirtual 227, 3) := by decide +kernel
theorem dX8_cell_9 : decode cX8_cell 9 = .ok (.getfield 62, 3) := by decide +kernel
theorem dX8_cell_12 : decode cX8_cell 12 = .ok (.iload_n 1, 1) := by decide +kernel
theorem dX8_cell_13 : decode cX8_cell 13 = .ok (.iload_n 2, 1) := by decide +kernel
theorem dX8_cell_14 : decode cX8_cell 14 = .ok (.invokestatic 66, 3) := by decide +kernel
theorem dX8_cell_17 : decode cX8_cell 17 = .ok (.invokevirtual 70, 3) := by decide +kernel
theorem dX8_cell_20 : decode cX8_cell 20 = .ok (.ireturn, 1) := by decide +kernel
theorem dX8_see_0 : decode cX8_see 0 = .ok (.iload_n 1, 1) := by decide +kernel
theorem dX8_see_1 : decode cX8_see 1 = .ok (.iload_n 2, 1) := by decide +kernel
theorem dX8_see_2 : decode cX8_see 2 = .ok (.invokestatic 44, 3) := by decide +kernel
theorem dX8_see_5 : decode cX8_see 5 = .ok (.iload_n 3, 1) := by decide +kernel
theorem dX8_see_6 : decode cX8_see 6 = .ok (.iload 4, 2) := by decide +kernel
theorem dX8_see_8 : decode cX8_see 8 = .ok (.invokestatic 44, 3) := by decide +kernel
theorem dX8_see_11 : decode cX8_see 11 = .ok (.aload_n 0, 1) := by decide +kernel
theorem dX8_see_12 : decode cX8_see 12 = .ok (.invokevirtual 227, 3) := by decide +kernel
theorem dX8_see_15 : decode cX8_see 15 = .ok (.getfield 62, 3) := by decide +kernel
theorem dX8_see_18 : decode cX8_see 18 = .ok (.iload_n 1, 1) := by decide +kernel
theorem dX8_see_19 : decode cX8_see 19 = .ok (.iload_n 2, 1) := by decide +kernel
theorem dX8_see_20 : decode cX8_see 20 = .ok (.invokestatic 66, 3) := by decide +kernel
theorem dX8_see_23 : decode cX8_see 23 = .ok (.iload_n 3, 1) := by decide +kernel
theorem dX8_see_24 : decode cX8_see 24 = .ok (.iload 4, 2) := by decide +kernel
theorem dX8_see_26 : decode cX8_see 26 = .ok (.invokestatic 66, 3) := by decide +kernel
theorem dX8_see_29 : decode cX8_see 29 = .ok (.invokevirtual 231, 3) := by decide +kernel
theorem dX8_see_32 : decode cX8_see 32 = .ok (.ireturn, 1) := by decide +kernel
theorem dX8_heroSees_0 : decode cX8_heroSees 0 = .ok (.iload_n 1, 1) := by decide +kernel
theorem dX8_heroSees_1 : decode cX8_heroSees 1 = .ok (.iload_n 2, 1) := by decide +kernel
theorem dX8_heroSees_2 : decode cX8_heroSees 2 = .ok (.invokestatic 44, 3) := by decide +kernel
theorem dX8_heroSees_5 : decode cX8_heroSees 5 = .ok (.aload_n 0, 1) := by decide +kernel
theorem dX8_heroSees_6 : decode cX8_heroSees 6 = .ok (.invokevirtual 178, 3) := by decide +kernel
theorem dX8_heroSees_9 : decode cX8_heroSees 9 = .ok (.aload_n 0, 1) := by decide +kernel
theorem dX8_heroSees_10 : decode cX8_heroSees 10 = .ok (.getfield 16, 3) := by decide +kernel
theorem dX8_heroSees_13 : decode cX8_heroSees 13 = .ok (.iload_n 1, 1) := by decide +kernel
theorem dX8_heroSees_14 : decode cX8_heroSees 14 = .ok (.iload_n 2, 1) := by decide +kernel
theorem dX8_heroSees_15 : decode cX8_heroSees 15 = .ok (.invokestatic 66, 3) := by decide +kernel
theorem dX8_heroSees_18 : decode cX8_heroSees 18 = .ok (.invokevirtual 234, 3) := by decide +kernel
theorem dX8_heroSees_21 : decode cX8_heroSees 21 = .ok (.ireturn, 1) := by decide +kernel
theorem dX8_placeOf_0 : decode cX8_placeOf 0 = .ok (.aload_n 0, 1) := by decide +kernel
theorem dX8_placeOf_1 : decode cX8_placeOf 1 = .ok (.iload_n 1, 1) := by decide +kernel
theorem dX8_placeOf_2 : decode cX8_placeOf 2 = .ok (.iconst 0, 1) := by decide +kernel
theorem dX8_placeOf_3 : decode cX8_placeOf 3 = .ok (.invokevirtual 237, 3) := by decide +kernel
theorem dX8_placeOf_6 : decode cX8_placeOf 6 = .ok (.aload_n 0, 1) := by decide +kernel
theorem dX8_placeOf_7 : decode cX8_placeOf 7 = .ok (.invokevirtual 227, 3) := by decide +kernel
theorem dX8_placeOf_10 : decode cX8_placeOf 10 = .ok (.getfield 111, 3) := by decide +kernel
theorem dX8_placeOf_13 : decode cX8_placeOf 13 = .ok (.getfield 240, 3) := by decide +kernel
theorem dX8_placeOf_16 : decode cX8_placeOf 16 = .ok (.iload_n 1, 1) := by decide +kernel
theorem dX8_placeOf_17 : decode cX8_placeOf 17 = .ok (.invokestatic 94, 3) := by decide +kernel
theorem dX8_placeOf_20 : decode cX8_placeOf 20 = .ok (.invokestatic 241, 3) := by decide +kernel
theorem dX8_placeOf_23 : decode cX8_placeOf 23 = .ok (.ireturn, 1) := by decide +kernel
theorem dX8_healthOf_0 : decode cX8_healthOf 0 = .ok (.aload_n 0, 1) := by decide +kernel
theorem dX8_healthOf_1 : decode cX8_healthOf 1 = .ok (.iload_n 1, 1) := by decide +kernel
theorem dX8_healthOf_2 : decode cX8_healthOf 2 = .ok (.iconst 0, 1) := by decide +kernel
theorem dX8_healthOf_3 : decode cX8_healthOf 3 = .ok (.invokevirtual 237, 3) := by decide +kernel
theorem dX8_healthOf_6 : decode cX8_healthOf 6 = .ok (.aload_n 0, 1) := by decide +kernel
theorem dX8_healthOf_7 : decode cX8_healthOf 7 = .ok (.invokevirtual 227, 3) := by decide +kernel
theorem dX8_healthOf_10 : decode cX8_healthOf 10 = .ok (.getfield 111, 3) := by decide +kernel
theorem dX8_healthOf_13 : decode cX8_healthOf 13 = .ok (.getfield 115, 3) := by decide +kernel
theorem dX8_healthOf_16 : decode cX8_healthOf 16 = .ok (.iload_n 1, 1) := by decide +kernel
theorem dX8_healthOf_17 : decode cX8_healthOf 17 = .ok (.invokestatic 94, 3) := by decide +kernel
theorem dX8_healthOf_20 : decode cX8_healthOf 20 = .ok (.ireturn, 1) := by decide +kernel
theorem dX8_aimOf_0 : decode cX8_aimOf 0 = .ok (.aload_n 0, 1) := by decide +kernel
theorem dX8_aimOf_1 : decode cX8_aimOf 1 = .ok (.iload_n 1, 1) := by decide +kernel
theorem dX8_aimOf_2 : decode cX8_aimOf 2 = .ok (.iconst 1, 1) := by decide +kernel
theorem dX8_aimOf_3 : decode cX8_aimOf 3 = .ok (.invokevirtual 237, 3) := by decide +kernel
theorem dX8_aimOf_6 : decode cX8_aimOf 6 = .ok (.aload_n 0, 1) := by decide +kernel
theorem dX8_aimOf_7 : decode cX8_aimOf 7 = .ok (.invokevirtual 227, 3) := by decide +kernel
theorem dX8_aimOf_10 : decode cX8_aimOf 10 = .ok (.getfield 111, 3) := by decide +kernel
theorem dX8_aimOf_13 : decode cX8_aimOf 13 = .ok (.getfield 244, 3) := by decide +kernel
theorem dX8_aimOf_16 : decode cX8_aimOf 16 = .ok (.iload_n 1, 1) := by decide +kernel
theorem dX8_aimOf_17 : decode cX8_aimOf 17 = .ok (.invokestatic 94, 3) := by decide +kernel
theorem dX8_aimOf_20 : decode cX8_aimOf 20 = .ok (.istore_n 2, 1) := by decide +kernel
theorem dX8_aimOf_21 : decode cX8_aimOf 21 = .ok (.iload_n 2, 1) := by decide +kernel
theorem dX8_aimOf_22 : decode cX8_aimOf 22 = .ok (.iconst (-1), 1) := by decide +kernel
theorem dX8_aimOf_23 : decode cX8_aimOf 23 = .ok (.if_icmp .ne 11, 3) := by decide +kernel
theorem dX8_aimOf_26 : decode cX8_aimOf 26 = .ok (.new 196, 3) := by decide +kernel
theorem dX8_aimOf_29 : decode cX8_aimOf 29 = .ok (.dup, 1) := by decide +kernel
theorem dX8_aimOf_30 : decode cX8_aimOf 30 = .ok (.invokespecial 198, 3) := by decide +kernel
theorem dX8_aimOf_33 : decode cX8_aimOf 33 = .ok (.athrow, 1) := by decide +kernel
theorem dX8_aimOf_34 : decode cX8_aimOf 34 = .ok (.iload_n 2, 1) := by decide +kernel
theorem dX8_aimOf_35 : decode cX8_aimOf 35 = .ok (.invokestatic 241, 3) := by decide +kernel
theorem dX8_aimOf_38 : decode cX8_aimOf 38 = .ok (.ireturn, 1) := by decide +kernel
theorem dX8_whereIs_0 : decode cX8_whereIs 0 = .ok (.aload_n 0, 1) := by decide +kernel
theorem dX8_whereIs_1 : decode cX8_whereIs 1 = .ok (.iload_n 1, 1) := by decide +kernel
theorem dX8_whereIs_2 : decode cX8_whereIs 2 = .ok (.invokevirtual 129, 3) := by decide +kernel
theorem dX8_whereIs_5 : decode cX8_whereIs 5 = .ok (.aload_n 0, 1) := by decide +kernel
theorem dX8_whereIs_6 : decode cX8_whereIs 6 = .ok (.invokevirtual 227, 3) := by decide +kernel
theorem dX8_whereIs_9 : decode cX8_whereIs 9 = .ok (.getfield 136, 3) := by decide +kernel
theorem dX8_whereIs_12 : decode cX8_whereIs 12 = .ok (.getfield 189, 3) := by decide +kernel
theorem dX8_whereIs_15 : decode cX8_whereIs 15 = .ok (.iload_n 1, 1) := by decide +kernel
theorem dX8_whereIs_16 : decode cX8_whereIs 16 = .ok (.invokestatic 94, 3) := by decide +kernel
theorem dX8_whereIs_19 : decode cX8_whereIs 19 = .ok (.istore_n 2, 1) := by decide +kernel
theorem dX8_whereIs_20 : decode cX8_whereIs 20 = .ok (.iload_n 2, 1) := by decide +kernel
theorem dX8_whereIs_21 : decode cX8_whereIs 21 = .ok (.ifCond .ge 7, 3) := by decide +kernel
theorem dX8_whereIs_24 : decode cX8_whereIs 24 = .ok (.iload_n 2, 1) := by decide +kernel
theorem dX8_whereIs_25 : decode cX8_whereIs 25 = .ok (.goto 7, 3) := by decide +kernel
theorem dX8_whereIs_28 : decode cX8_whereIs 28 = .ok (.iload_n 2, 1) := by decide +kernel
theorem dX8_whereIs_29 : decode cX8_whereIs 29 = .ok (.invokestatic 241, 3) := by decide +kernel
theorem dX8_whereIs_32 : decode cX8_whereIs 32 = .ok (.ireturn, 1) := by decide +kernel
theorem dX8_weightOf_0 : decode cX8_weightOf 0 = .ok (.aload_n 0, 1) := by decide +kernel
theorem dX8_weightOf_1 : decode cX8_weightOf 1 = .ok (.iload_n 1, 1) := by decide +kernel
theorem dX8_weightOf_2 : decode cX8_weightOf 2 = .ok (.invokevirtual 129, 3) := by decide +kernel
theorem dX8_weightOf_5 : decode cX8_weightOf 5 = .ok (.aload_n 0, 1) := by decide +kernel
theorem dX8_weightOf_6 : decode cX8_weightOf 6 = .ok (.invokevirtual 227, 3) := by decide +kernel
theorem dX8_weightOf_9 : decode cX8_weightOf 9 = .ok (.astore_n 2, 1) := by decide +kernel
theorem dX8_weightOf_10 : decode cX8_weightOf 10 = .ok (.aload_n 2, 1) := by decide +kernel
theorem dX8_weightOf_11 : decode cX8_weightOf 11 = .ok (.getfield 136, 3) := by decide +kernel
theorem dX8_weightOf_14 : decode cX8_weightOf 14 = .ok (.iload_n 1, 1) := by decide +kernel
theorem dX8_weightOf_15 : decode cX8_weightOf 15 = .ok (.aload_n 2, 1) := by decide +kernel
theorem dX8_weightOf_16 : decode cX8_weightOf 16 = .ok (.getfield 84, 3) := by decide +kernel
theorem dX8_weightOf_19 : decode cX8_weightOf 19 = .ok (.invokevirtual 203, 3) := by decide +kernel
theorem dX8_weightOf_22 : decode cX8_weightOf 22 = .ok (.ireturn, 1) := by decide +kernel
theorem dX8_nameOf_0 : decode cX8_nameOf 0 = .ok (.aload_n 0, 1) := by decide +kernel
theorem dX8_nameOf_1 : decode cX8_nameOf 1 = .ok (.iload_n 1, 1) := by decide +kernel
theorem dX8_nameOf_2 : decode cX8_nameOf 2 = .ok (.invokevirtual 129, 3) := by decide +kernel
theorem dX8_nameOf_5 : decode cX8_nameOf 5 = .ok (.aload_n 0, 1) := by decide +kernel
theorem dX8_nameOf_6 : decode cX8_nameOf 6 = .ok (.invokevirtual 178, 3) := by decide +kernel
theorem dX8_nameOf_9 : decode cX8_nameOf 9 = .ok (.aload_n 0, 1) := by decide +kernel
theorem dX8_nameOf_10 : decode cX8_nameOf 10 = .ok (.getfield 16, 3) := by decide +kernel
theorem dX8_nameOf_13 : decode cX8_nameOf 13 = .ok (.aload_n 0, 1) := by decide +kernel
theorem dX8_nameOf_14 : decode cX8_nameOf 14 = .ok (.getfield 16, 3) := by decide +kernel
theorem dX8_nameOf_17 : decode cX8_nameOf 17 = .ok (.getfield 136, 3) := by decide +kernel
theorem dX8_nameOf_20 : decode cX8_nameOf 20 = .ok (.getfield 220, 3) := by decide +kernel
theorem dX8_nameOf_23 : decode cX8_nameOf 23 = .ok (.iload_n 1, 1) := by decide +kernel
theorem dX8_nameOf_24 : decode cX8_nameOf 24 = .ok (.invokestatic 94, 3) := by decide +kernel
theorem dX8_nameOf_27 : decode cX8_nameOf 27 = .ok (.invokevirtual 247, 3) := by decide +kernel
theorem dX8_nameOf_30 : decode cX8_nameOf 30 = .ok (.ireturn, 1) := by decide +kernel
theorem dX8_isReachable_0 : decode cX8_isReachable 0 = .ok (.iload_n 1, 1) := by decide +kernel
theorem dX8_isReachable_1 : decode cX8_isReachable 1 = .ok (.iload_n 2, 1) := by decide +kernel
theorem dX8_isReachable_2 : decode cX8_isReachable 2 = .ok (.invokestatic 44, 3) := by decide +kernel
theorem dX8_isReachable_5 : decode cX8_isReachable 5 = .ok (.aload_n 0, 1) := by decide +kernel
theorem dX8_isReachable_6 : decode cX8_isReachable 6 = .ok (.invokevirtual 178, 3) := by decide +kernel
theorem dX8_isReachable_9 : decode cX8_isReachable 9 = .ok (.aload_n 0, 1) := by decide +kernel
theorem dX8_isReachable_10 : decode cX8_isReachable 10 = .ok (.getfield 16, 3) := by decide +kernel
theorem dX8_isReachable_13 : decode cX8_isReachable 13 = .ok (.iload_n 1, 1) := by decide +kernel
theorem dX8_isReachable_14 : decode cX8_isReachable 14 = .ok (.iload_n 2, 1) := by decide +kernel
theorem dX8_isReachable_15 : decode cX8_isReachable 15 = .ok (.invokestatic 66, 3) := by decide +kernel
theorem dX8_isReachable_18 : decode cX8_isReachable 18 = .ok (.invokevirtual 250, 3) := by decide +kernel
theorem dX8_isReachable_21 : decode cX8_isReachable 21 = .ok (.ireturn, 1) := by decide +kernel
theorem dX8_isSame_0 : decode cX8_isSame 0 = .ok (.aload_n 0, 1) := by decide +kernel
theorem dX8_isSame_1 : decode cX8_isSame 1 = .ok (.getfield 36, 3) := by decide +kernel
theorem dX8_isSame_4 : decode cX8_isSame 4 = .ok (.bipush 110, 2) := by decide +kernel
theorem dX8_isSame_6 : decode cX8_isSame 6 = .ok (.if_icmp .ne 11, 3) := by decide +kernel
theorem dX8_isSame_9 : decode cX8_isSame 9 = .ok (.new 161, 3) := by decide +kernel
theorem dX8_isSame_12 : decode cX8_isSame 12 = .ok (.dup, 1) := by decide +kernel
theorem dX8_isSame_13 : decode cX8_isSame 13 = .ok (.invokespecial 163, 3) := by decide +kernel
theorem dX8_isSame_16 : decode cX8_isSame 16 = .ok (.athrow, 1) := by decide +kernel
theorem dX8_isSame_17 : decode cX8_isSame 17 = .ok (.aload_n 0, 1) := by decide +kernel
theorem dX8_isSame_18 : decode cX8_isSame 18 = .ok (.invokevirtual 253, 3) := by decide +kernel
theorem dX8_isSame_21 : decode cX8_isSame 21 = .ok (.aload_n 0, 1) := by decide +kernel
theorem dX8_isSame_22 : decode cX8_isSame 22 = .ok (.getfield 16, 3) := by decide +kernel
theorem dX8_isSame_25 : decode cX8_isSame 25 = .ok (.aload_n 0, 1) := by decide +kernel
theorem dX8_isSame_26 : decode cX8_isSame 26 = .ok (.getfield 19, 3) := by decide +kernel
theorem dX8_isSame_29 : decode cX8_isSame 29 = .ok (.invokevirtual 256, 3) := by decide +kernel
theorem dX8_isSame_32 : decode cX8_isSame 32 = .ok (.ireturn, 1) := by decide +kernel
theorem dX8_livingShare_0 : decode cX8_livingShare 0 = .ok (.aload_n 0, 1) := by decide +kernel
theorem dX8_livingShare_1 : decode cX8_livingShare 1 = .ok (.invokevirtual 227, 3) := by decide +kernel
theorem dX8_livingShare_4 : decode cX8_livingShare 4 = .ok (.getfield 111, 3) := by decide +kernel
theorem dX8_livingShare_7 : decode cX8_livingShare 7 = .ok (.astore_n 1, 1) := by decide +kernel
theorem dX8_livingShare_8 : decode cX8_livingShare 8 = .ok (.aload_n 1, 1) := by decide +kernel
theorem dX8_livingShare_9 : decode cX8_livingShare 9 = .ok (.getfield 123, 3) := by decide +kernel
theorem dX8_livingShare_12 : decode cX8_livingShare 12 = .ok (.iconst 1, 1) := by decide +kernel
theorem dX8_livingShare_13 : decode cX8_livingShare 13 = .ok (.isub, 1) := by decide +kernel
theorem dX8_livingShare_14 : decode cX8_livingShare 14 = .ok (.istore_n 2, 1) := by decide +kernel
theorem dX8_livingShare_15 : decode cX8_livingShare 15 = .ok (.iload_n 2, 1) := by decide +kernel
theorem dX8_livingShare_16 : decode cX8_livingShare 16 = .ok (.ifCond .gt 11, 3) := by decide +kernel
theorem dX8_livingShare_19 : decode cX8_livingShare 19 = .ok (.new 260, 3) := by decide +kernel
theorem dX8_livingShare_22 : decode cX8_livingShare 22 = .ok (.dup, 1) := by decide +kernel
theorem dX8_livingShare_23 : decode cX8_livingShare 23 = .ok (.invokespecial 262, 3) := by decide +kernel
theorem dX8_livingShare_26 : decode cX8_livingShare 26 = .ok (.athrow, 1) := by decide +kernel
theorem dX8_livingShare_27 : decode cX8_livingShare 27 = .ok (.aload_n 1, 1) := by decide +kernel
theorem dX8_livingShare_28 : decode cX8_livingShare 28 = .ok (.iconst 1, 1) := by decide +kernel
theorem dX8_livingShare_29 : decode cX8_livingShare 29 = .ok (.invokevirtual 263, 3) := by decide +kernel
theorem dX8_livingShare_32 : decode cX8_livingShare 32 = .ok (.i2f, 1) := by decide +kernel
theorem dX8_livingShare_33 : decode cX8_livingShare 33 = .ok (.iload_n 2, 1) := by decide +kernel
theorem dX8_livingShare_34 : decode cX8_livingShare 34 = .ok (.i2f, 1) := by decide +kernel
theorem dX8_livingShare_35 : decode cX8_livingShare 35 = .ok (.fdiv, 1) := by decide +kernel
theorem dX8_livingShare_36 : decode cX8_livingShare 36 = .ok (.freturn, 1) := by decide +kernel
theorem dX8_meanHealth_0 : decode cX8_meanHealth 0 = .ok (.aload_n 0, 1) := by decide +kernel
theorem dX8_meanHealth_1 : decode cX8_meanHealth 1 = .ok (.invokevirtual 227, 3) := by decide +kernel
theorem dX8_meanHealth_4 : decode cX8_meanHealth 4 = .ok (.getfield 111, 3) := by decide +kernel
theorem dX8_meanHealth_7 : decode cX8_meanHealth 7 = .ok (.astore_n 1, 1) := by decide +kernel
theorem dX8_meanHealth_8 : decode cX8_meanHealth 8 = .ok (.aload_n 1, 1) := by decide +kernel
theorem dX8_meanHealth_9 : decode cX8_meanHealth 9 = .ok (.iconst 0, 1) := by decide +kernel
theorem dX8_meanHealth_10 : decode cX8_meanHealth 10 = .ok (.invokevirtual 263, 3) := by decide +kernel
theorem dX8_meanHealth_13 : decode cX8_meanHealth 13 = .ok (.istore_n 2, 1) := by decide +kernel
theorem dX8_meanHealth_14 : decode cX8_meanHealth 14 = .ok (.iload_n 2, 1) := by decide +kernel
theorem dX8_meanHealth_15 : decode cX8_meanHealth 15 = .ok (.ifCond .gt 11, 3) := by decide +kernel
theorem dX8_meanHealth_18 : decode cX8_meanHealth 18 = .ok (.new 260, 3) := by decide +kernel
theorem dX8_meanHealth_21 : decode cX8_meanHealth 21 = .ok (.dup, 1) := by decide +kernel
theorem dX8_meanHealth_22 : decode cX8_meanHealth 22 = .ok (.invokespecial 262, 3) := by decide +kernel
theorem dX8_meanHealth_25 : decode cX8_meanHealth 25 = .ok (.athrow, 1) := by decide +kernel
theorem dX8_meanHealth_26 : decode cX8_meanHealth 26 = .ok (.aload_n 1, 1) := by decide +kernel
theorem dX8_meanHealth_27 : decode cX8_meanHealth 27 = .ok (.invokevirtual 266, 3) := by decide +kernel
theorem dX8_meanHealth_30 : decode cX8_meanHealth 30 = .ok (.i2d, 1) := by decide +kernel
theorem dX8_meanHealth_31 : decode cX8_meanHealth 31 = .ok (.iload_n 2, 1) := by decide +kernel
theorem dX8_meanHealth_32 : decode cX8_meanHealth 32 = .ok (.i2d, 1) := by decide +kernel
theorem dX8_meanHealth_33 : decode cX8_meanHealth 33 = .ok (.ddiv, 1) := by decide +kernel
theorem dX8_meanHealth_34 : decode cX8_meanHealth 34 = .ok (.dreturn, 1) := by decide +kernel
theorem dX8_shown_0 : decode cX8_shown 0 = .ok (.aload_n 0, 1) := by decide +kernel
theorem dX8_shown_1 : decode cX8_shown 1 = .ok (.getfield 36, 3) := by decide +kernel
theorem dX8_shown_4 : decode cX8_shown 4 = .ok (.bipush 110, 2) := by decide +kernel
theorem dX8_shown_6 : decode cX8_shown 6 = .ok (.if_icmp .ne 10, 3) := by decide +kernel
theorem dX8_shown_9 : decode cX8_shown 9 = .ok (.aload_n 0, 1) := by decide +kernel
theorem dX8_shown_10 : decode cX8_shown 10 = .ok (.getfield 12, 3) := by decide +kernel
theorem dX8_shown_13 : decode cX8_shown 13 = .ok (.goto 7, 3) := by decide +kernel
theorem dX8_shown_16 : decode cX8_shown 16 = .ok (.aload_n 0, 1) := by decide +kernel
theorem dX8_shown_17 : decode cX8_shown 17 = .ok (.getfield 16, 3) := by decide +kernel
theorem dX8_shown_20 : decode cX8_shown 20 = .ok (.areturn, 1) := by decide +kernel
theorem dX8_make_0 : decode cX8_make 0 = .ok (.aload_n 1, 1) := by decide +kernel
theorem dX8_make_1 : decode cX8_make 1 = .ok (.aload_n 0, 1) := by decide +kernel
theorem dX8_make_2 : decode cX8_make 2 = .ok (.getfield 12, 3) := by decide +kernel
theorem dX8_make_5 : decode cX8_make 5 = .ok (.invokevirtual 269, 3) := by decide +kernel
theorem dX8_make_8 : decode cX8_make 8 = .ok (.aload_n 1, 1) := by decide +kernel
theorem dX8_make_9 : decode cX8_make 9 = .ok (.iload_n 2, 1) := by decide +kernel
theorem dX8_make_10 : decode cX8_make 10 = .ok (.bipush 6, 2) := by decide +kernel
theorem dX8_make_12 : decode cX8_make 12 = .ok (.irem, 1) := by decide +kernel
theorem dX8_make_13 : decode cX8_make 13 = .ok (.putfield 273, 3) := by decide +kernel
theorem dX8_make_16 : decode cX8_make 16 = .ok (.aload_n 0, 1) := by decide +kernel
theorem dX8_make_17 : decode cX8_make 17 = .ok (.getfield 32, 3) := by decide +kernel
theorem dX8_make_20 : decode cX8_make 20 = .ok (.aload_n 1, 1) := by decide +kernel
theorem dX8_make_21 : decode cX8_make 21 = .ok (.invokevirtual 276, 3) := by decide +kernel
theorem dX8_make_24 : decode cX8_make 24 = .ok (.return_, 1) := by decide +kernel
theorem dX8_act_0 : decode cX8_act 0 = .ok (.aload_n 0, 1) := by decide +kernel
theorem dX8_act_1 : decode cX8_act 1 = .ok (.getfield 16, 3) := by decide +kernel
theorem dX8_act_4 : decode cX8_act 4 = .ok (.iload_n 1, 1) := by decide +kernel
theorem dX8_act_5 : decode cX8_act 5 = .ok (.iload_n 2, 1) := by decide +kernel
theorem dX8_act_6 : decode cX8_act 6 = .ok (.iload_n 3, 1) := by decide +kernel
theorem dX8_act_7 : decode cX8_act 7 = .ok (.invokevirtual 279, 3) := by decide +kernel
theorem dX8_act_10 : decode cX8_act 10 = .ok (.istore 4, 2) := by decide +kernel
theorem dX8_act_12 : decode cX8_act 12 = .ok (.iload 4, 2) := by decide +kernel
theorem dX8_act_14 : decode cX8_act 14 = .ok (.ldc 188, 2) := by decide +kernel
theorem dX8_act_16 : decode cX8_act 16 = .ok (.if_icmp .eq 24, 3) := by decide +kernel
theorem dX8_act_19 : decode cX8_act 19 = .ok (.aload_n 0, 1) := by decide +kernel
theorem dX8_act_20 : decode cX8_act 20 = .ok (.getfield 25, 3) := by decide +kernel
theorem dX8_act_23 : decode cX8_act 23 = .ok (.iload_n 1, 1) := by decide +kernel
theorem dX8_act_24 : decode cX8_act 24 = .ok (.iload_n 2, 1) := by decide +kernel
theorem dX8_act_25 : decode cX8_act 25 = .ok (.iload_n 3, 1) := by decide +kernel
theorem dX8_act_26 : decode cX8_act 26 = .ok (.invokevirtual 282, 3) := by decide +kernel
theorem dX8_act_29 : decode cX8_act 29 = .ok (.aload_n 0, 1) := by decide +kernel
theorem dX8_act_30 : decode cX8_act 30 = .ok (.getfield 16, 3) := by decide +kernel
theorem dX8_act_33 : decode cX8_act 33 = .ok (.invokevirtual 169, 3) := by decide +kernel
theorem dX8_act_36 : decode cX8_act 36 = .ok (.aload_n 0, 1) := by decide +kernel
theorem dX8_act_37 : decode cX8_act 37 = .ok (.invokevirtual 172, 3) := by decide +kernel
theorem dX8_act_40 : decode cX8_act 40 = .ok (.iload 4, 2) := by decide +kernel
theorem dX8_act_42 : decode cX8_act 42 = .ok (.ireturn, 1) := by decide +kernel
theorem dX8_settle_0 : decode cX8_settle 0 = .ok (.aload_n 0, 1) := by decide +kernel
theorem dX8_settle_1 : decode cX8_settle 1 = .ok (.getfield 16, 3) := by decide +kernel
theorem dX8_settle_4 : decode cX8_settle 4 = .ok (.getfield 111, 3) := by decide +kernel
theorem dX8_settle_7 : decode cX8_settle 7 = .ok (.iconst 0, 1) := by decide +kernel
theorem dX8_settle_8 : decode cX8_settle 8 = .ok (.invokevirtual 284, 3) := by decide +kernel
theorem dX8_settle_11 : decode cX8_settle 11 = .ok (.ifCond .ne 27, 3) := by decide +kernel
theorem dX8_settle_14 : decode cX8_settle 14 = .ok (.aload_n 0, 1) := by decide +kernel
theorem dX8_settle_15 : decode cX8_settle 15 = .ok (.getfield 32, 3) := by decide +kernel
theorem dX8_settle_18 : decode cX8_settle 18 = .ok (.aload_n 0, 1) := by decide +kernel
theorem dX8_settle_19 : decode cX8_settle 19 = .ok (.getfield 16, 3) := by decide +kernel
theorem dX8_settle_22 : decode cX8_settle 22 = .ok (.invokevirtual 287, 3) := by decide +kernel
theorem dX8_settle_25 : decode cX8_settle 25 = .ok (.aload_n 0, 1) := by decide +kernel
theorem dX8_settle_26 : decode cX8_settle 26 = .ok (.getfield 16, 3) := by decide +kernel
theorem dX8_settle_29 : decode cX8_settle 29 = .ok (.invokevirtual 290, 3) := by decide +kernel
theorem dX8_settle_32 : decode cX8_settle 32 = .ok (.aload_n 0, 1) := by decide +kernel
theorem dX8_settle_33 : decode cX8_settle 33 = .ok (.bipush 100, 2) := by decide +kernel
theorem dX8_settle_35 : decode cX8_settle 35 = .ok (.putfield 36, 3) := by decide +kernel
theorem dX8_settle_38 : decode cX8_settle 38 = .ok (.return_, 1) := by decide +kernel
theorem dX8_redo_0 : decode cX8_redo 0 = .ok (.aload_n 0, 1) := by decide +kernel
theorem dX8_redo_1 : decode cX8_redo 1 = .ok (.getfield 19, 3) := by decide +kernel
theorem dX8_redo_4 : decode cX8_redo 4 = .ok (.invokevirtual 169, 3) := by decide +kernel
theorem dX8_redo_7 : decode cX8_redo 7 = .ok (.aload_n 0, 1) := by decide +kernel
theorem dX8_redo_8 : decode cX8_redo 8 = .ok (.getfield 40, 3) := by decide +kernel
theorem dX8_redo_11 : decode cX8_redo 11 = .ok (.aload_n 0, 1) := by decide +kernel
theorem dX8_redo_12 : decode cX8_redo 12 = .ok (.getfield 25, 3) := by decide +kernel
theorem dX8_redo_15 : decode cX8_redo 15 = .ok (.getfield 168, 3) := by decide +kernel
theorem dX8_redo_18 : decode cX8_redo 18 = .ok (.if_icmp .ge 73, 3) := by decide +kernel
theorem dX8_redo_21 : decode cX8_redo 21 = .ok (.aload_n 0, 1) := by decide +kernel
theorem dX8_redo_22 : decode cX8_redo 22 = .ok (.getfield 19, 3) := by decide +kernel
theorem dX8_redo_25 : decode cX8_redo 25 = .ok (.aload_n 0, 1) := by decide +kernel
theorem dX8_redo_26 : decode cX8_redo 26 = .ok (.getfield 25, 3) := by decide +kernel
theorem dX8_redo_29 : decode cX8_redo 29 = .ok (.getfield 293, 3) := by decide +kernel
theorem dX8_redo_32 : decode cX8_redo 32 = .ok (.aload_n 0, 1) := by decide +kernel
theorem dX8_redo_33 : decode cX8_redo 33 = .ok (.getfield 40, 3) := by decide +kernel
theorem dX8_redo_36 : decode cX8_redo 36 = .ok (.invokestatic 94, 3) := by decide +kernel
theorem dX8_redo_39 : decode cX8_redo 39 = .ok (.aload_n 0, 1) := by decide +kernel
theorem dX8_redo_40 : decode cX8_redo 40 = .ok (.getfield 25, 3) := by decide +kernel
theorem dX8_redo_43 : decode cX8_redo 43 = .ok (.getfield 296, 3) := by decide +kernel
theorem dX8_redo_46 : decode cX8_redo 46 = .ok (.aload_n 0, 1) := by decide +kernel
theorem dX8_redo_47 : decode cX8_redo 47 = .ok (.getfield 40, 3) := by decide +kernel
theorem dX8_redo_50 : decode cX8_redo 50 = .ok (.invokestatic 94, 3) := by decide +kernel
theorem dX8_redo_53 : decode cX8_redo 53 = .ok (.aload_n 0, 1) := by decide +kernel
theorem dX8_redo_54 : decode cX8_redo 54 = .ok (.getfield 25, 3) := by decide +kernel
theorem dX8_redo_57 : decode cX8_redo 57 = .ok (.getfield 299, 3) := by decide +kernel
theorem dX8_redo_60 : decode cX8_redo 60 = .ok (.aload_n 0, 1) := by decide +kernel
theorem dX8_redo_61 : decode cX8_redo 61 = .ok (.getfield 40, 3) := by decide +kernel
theorem dX8_redo_64 : decode cX8_redo 64 = .ok (.invokestatic 94, 3) := by decide +kernel
theorem dX8_redo_67 : decode cX8_redo 67 = .ok (.invokevirtual 279, 3) := by decide +kernel
theorem dX8_redo_70 : decode cX8_redo 70 = .ok (.pop, 1) := by decide +kernel
theorem dX8_redo_71 : decode cX8_redo 71 = .ok (.aload_n 0, 1) := by decide +kernel
theorem dX8_redo_72 : decode cX8_redo 72 = .ok (.getfield 19, 3) := by decide +kernel
theorem dX8_redo_75 : decode cX8_redo 75 = .ok (.invokevirtual 169, 3) := by decide +kernel
theorem dX8_redo_78 : decode cX8_redo 78 = .ok (.aload_n 0, 1) := by decide +kernel
theorem dX8_redo_79 : decode cX8_redo 79 = .ok (.dup, 1) := by decide +kernel
theorem dX8_redo_80 : decode cX8_redo 80 = .ok (.getfield 40, 3) := by decide +kernel
theorem dX8_redo_83 : decode cX8_redo 83 = .ok (.iconst 1, 1) := by decide +kernel
theorem dX8_redo_84 : decode cX8_redo 84 = .ok (.iadd, 1) := by decide +kernel
theorem dX8_redo_85 : decode cX8_redo 85 = .ok (.putfield 40, 3) := by decide +kernel
theorem dX8_redo_88 : decode cX8_redo 88 = .ok (.goto (-81), 3) := by decide +kernel
theorem dX8_redo_91 : decode cX8_redo 91 = .ok (.aload_n 0, 1) := by decide +kernel
theorem dX8_redo_92 : decode cX8_redo 92 = .ok (.getfield 19, 3) := by decide +kernel
theorem dX8_redo_95 : decode cX8_redo 95 = .ok (.getfield 111, 3) := by decide +kernel
theorem dX8_redo_98 : decode cX8_redo 98 = .ok (.iconst 0, 1) := by decide +kernel
theorem dX8_redo_99 : decode cX8_redo 99 = .ok (.invokevirtual 284, 3) := by decide +kernel
theorem dX8_redo_102 : decode cX8_redo 102 = .ok (.ifCond .ne 10, 3) := by decide +kernel
theorem dX8_redo_105 : decode cX8_redo 105 = .ok (.aload_n 0, 1) := by decide +kernel
theorem dX8_redo_106 : decode cX8_redo 106 = .ok (.getfield 19, 3) := by decide +kernel
theorem dX8_redo_109 : decode cX8_redo 109 = .ok (.invokevirtual 290, 3) := by decide +kernel
theorem dX8_redo_112 : decode cX8_redo 112 = .ok (.return_, 1) := by decide +kernel
theorem dX8_checkNoWorld_0 : decode cX8_checkNoWorld 0 = .ok (.aload_n 0, 1) := by decide +kernel
theorem dX8_checkNoWorld_1 : decode cX8_checkNoWorld 1 = .ok (.getfield 36, 3) := by decide +kernel
theorem dX8_checkNoWorld_4 : decode cX8_checkNoWorld 4 = .ok (.bipush 111, 2) := by decide +kernel
theorem dX8_checkNoWorld_6 : decode cX8_checkNoWorld 6 = .ok (.if_icmp .ne 11, 3) := by decide +kernel
theorem dX8_checkNoWorld_9 : decode cX8_checkNoWorld 9 = .ok (.new 161, 3) := by decide +kernel
theorem dX8_checkNoWorld_12 : decode cX8_checkNoWorld 12 = .ok (.dup, 1) := by decide +kernel
theorem dX8_checkNoWorld_13 : decode cX8_checkNoWorld 13 = .ok (.invokespecial 163, 3) := by decide +kernel
theorem dX8_checkNoWorld_16 : decode cX8_checkNoWorld 16 = .ok (.athrow, 1) := by decide +kernel
theorem dX8_checkNoWorld_17 : decode cX8_checkNoWorld 17 = .ok (.return_, 1) := by decide +kernel
theorem dX8_checkWorld_0 : decode cX8_checkWorld 0 = .ok (.aload_n 0, 1) := by decide +kernel
theorem dX8_checkWorld_1 : decode cX8_checkWorld 1 = .ok (.getfield 36, 3) := by decide +kernel
theorem dX8_checkWorld_4 : decode cX8_checkWorld 4 = .ok (.bipush 111, 2) := by decide +kernel
theorem dX8_checkWorld_6 : decode cX8_checkWorld 6 = .ok (.if_icmp .eq 11, 3) := by decide +kernel
theorem dX8_checkWorld_9 : decode cX8_checkWorld 9 = .ok (.new 161, 3) := by decide +kernel
theorem dX8_checkWorld_12 : decode cX8_checkWorld 12 = .ok (.dup, 1) := by decide +kernel
theorem dX8_checkWorld_13 : decode cX8_checkWorld 13 = .ok (.invokespecial 163, 3) := by decide +kernel
theorem dX8_checkWorld_16 : decode cX8_checkWorld 16 = .ok (.athrow, 1) := by decide +kernel
theorem dX8_checkWorld_17 : decode cX8_checkWorld 17 = .ok (.return_, 1) := by decide +kernel
theorem dX8_checkThing_0 : decode cX8_checkThing 0 = .ok (.iload_n 1, 1) := by decide +kernel
theorem dX8_checkThing_1 : decode cX8_checkThing 1 = .ok (.ifCond .lt 17, 3) := by decide +kernel
theorem dX8_checkThing_4 : decode cX8_checkThing 4 = .ok (.iload_n 1, 1) := by decide +kernel
theorem dX8_checkThing_5 : decode cX8_checkThing 5 = .ok (.aload_n 0, 1) := by decide +kernel
theorem dX8_checkThing_6 : decode cX8_checkThing 6 = .ok (.getfield 12, 3) := by decide +kernel
theorem dX8_checkThing_9 : decode cX8_checkThing 9 = .ok (.getfield 136, 3) := by decide +kernel
theorem dX8_checkThing_12 : decode cX8_checkThing 12 = .ok (.getfield 140, 3) := by decide +kernel
theorem dX8_checkThing_15 : decode cX8_checkThing 15 = .ok (.if_icmp .lt 11, 3) := by decide +kernel
theorem dX8_checkThing_18 : decode cX8_checkThing 18 = .ok (.new 302, 3) := by decide +kernel
theorem dX8_checkThing_21 : decode cX8_checkThing 21 = .ok (.dup, 1) := by decide +kernel
theorem dX8_checkThing_22 : decode cX8_checkThing 22 = .ok (.invokespecial 304, 3) := by decide +kernel
theorem dX8_checkThing_25 : decode cX8_checkThing 25 = .ok (.athrow, 1) := by decide +kernel
theorem dX8_checkThing_26 : decode cX8_checkThing 26 = .ok (.return_, 1) := by decide +kernel
theorem dX8_checkBag_0 : decode cX8_checkBag 0 = .ok (.aload_n 0, 1) := by decide +kernel
theorem dX8_checkBag_1 : decode cX8_checkBag 1 = .ok (.getfield 12, 3) := by decide +kernel
theorem dX8_checkBag_4 : decode cX8_checkBag 4 = .ok (.getfield 136, 3) := by decide +kernel
theorem dX8_checkBag_7 : decode cX8_checkBag 7 = .ok (.getfield 220, 3) := by decide +kernel
theorem dX8_checkBag_10 : decode cX8_checkBag 10 = .ok (.iload_n 1, 1) := by decide +kernel
theorem dX8_checkBag_11 : decode cX8_checkBag 11 = .ok (.invokestatic 94, 3) := by decide +kernel
theorem dX8_checkBag_14 : decode cX8_checkBag 14 = .ok (.bipush 6, 2) := by decide +kernel
theorem dX8_checkBag_16 : decode cX8_checkBag 16 = .ok (.if_icmp .eq 11, 3) := by decide +kernel
theorem dX8_checkBag_19 : decode cX8_checkBag 19 = .ok (.new 207, 3) := by decide +kernel
theorem dX8_checkBag_22 : decode cX8_checkBag 22 = .ok (.dup, 1) := by decide +kernel
theorem dX8_checkBag_23 : decode cX8_checkBag 23 = .ok (.invokespecial 209, 3) := by decide +kernel
theorem dX8_checkBag_26 : decode cX8_checkBag 26 = .ok (.athrow, 1) := by decide +kernel
theorem dX8_checkBag_27 : decode cX8_checkBag 27 = .ok (.return_, 1) := by decide +kernel
theorem dX8_checkInHands_0 : decode cX8_checkInHands 0 = .ok (.aload_n 0, 1) := by decide +kernel
theorem dX8_checkInHands_1 : decode cX8_checkInHands 1 = .ok (.getfield 16, 3) := by decide +kernel
theorem dX8_checkInHands_4 : decode cX8_checkInHands 4 = .ok (.getfield 136, 3) := by decide +kernel
theorem dX8_checkInHands_7 : decode cX8_checkInHands 7 = .ok (.getfield 189, 3) := by decide +kernel
theorem dX8_checkInHands_10 : decode cX8_checkInHands 10 = .ok (.iload_n 1, 1) := by decide +kernel
theorem dX8_checkInHands_11 : decode cX8_checkInHands 11 = .ok (.invokestatic 94, 3) := by decide +kernel
theorem dX8_checkInHands_14 : decode cX8_checkInHands 14 = .ok (.iconst (-1), 1) := by decide +kernel
theorem dX8_checkInHands_15 : decode cX8_checkInHands 15 = .ok (.if_icmp .eq 11, 3) := by decide +kernel
theorem dX8_checkInHands_18 : decode cX8_checkInHands 18 = .ok (.new 196, 3) := by decide +kernel
theorem dX8_checkInHands_21 : decode cX8_checkInHands 21 = .ok (.dup, 1) := by decide +kernel
theorem dX8_checkInHands_22 : decode cX8_checkInHands 22 = .ok (.invokespecial 198, 3) := by decide +kernel
theorem dX8_checkInHands_25 : decode cX8_checkInHands 25 = .ok (.athrow, 1) := by decide +kernel
theorem dX8_checkInHands_26 : decode cX8_checkInHands 26 = .ok (.return_, 1) := by decide +kernel
theorem dX8_checkCarried_0 : decode cX8_checkCarried 0 = .ok (.aload_n 0, 1) := by decide +kernel
theorem dX8_checkCarried_1 : decode cX8_checkCarried 1 = .ok (.getfield 16, 3) := by decide +kernel
theorem dX8_checkCarried_4 : decode cX8_checkCarried 4 = .ok (.getfield 136, 3) := by decide +kernel
theorem dX8_checkCarried_7 : decode cX8_checkCarried 7 = .ok (.iload_n 1, 1) := by decide +kernel
theorem dX8_checkCarried_8 : decode cX8_checkCarried 8 = .ok (.invokevirtual 305, 3) := by decide +kernel
theorem dX8_checkCarried_11 : decode cX8_checkCarried 11 = .ok (.iconst (-1), 1) := by decide +kernel
theorem dX8_checkCarried_12 : decode cX8_checkCarried 12 = .ok (.if_icmp .eq 11, 3) := by decide +kernel
theorem dX8_checkCarried_15 : decode cX8_checkCarried 15 = .ok (.new 196, 3) := by decide +kernel
theorem dX8_checkCarried_18 : decode cX8_checkCarried 18 = .ok (.dup, 1) := by decide +kernel
theorem dX8_checkCarried_19 : decode cX8_checkCarried 19 = .ok (.invokespecial 198, 3) := by decide +kernel
theorem dX8_checkCarried_22 : decode cX8_checkCarried 22 = .ok (.athrow, 1) := by decide +kernel
theorem dX8_checkCarried_23 : decode cX8_checkCarried 23 = .ok (.return_, 1) := by decide +kernel
theorem dX8_checkCreature_0 : decode cX8_checkCreature 0 = .ok (.iload_n 1, 1) := by decide +kernel
theorem dX8_checkCreature_1 : decode cX8_checkCreature 1 = .ok (.iload_n 2, 1) := by decide +kernel
theorem dX8_checkCreature_2 : decode cX8_checkCreature 2 = .ok (.if_icmp .lt 17, 3) := by decide +kernel
theorem dX8_checkCreature_5 : decode cX8_checkCreature 5 = .ok (.iload_n 1, 1) := by decide +kernel
theorem dX8_checkCreature_6 : decode cX8_checkCreature 6 = .ok (.aload_n 0, 1) := by decide +kernel
theorem dX8_checkCreature_7 : decode cX8_checkCreature 7 = .ok (.getfield 12, 3) := by decide +kernel
theorem dX8_checkCreature_10 : decode cX8_checkCreature 10 = .ok (.getfield 111, 3) := by decide +kernel
theorem dX8_checkCreature_13 : decode cX8_checkCreature 13 = .ok (.getfield 123, 3) := by decide +kernel
theorem dX8_checkCreature_16 : decode cX8_checkCreature 16 = .ok (.if_icmp .lt 11, 3) := by decide +kernel
theorem dX8_checkCreature_19 : decode cX8_checkCreature 19 = .ok (.new 302, 3) := by decide +kernel
theorem dX8_checkCreature_22 : decode cX8_checkCreature 22 = .ok (.dup, 1) := by decide +kernel
theorem dX8_checkCreature_23 : decode cX8_checkCreature 23 = .ok (.invokespecial 304, 3) := by decide +kernel
theorem dX8_checkCreature_26 : decode cX8_checkCreature 26 = .ok (.athrow, 1) := by decide +kernel
theorem dX8_checkCreature_27 : decode cX8_checkCreature 27 = .ok (.return_, 1) := by decide +kernel
theorem dX8_checkRoom_0 : decode cX8_checkRoom 0 = .ok (.iload_n 0, 1) := by decide +kernel
theorem dX8_checkRoom_1 : decode cX8_checkRoom 1 = .ok (.iload_n 1, 1) := by decide +kernel
theorem dX8_checkRoom_2 : decode cX8_checkRoom 2 = .ok (.if_icmp .lt 11, 3) := by decide +kernel
theorem dX8_checkRoom_5 : decode cX8_checkRoom 5 = .ok (.new 161, 3) := by decide +kernel
theorem dX8_checkRoom_8 : decode cX8_checkRoom 8 = .ok (.dup, 1) := by decide +kernel
theorem dX8_checkRoom_9 : decode cX8_checkRoom 9 = .ok (.invokespecial 163, 3) := by decide +kernel
theorem dX8_checkRoom_12 : decode cX8_checkRoom 12 = .ok (.athrow, 1) := by decide +kernel
theorem dX8_checkRoom_13 : decode cX8_checkRoom 13 = .ok (.return_, 1) := by decide +kernel
theorem dX8_checkPlace_0 : decode cX8_checkPlace 0 = .ok (.iload_n 0, 1) := by decide +kernel
theorem dX8_checkPlace_1 : decode cX8_checkPlace 1 = .ok (.ifCond .lt 19, 3) := by decide +kernel
theorem dX8_checkPlace_4 : decode cX8_checkPlace 4 = .ok (.iload_n 0, 1) := by decide +kernel
theorem dX8_checkPlace_5 : decode cX8_checkPlace 5 = .ok (.bipush 12, 2) := by decide +kernel
theorem dX8_checkPlace_7 : decode cX8_checkPlace 7 = .ok (.if_icmp .ge 13, 3) := by decide +kernel
theorem dX8_checkPlace_10 : decode cX8_checkPlace 10 = .ok (.iload_n 1, 1) := by decide +kernel
theorem dX8_checkPlace_11 : decode cX8_checkPlace 11 = .ok (.ifCond .lt 9, 3) := by decide +kernel
theorem dX8_checkPlace_14 : decode cX8_checkPlace 14 = .ok (.iload_n 1, 1) := by decide +kernel
theorem dX8_checkPlace_15 : decode cX8_checkPlace 15 = .ok (.bipush 12, 2) := by decide +kernel
theorem dX8_checkPlace_17 : decode cX8_checkPlace 17 = .ok (.if_icmp .lt 11, 3) := by decide +kernel
theorem dX8_checkPlace_20 : decode cX8_checkPlace 20 = .ok (.new 302, 3) := by decide +kernel
theorem dX8_checkPlace_23 : decode cX8_checkPlace 23 = .ok (.dup, 1) := by decide +kernel
theorem dX8_checkPlace_24 : decode cX8_checkPlace 24 = .ok (.invokespecial 304, 3) := by decide +kernel
theorem dX8_checkPlace_27 : decode cX8_checkPlace 27 = .ok (.athrow, 1) := by decide +kernel
theorem dX8_checkPlace_28 : decode cX8_checkPlace 28 = .ok (.return_, 1) := by decide +kernel
theorem dX8_checkWay_0 : decode cX8_checkWay 0 = .ok (.iload_n 0, 1) := by decide +kernel
theorem dX8_checkWay_1 : decode cX8_checkWay 1 = .ok (.iconst 0, 1) := by decide +kernel
theorem dX8_checkWay_2 : decode cX8_checkWay 2 = .ok (.iconst 3, 1) := by decide +kernel
theorem dX8_checkWay_3 : decode cX8_checkWay 3 = .ok (.invokestatic 80, 3) := by decide +kernel
theorem dX8_checkWay_6 : decode cX8_checkWay 6 = .ok (.return_, 1) := by decide +kernel
theorem dX8_checkRange_0 : decode cX8_checkRange 0 = .ok (.iload_n 0, 1) := by decide +kernel
theorem dX8_checkRange_1 : decode cX8_checkRange 1 = .ok (.iload_n 1, 1) := by decide +kernel
theorem dX8_checkRange_2 : decode cX8_checkRange 2 = .ok (.if_icmp .lt 8, 3) := by decide +kernel
theorem dX8_checkRange_5 : decode cX8_checkRange 5 = .ok (.iload_n 0, 1) := by decide +kernel
theorem dX8_checkRange_6 : decode cX8_checkRange 6 = .ok (.iload_n 2, 1) := by decide +kernel
theorem dX8_checkRange_7 : decode cX8_checkRange 7 = .ok (.if_icmp .le 11, 3) := by decide +kernel
theorem dX8_checkRange_10 : decode cX8_checkRange 10 = .ok (.new 56, 3) := by decide +kernel
theorem dX8_checkRange_13 : decode cX8_checkRange 13 = .ok (.dup, 1) := by decide +kernel
theorem dX8_checkRange_14 : decode cX8_checkRange 14 = .ok (.invokespecial 58, 3) := by decide +kernel
theorem dX8_checkRange_17 : decode cX8_checkRange 17 = .ok (.athrow, 1) := by decide +kernel
theorem dX8_checkRange_18 : decode cX8_checkRange 18 = .ok (.return_, 1) := by decide +kernel
theorem dX8_spot_0 : decode cX8_spot 0 = .ok (.bipush 12, 2) := by decide +kernel
theorem dX8_spot_2 : decode cX8_spot 2 = .ok (.iload_n 0, 1) := by decide +kernel
theorem dX8_spot_3 : decode cX8_spot 3 = .ok (.imul, 1) := by decide +kernel
theorem dX8_spot_4 : decode cX8_spot 4 = .ok (.iload_n 1, 1) := by decide +kernel
theorem dX8_spot_5 : decode cX8_spot 5 = .ok (.iadd, 1) := by decide +kernel
theorem dX8_spot_6 : decode cX8_spot 6 = .ok (.ireturn, 1) := by decide +kernel
theorem dX8_shownPlace_0 : decode cX8_shownPlace 0 = .ok (.bipush 100, 2) := by decide +kernel
theorem dX8_shownPlace_2 : decode cX8_shownPlace 2 = .ok (.iload_n 0, 1) := by decide +kernel
theorem dX8_shownPlace_3 : decode cX8_shownPlace 3 = .ok (.bipush 12, 2) := by decide +kernel
theorem dX8_shownPlace_5 : decode cX8_shownPlace 5 = .ok (.idiv, 1) := by decide +kernel
theorem dX8_shownPlace_6 : decode cX8_shownPlace 6 = .ok (.imul, 1) := by decide +kernel
theorem dX8_shownPlace_7 : decode cX8_shownPlace 7 = .ok (.iload_n 0, 1) := by decide +kernel
theorem dX8_shownPlace_8 : decode cX8_shownPlace 8 = .ok (.bipush 12, 2) := by decide +kernel
theorem dX8_shownPlace_10 : decode cX8_shownPlace 10 = .ok (.irem, 1) := by decide +kernel
theorem dX8_shownPlace_11 : decode cX8_shownPlace 11 = .ok (.iadd, 1) := by decide +kernel
theorem dX8_shownPlace_12 : decode cX8_shownPlace 12 = .ok (.ireturn, 1) := by decide +kernel
theorem dX8_beside_0 : decode cX8_beside 0 = .ok (.iload_n 1, 1) := by decide +kernel
theorem dX8_beside_1 : decode cX8_beside 1 = .ok (.tableswitch 97 0 3 #[31, 46, 65, 82], 31) := by decide +kernel
theorem dX8_beside_32 : decode cX8_beside 32 = .ok (.iload_n 0, 1) := by decide +kernel
theorem dX8_beside_33 : decode cX8_beside 33 = .ok (.bipush 12, 2) := by decide +kernel
theorem dX8_beside_35 : decode cX8_beside 35 = .ok (.irem, 1) := by decide +kernel
theorem dX8_beside_36 : decode cX8_beside 36 = .ok (.ifCond .ne 7, 3) := by decide +kernel
theorem dX8_beside_39 : decode cX8_beside 39 = .ok (.iconst (-1), 1) := by decide +kernel
theorem dX8_beside_40 : decode cX8_beside 40 = .ok (.goto 6, 3) := by decide +kernel
theorem dX8_beside_43 : decode cX8_beside 43 = .ok (.iload_n 0, 1) := by decide +kernel
theorem dX8_beside_44 : decode cX8_beside 44 = .ok (.iconst 1, 1) := by decide +kernel
theorem dX8_beside_45 : decode cX8_beside 45 = .ok (.isub, 1) := by decide +kernel
theorem dX8_beside_46 : decode cX8_beside 46 = .ok (.ireturn, 1) := by decide +kernel
theorem dX8_beside_47 : decode cX8_beside 47 = .ok (.iload_n 0, 1) := by decide +kernel
theorem dX8_beside_48 : decode cX8_beside 48 = .ok (.bipush 12, 2) := by decide +kernel
theorem dX8_beside_50 : decode cX8_beside 50 = .ok (.iadd, 1) := by decide +kernel
theorem dX8_beside_51 : decode cX8_beside 51 = .ok (.sipush 144, 3) := by decide +kernel
theorem dX8_beside_54 : decode cX8_beside 54 = .ok (.if_icmp .ge 10, 3) := by decide +kernel
theorem dX8_beside_57 : decode cX8_beside 57 = .ok (.iload_n 0, 1) := by decide +kernel
theorem dX8_beside_58 : decode cX8_beside 58 = .ok (.bipush 12, 2) := by decide +kernel
theorem dX8_beside_60 : decode cX8_beside 60 = .ok (.iadd, 1) := by decide +kernel
theorem dX8_beside_61 : decode cX8_beside 61 = .ok (.goto 4, 3) := by decide +kernel
theorem dX8_beside_64 : decode cX8_beside 64 = .ok (.iconst (-1), 1) := by decide +kernel
theorem dX8_beside_65 : decode cX8_beside 65 = .ok (.ireturn, 1) := by decide +kernel
theorem dX8_beside_66 : decode cX8_beside 66 = .ok (.iload_n 0, 1) := by decide +kernel
theorem dX8_beside_67 : decode cX8_beside 67 = .ok (.bipush 12, 2) := by decide +kernel
theorem dX8_beside_69 : decode cX8_beside 69 = .ok (.irem, 1) := by decide +kernel
theorem dX8_beside_70 : decode cX8_beside 70 = .ok (.bipush 11, 2) := by decide +kernel
theorem dX8_beside_72 : decode cX8_beside 72 = .ok (.if_icmp .ne 7, 3) := by decide +kernel
theorem dX8_beside_75 : decode cX8_beside 75 = .ok (.iconst (-1), 1) := by decide +kernel
theorem dX8_beside_76 : decode cX8_beside 76 = .ok (.goto 6, 3) := by decide +kernel
theorem dX8_beside_79 : decode cX8_beside 79 = .ok (.iload_n 0, 1) := by decide +kernel
theorem dX8_beside_80 : decode cX8_beside 80 = .ok (.iconst 1, 1) := by decide +kernel
theorem dX8_beside_81 : decode cX8_beside 81 = .ok (.iadd, 1) := by decide +kernel
theorem dX8_beside_82 : decode cX8_beside 82 = .ok (.ireturn, 1) := by decide +kernel
theorem dX8_beside_83 : decode cX8_beside 83 = .ok (.iload_n 0, 1) := by decide +kernel
theorem dX8_beside_84 : decode cX8_beside 84 = .ok (.bipush 12, 2) := by decide +kernel
theorem dX8_beside_86 : decode cX8_beside 86 = .ok (.if_icmp .lt 10, 3) := by decide +kernel
theorem dX8_beside_89 : decode cX8_beside 89 = .ok (.iload_n 0, 1) := by decide +kernel
theorem dX8_beside_90 : decode cX8_beside 90 = .ok (.bipush 12, 2) := by decide +kernel
theorem dX8_beside_92 : decode cX8_beside 92 = .ok (.isub, 1) := by decide +kernel
theorem dX8_beside_93 : decode cX8_beside 93 = .ok (.goto 4, 3) := by decide +kernel
theorem dX8_beside_96 : decode cX8_beside 96 = .ok (.iconst (-1), 1) := by decide +kernel
theorem dX8_beside_97 : decode cX8_beside 97 = .ok (.ireturn, 1) := by decide +kernel
theorem dX8_beside_98 : decode cX8_beside 98 = .ok (.iconst (-1), 1) := by decide +kernel
theorem dX8_beside_99 : decode cX8_beside 99 = .ok (.ireturn, 1) := by decide +kernel
theorem dX8_areNeighbours_0 : decode cX8_areNeighbours 0 = .ok (.iload_n 0, 1) := by decide +kernel
theorem dX8_areNeighbours_1 : decode cX8_areNeighbours 1 = .ok (.bipush 12, 2) := by decide +kernel
theorem dX8_areNeighbours_3 : decode cX8_areNeighbours 3 = .ok (.idiv, 1) := by decide +kernel
theorem dX8_areNeighbours_4 : decode cX8_areNeighbours 4 = .ok (.iload_n 1, 1) := by decide +kernel
theorem dX8_areNeighbours_5 : decode cX8_areNeighbours 5 = .ok (.bipush 12, 2) := by decide +kernel
theorem dX8_areNeighbours_7 : decode cX8_areNeighbours 7 = .ok (.idiv, 1) := by decide +kernel
theorem dX8_areNeighbours_8 : decode cX8_areNeighbours 8 = .ok (.isub, 1) := by decide +kernel
theorem dX8_areNeighbours_9 : decode cX8_areNeighbours 9 = .ok (.istore_n 2, 1) := by decide +kernel
theorem dX8_areNeighbours_10 : decode cX8_areNeighbours 10 = .ok (.iload_n 0, 1) := by decide +kernel
theorem dX8_areNeighbours_11 : decode cX8_areNeighbours 11 = .ok (.bipush 12, 2) := by decide +kernel
theorem dX8_areNeighbours_13 : decode cX8_areNeighbours 13 = .ok (.irem, 1) := by decide +kernel
theorem dX8_areNeighbours_14 : decode cX8_areNeighbours 14 = .ok (.iload_n 1, 1) := by decide +kernel
theorem dX8_areNeighbours_15 : decode cX8_areNeighbours 15 = .ok (.bipush 12, 2) := by decide +kernel
theorem dX8_areNeighbours_17 : decode cX8_areNeighbours 17 = .ok (.irem, 1) := by decide +kernel
theorem dX8_areNeighbours_18 : decode cX8_areNeighbours 18 = .ok (.isub, 1) := by decide +kernel
theorem dX8_areNeighbours_19 : decode cX8_areNeighbours 19 = .ok (.istore_n 3, 1) := by decide +kernel
theorem dX8_areNeighbours_20 : decode cX8_areNeighbours 20 = .ok (.iload_n 2, 1) := by decide +kernel
theorem dX8_areNeighbours_21 : decode cX8_areNeighbours 21 = .ok (.iload_n 2, 1) := by decide +kernel
theorem dX8_areNeighbours_22 : decode cX8_areNeighbours 22 = .ok (.imul, 1) := by decide +kernel
theorem dX8_areNeighbours_23 : decode cX8_areNeighbours 23 = .ok (.iload_n 3, 1) := by decide +kernel
theorem dX8_areNeighbours_24 : decode cX8_areNeighbours 24 = .ok (.iload_n 3, 1) := by decide +kernel
theorem dX8_areNeighbours_25 : decode cX8_areNeighbours 25 = .ok (.imul, 1) := by decide +kernel
theorem dX8_areNeighbours_26 : decode cX8_areNeighbours 26 = .ok (.iadd, 1) := by decide +kernel
theorem dX8_areNeighbours_27 : decode cX8_areNeighbours 27 = .ok (.iconst 1, 1) := by decide +kernel
theorem dX8_areNeighbours_28 : decode cX8_areNeighbours 28 = .ok (.if_icmp .ne 7, 3) := by decide +kernel
theorem dX8_areNeighbours_31 : decode cX8_areNeighbours 31 = .ok (.iconst 1, 1) := by decide +kernel
theorem dX8_areNeighbours_32 : decode cX8_areNeighbours 32 = .ok (.goto 4, 3) := by decide +kernel
theorem dX8_areNeighbours_35 : decode cX8_areNeighbours 35 = .ok (.iconst 0, 1) := by decide +kernel
theorem dX8_areNeighbours_36 : decode cX8_areNeighbours 36 = .ok (.ireturn, 1) := by decide +kernel
theorem dX8_gap_0 : decode cX8_gap 0 = .ok (.iload_n 0, 1) := by decide +kernel
theorem dX8_gap_1 : decode cX8_gap 1 = .ok (.bipush 12, 2) := by decide +kernel
theorem dX8_gap_3 : decode cX8_gap 3 = .ok (.idiv, 1) := by decide +kernel
theorem dX8_gap_4 : decode cX8_gap 4 = .ok (.iload_n 1, 1) := by decide +kernel
theorem dX8_gap_5 : decode cX8_gap 5 = .ok (.bipush 12, 2) := by decide +kernel
theorem dX8_gap_7 : decode cX8_gap 7 = .ok (.idiv, 1) := by decide +kernel
theorem dX8_gap_8 : decode cX8_gap 8 = .ok (.isub, 1) := by decide +kernel
theorem dX8_gap_9 : decode cX8_gap 9 = .ok (.invokestatic 308, 3) := by decide +kernel
theorem dX8_gap_12 : decode cX8_gap 12 = .ok (.istore_n 2, 1) := by decide +kernel
theorem dX8_gap_13 : decode cX8_gap 13 = .ok (.iload_n 0, 1) := by decide +kernel
theorem dX8_gap_14 : decode cX8_gap 14 = .ok (.bipush 12, 2) := by decide +kernel
theorem dX8_gap_16 : decode cX8_gap 16 = .ok (.irem, 1) := by decide +kernel
theorem dX8_gap_17 : decode cX8_gap 17 = .ok (.iload_n 1, 1) := by decide +kernel
theorem dX8_gap_18 : decode cX8_gap 18 = .ok (.bipush 12, 2) := by decide +kernel
theorem dX8_gap_20 : decode cX8_gap 20 = .ok (.irem, 1) := by decide +kernel
theorem dX8_gap_21 : decode cX8_gap 21 = .ok (.isub, 1) := by decide +kernel
theorem dX8_gap_22 : decode cX8_gap 22 = .ok (.invokestatic 308, 3) := by decide +kernel
theorem dX8_gap_25 : decode cX8_gap 25 = .ok (.istore_n 3, 1) := by decide +kernel
theorem dX8_gap_26 : decode cX8_gap 26 = .ok (.iload_n 2, 1) := by decide +kernel
theorem dX8_gap_27 : decode cX8_gap 27 = .ok (.iload_n 3, 1) := by decide +kernel
theorem dX8_gap_28 : decode cX8_gap 28 = .ok (.invokestatic 313, 3) := by decide +kernel
theorem dX8_gap_31 : decode cX8_gap 31 = .ok (.ireturn, 1) := by decide +kernel
theorem dX8_isPotion_0 : decode cX8_isPotion 0 = .ok (.iload_n 0, 1) := by decide +kernel
theorem dX8_isPotion_1 : decode cX8_isPotion 1 = .ok (.iconst 3, 1) := by decide +kernel
theorem dX8_isPotion_2 : decode cX8_isPotion 2 = .ok (.if_icmp .lt 12, 3) := by decide +kernel
theorem dX8_isPotion_5 : decode cX8_isPotion 5 = .ok (.iload_n 0, 1) := by decide +kernel
theorem dX8_isPotion_6 : decode cX8_isPotion 6 = .ok (.iconst 5, 1) := by decide +kernel
theorem dX8_isPotion_7 : decode cX8_isPotion 7 = .ok (.if_icmp .gt 7, 3) := by decide +kernel
theorem dX8_isPotion_10 : decode cX8_isPotion 10 = .ok (.iconst 1, 1) := by decide +kernel
theorem dX8_isPotion_11 : decode cX8_isPotion 11 = .ok (.goto 4, 3) := by decide +kernel
theorem dX8_isPotion_14 : decode cX8_isPotion 14 = .ok (.iconst 0, 1) := by decide +kernel
theorem dX8_isPotion_15 : decode cX8_isPotion 15 = .ok (.ireturn, 1) := by decide +kernel
theorem dX8_isFree_0 : decode cX8_isFree 0 = .ok (.iload_n 0, 1) := by decide +kernel
theorem dX8_isFree_1 : decode cX8_isFree 1 = .ok (.bipush 46, 2) := by decide +kernel
theorem dX8_isFree_3 : decode cX8_isFree 3 = .ok (.if_icmp .eq 15, 3) := by decide +kernel
theorem dX8_isFree_6 : decode cX8_isFree 6 = .ok (.iload_n 0, 1) := by decide +kernel
theorem dX8_isFree_7 : decode cX8_isFree 7 = .ok (.bipush 126, 2) := by decide +kernel
theorem dX8_isFree_9 : decode cX8_isFree 9 = .ok (.if_icmp .eq 9, 3) := by decide +kernel
theorem dX8_isFree_12 : decode cX8_isFree 12 = .ok (.iload_n 0, 1) := by decide +kernel
theorem dX8_isFree_13 : decode cX8_isFree 13 = .ok (.bipush 47, 2) := by decide +kernel
theorem dX8_isFree_15 : decode cX8_isFree 15 = .ok (.if_icmp .ne 7, 3) := by decide +kernel
theorem dX8_isFree_18 : decode cX8_isFree 18 = .ok (.iconst 1, 1) := by decide +kernel
theorem dX8_isFree_19 : decode cX8_isFree 19 = .ok (.goto 4, 3) := by decide +kernel
theorem dX8_isFree_22 : decode cX8_isFree 22 = .ok (.iconst 0, 1) := by decide +kernel
theorem dX8_isFree_23 : decode cX8_isFree 23 = .ok (.ireturn, 1) := by decide +kernel
theorem dX8_at_0 : decode cX8_at 0 = .ok (.iload_n 1, 1) := by decide +kernel
theorem dX8_at_1 : decode cX8_at 1 = .ok (.ifCond .lt 15, 3) := by decide +kernel
theorem dX8_at_4 : decode cX8_at 4 = .ok (.iload_n 1, 1) := by decide +kernel
theorem dX8_at_5 : decode cX8_at 5 = .ok (.aload_n 0, 1) := by decide +kernel
theorem dX8_at_6 : decode cX8_at 6 = .ok (.arraylength, 1) := by decide +kernel
theorem dX8_at_7 : decode cX8_at 7 = .ok (.if_icmp .ge 9, 3) := by decide +kernel
theorem dX8_at_10 : decode cX8_at 10 = .ok (.aload_n 0, 1) := by decide +kernel
theorem dX8_at_11 : decode cX8_at 11 = .ok (.iload_n 1, 1) := by decide +kernel
theorem dX8_at_12 : decode cX8_at 12 = .ok (.iaload, 1) := by decide +kernel
theorem dX8_at_13 : decode cX8_at 13 = .ok (.goto 4, 3) := by decide +kernel
theorem dX8_at_16 : decode cX8_at 16 = .ok (.iconst 0, 1) := by decide +kernel
theorem dX8_at_17 : decode cX8_at 17 = .ok (.ireturn, 1) := by decide +kernel
theorem dX8_put_0 : decode cX8_put 0 = .ok (.iload_n 1, 1) := by decide +kernel
theorem dX8_put_1 : decode cX8_put 1 = .ok (.ifCond .lt 13, 3) := by decide +kernel
theorem dX8_put_4 : decode cX8_put 4 = .ok (.iload_n 1, 1) := by decide +kernel
theorem dX8_put_5 : decode cX8_put 5 = .ok (.aload_n 0, 1) := by decide +kernel
theorem dX8_put_6 : decode cX8_put 6 = .ok (.arraylength, 1) := by decide +kernel
theorem dX8_put_7 : decode cX8_put 7 = .ok (.if_icmp .ge 7, 3) := by decide +kernel
theorem dX8_put_10 : decode cX8_put 10 = .ok (.aload_n 0, 1) := by decide +kernel
theorem dX8_put_11 : decode cX8_put 11 = .ok (.iload_n 1, 1) := by decide +kernel
theorem dX8_put_12 : decode cX8_put 12 = .ok (.iload_n 2, 1) := by decide +kernel
theorem dX8_put_13 : decode cX8_put 13 = .ok (.iastore, 1) := by decide +kernel
theorem dX8_put_14 : decode cX8_put 14 = .ok (.return_, 1) := by decide +kernel
theorem dX8_copyRow_0 : decode cX8_copyRow 0 = .ok (.aload_n 0, 1) := by decide +kernel
theorem dX8_copyRow_1 : decode cX8_copyRow 1 = .ok (.iconst 0, 1) := by decide +kernel
theorem dX8_copyRow_2 : decode cX8_copyRow 2 = .ok (.aload_n 1, 1) := by decide +kernel
theorem dX8_copyRow_3 : decode cX8_copyRow 3 = .ok (.iconst 0, 1) := by decide +kernel
theorem dX8_copyRow_4 : decode cX8_copyRow 4 = .ok (.aload_n 0, 1) := by decide +kernel
theorem dX8_copyRow_5 : decode cX8_copyRow 5 = .ok (.arraylength, 1) := by decide +kernel
theorem dX8_copyRow_6 : decode cX8_copyRow 6 = .ok (.aload_n 1, 1) := by decide +kernel
theorem dX8_copyRow_7 : decode cX8_copyRow 7 = .ok (.arraylength, 1) := by decide +kernel
theorem dX8_copyRow_8 : decode cX8_copyRow 8 = .ok (.invokestatic 316, 3) := by decide +kernel
theorem dX8_copyRow_11 : decode cX8_copyRow 11 = .ok (.invokestatic 319, 3) := by decide +kernel
theorem dX8_copyRow_14 : decode cX8_copyRow 14 = .ok (.return_, 1) := by decide +kernel
theorem dX9_init_0 : decode cX9_init 0 = .ok (.aload_n 0, 1) := by decide +kernel
theorem dX9_init_1 : decode cX9_init 1 = .ok (.invokespecial 1, 3) := by decide +kernel
theorem dX9_init_4 : decode cX9_init 4 = .ok (.aload_n 0, 1) := by decide +kernel
theorem dX9_init_5 : decode cX9_init 5 = .ok (.bipush 110, 2) := by decide +kernel
theorem dX9_init_7 : decode cX9_init 7 = .ok (.putfield 7, 3) := by decide +kernel
theorem dX9_init_10 : decode cX9_init 10 = .ok (.aload_n 0, 1) := by decide +kernel
theorem dX9_init_11 : decode cX9_init 11 = .ok (.sipush 144, 3) := by decide +kernel
theorem dX9_init_14 : decode cX9_init 14 = .ok (.newarray .char, 2) := by decide +kernel
theorem dX9_init_16 : decode cX9_init 16 = .ok (.putfield 13, 3) := by decide +kernel
theorem dX9_init_19 : decode cX9_init 19 = .ok (.aload_n 0, 1) := by decide +kernel
theorem dX9_init_20 : decode cX9_init 20 = .ok (.bipush 8, 2) := by decide +kernel
theorem dX9_init_22 : decode cX9_init 22 = .ok (.newarray .int, 2) := by decide +kernel
theorem dX9_init_24 : decode cX9_init 24 = .ok (.putfield 17, 3) := by decide +kernel
theorem dX9_init_27 : decode cX9_init 27 = .ok (.aload_n 0, 1) := by decide +kernel
theorem dX9_init_28 : decode cX9_init 28 = .ok (.bipush 8, 2) := by decide +kernel
theorem dX9_init_30 : decode cX9_init 30 = .ok (.newarray .boolean, 2) := by decide +kernel
theorem dX9_init_32 : decode cX9_init 32 = .ok (.putfield 21, 3) := by decide +kernel
theorem dX9_init_35 : decode cX9_init 35 = .ok (.aload_n 0, 1) := by decide +kernel
theorem dX9_init_36 : decode cX9_init 36 = .ok (.bipush 8, 2) := by decide +kernel
theorem dX9_init_38 : decode cX9_init 38 = .ok (.newarray .char, 2) := by decide +kernel
theorem dX9_init_40 : decode cX9_init 40 = .ok (.putfield 25, 3) := by decide +kernel
theorem dX9_init_43 : decode cX9_init 43 = .ok (.aload_n 0, 1) := by decide +kernel
theorem dX9_init_44 : decode cX9_init 44 = .ok (.bipush 8, 2) := by decide +kernel
theorem dX9_init_46 : decode cX9_init 46 = .ok (.newarray .int, 2) := by decide +kernel
theorem dX9_init_48 : decode cX9_init 48 = .ok (.putfield 28, 3) := by decide +kernel
theorem dX9_init_51 : decode cX9_init 51 = .ok (.aload_n 0, 1) := by decide +kernel
theorem dX9_init_52 : decode cX9_init 52 = .ok (.bipush 8, 2) := by decide +kernel
theorem dX9_init_54 : decode cX9_init 54 = .ok (.newarray .int, 2) := by decide +kernel
theorem dX9_init_56 : decode cX9_init 56 = .ok (.putfield 31, 3) := by decide +kernel
theorem dX9_init_59 : decode cX9_init 59 = .ok (.aload_n 0, 1) := by decide +kernel
theorem dX9_init_60 : decode cX9_init 60 = .ok (.iconst 1, 1) := by decide +kernel
theorem dX9_init_61 : decode cX9_init 61 = .ok (.putfield 34, 3) := by decide +kernel
theorem dX9_init_64 : decode cX9_init 64 = .ok (.aload_n 0, 1) := by decide +kernel
theorem dX9_init_65 : decode cX9_init 65 = .ok (.bipush 8, 2) := by decide +kernel
theorem dX9_init_67 : decode cX9_init 67 = .ok (.newarray .int, 2) := by decide +kernel
theorem dX9_init_69 : decode cX9_init 69 = .ok (.putfield 38, 3) := by decide +kernel
theorem dX9_init_72 : decode cX9_init 72 = .ok (.aload_n 0, 1) := by decide +kernel
theorem dX9_init_73 : decode cX9_init 73 = .ok (.bipush 8, 2) := by decide +kernel
theorem dX9_init_75 : decode cX9_init 75 = .ok (.newarray .int, 2) := by decide +kernel
theorem dX9_init_77 : decode cX9_init 77 = .ok (.putfield 41, 3) := by decide +kernel
theorem dX9_init_80 : decode cX9_init 80 = .ok (.aload_n 0, 1) := by decide +kernel
theorem dX9_init_81 : decode cX9_init 81 = .ok (.bipush 8, 2) := by decide +kernel
theorem dX9_init_83 : decode cX9_init 83 = .ok (.newarray .int, 2) := by decide +kernel
theorem dX9_init_85 : decode cX9_init 85 = .ok (.putfield 44, 3) := by decide +kernel
theorem dX9_init_88 : decode cX9_init 88 = .ok (.aload_n 0, 1) := by decide +kernel
theorem dX9_init_89 : decode cX9_init 89 = .ok (.bipush 8, 2) := by decide +kernel
theorem dX9_init_91 : decode cX9_init 91 = .ok (.newarray .int, 2) := by decide +kernel
theorem dX9_init_93 : decode cX9_init 93 = .ok (.putfield 47, 3) := by decide +kernel
theorem dX9_init_96 : decode cX9_init 96 = .ok (.aload_n 0, 1) := by decide +kernel
theorem dX9_init_97 : decode cX9_init 97 = .ok (.bipush 24, 2) := by decide +kernel
theorem dX9_init_99 : decode cX9_init 99 = .ok (.newarray .int, 2) := by decide +kernel
theorem dX9_init_101 : decode cX9_init 101 = .ok (.putfield 50, 3) := by decide +kernel
theorem dX9_init_104 : decode cX9_init 104 = .ok (.aload_n 0, 1) := by decide +kernel
theorem dX9_init_105 : decode cX9_init 105 = .ok (.bipush 24, 2) := by decide +kernel
theorem dX9_init_107 : decode cX9_init 107 = .ok (.newarray .int, 2) := by decide +kernel
theorem dX9_init_109 : decode cX9_init 109 = .ok (.putfield 53, 3) := by decide +kernel
theorem dX9_init_112 : decode cX9_init 112 = .ok (.aload_n 0, 1) := by decide +kernel
theorem dX9_init_113 : decode cX9_init 113 = .ok (.iconst 4, 1) := by decide +kernel
theorem dX9_init_114 : decode cX9_init 114 = .ok (.newarray .int, 2) := by decide +kernel
theorem dX9_init_116 : decode cX9_init 116 = .ok (.putfield 56, 3) := by decide +kernel
theorem dX9_init_119 : decode cX9_init 119 = .ok (.aload_n 0, 1) := by decide +kernel
theorem dX9_init_120 : decode cX9_init 120 = .ok (.iconst 4, 1) := by decide +kernel
theorem dX9_init_121 : decode cX9_init 121 = .ok (.newarray .int, 2) := by decide +kernel
theorem dX9_init_123 : decode cX9_init 123 = .ok (.putfield 59, 3) := by decide +kernel
theorem dX9_init_126 : decode cX9_init 126 = .ok (.aload_n 0, 1) := by decide +kernel
theorem dX9_init_127 : decode cX9_init 127 = .ok (.sipush 144, 3) := by decide +kernel
theorem dX9_init_130 : decode cX9_init 130 = .ok (.newarray .char, 2) := by decide +kernel
theorem dX9_init_132 : decode cX9_init 132 = .ok (.putfield 62, 3) := by decide +kernel
theorem dX9_init_135 : decode cX9_init 135 = .ok (.aload_n 0, 1) := by decide +kernel
theorem dX9_init_136 : decode cX9_init 136 = .ok (.bipush 8, 2) := by decide +kernel
theorem dX9_init_138 : decode cX9_init 138 = .ok (.newarray .int, 2) := by decide +kernel
theorem dX9_init_140 : decode cX9_init 140 = .ok (.putfield 65, 3) := by decide +kernel
theorem dX9_init_143 : decode cX9_init 143 = .ok (.aload_n 0, 1) := by decide +kernel
theorem dX9_init_144 : decode cX9_init 144 = .ok (.bipush 8, 2) := by decide +kernel
theorem dX9_init_146 : decode cX9_init 146 = .ok (.newarray .int, 2) := by decide +kernel
theorem dX9_init_148 : decode cX9_init 148 = .ok (.putfield 68, 3) := by decide +kernel
theorem dX9_init_151 : decode cX9_init 151 = .ok (.aload_n 0, 1) := by decide +kernel
theorem dX9_init_152 : decode cX9_init 152 = .ok (.bipush 8, 2) := by decide +kernel
theorem dX9_init_154 : decode cX9_init 154 = .ok (.newarray .int, 2) := by decide +kernel
theorem dX9_init_156 : decode cX9_init 156 = .ok (.putfield 71, 3) := by decide +kernel
theorem dX9_init_159 : decode cX9_init 159 = .ok (.aload_n 0, 1) := by decide +kernel
theorem dX9_init_160 : decode cX9_init 160 = .ok (.bipush 8, 2) := by decide +kernel
theorem dX9_init_162 : decode cX9_init 162 = .ok (.newarray .int, 2) := by decide +kernel
theorem dX9_init_164 : decode cX9_init 164 = .ok (.putfield 74, 3) := by decide +kernel
theorem dX9_init_167 : decode cX9_init 167 = .ok (.aload_n 0, 1) := by decide +kernel
theorem dX9_init_168 : decode cX9_init 168 = .ok (.bipush 8, 2) := by decide +kernel
theorem dX9_init_170 : decode cX9_init 170 = .ok (.newarray .int, 2) := by decide +kernel
theorem dX9_init_172 : decode cX9_init 172 = .ok (.putfield 77, 3) := by decide +kernel
theorem dX9_init_175 : decode cX9_init 175 = .ok (.aload_n 0, 1) := by decide +kernel
theorem dX9_init_176 : decode cX9_init 176 = .ok (.bipush 8, 2) := by decide +kernel
theorem dX9_init_178 : decode cX9_init 178 = .ok (.newarray .int, 2) := by decide +kernel
theorem dX9_init_180 : decode cX9_init 180 = .ok (.putfield 80, 3) := by decide +kernel
theorem dX9_init_183 : decode cX9_init 183 = .ok (.aload_n 0, 1) := by decide +kernel
theorem dX9_init_184 : decode cX9_init 184 = .ok (.bipush 24, 2) := by decide +kernel
theorem dX9_init_186 : decode cX9_init 186 = .ok (.newarray .int, 2) := by decide +kernel
theorem dX9_init_188 : decode cX9_init 188 = .ok (.putfield 83, 3) := by decide +kernel
theorem dX9_init_191 : decode cX9_init 191 = .ok (.aload_n 0, 1) := by decide +kernel
theorem dX9_init_192 : decode cX9_init 192 = .ok (.bipush 8, 2) := by decide +kernel
theorem dX9_init_194 : decode cX9_init 194 = .ok (.newarray .boolean, 2) := by decide +kernel
theorem dX9_init_196 : decode cX9_init 196 = .ok (.putfield 86, 3) := by decide +kernel
theorem dX9_init_199 : decode cX9_init 199 = .ok (.aload_n 0, 1) := by decide +kernel
theorem dX9_init_200 : decode cX9_init 200 = .ok (.iconst (-1), 1) := by decide +kernel
theorem dX9_init_201 : decode cX9_init 201 = .ok (.putfield 89, 3) := by decide +kernel
theorem dX9_init_204 : decode cX9_init 204 = .ok (.aload_n 0, 1) := by decide +kernel
theorem dX9_init_205 : decode cX9_init 205 = .ok (.bipush 24, 2) := by decide +kernel
theorem dX9_init_207 : decode cX9_init 207 = .ok (.newarray .boolean, 2) := by decide +kernel
theorem dX9_init_209 : decode cX9_init 209 = .ok (.putfield 92, 3) := by decide +kernel
theorem dX9_init_212 : decode cX9_init 212 = .ok (.aload_n 0, 1) := by decide +kernel
theorem dX9_init_213 : decode cX9_init 213 = .ok (.bipush 24, 2) := by decide +kernel
theorem dX9_init_215 : decode cX9_init 215 = .ok (.newarray .int, 2) := by decide +kernel
theorem dX9_init_217 : decode cX9_init 217 = .ok (.putfield 95, 3) := by decide +kernel
theorem dX9_init_220 : decode cX9_init 220 = .ok (.aload_n 0, 1) := by decide +kernel
theorem dX9_init_221 : decode cX9_init 221 = .ok (.sipush 144, 3) := by decide +kernel
theorem dX9_init_224 : decode cX9_init 224 = .ok (.newarray .int, 2) := by decide +kernel
theorem dX9_init_226 : decode cX9_init 226 = .ok (.putfield 98, 3) := by decide +kernel
theorem dX9_init_229 : decode cX9_init 229 = .ok (.aload_n 0, 1) := by decide +kernel
theorem dX9_init_230 : decode cX9_init 230 = .ok (.sipush 144, 3) := by decide +kernel
theorem dX9_init_233 : decode cX9_init 233 = .ok (.newarray .boolean, 2) := by decide +kernel
theorem dX9_init_235 : decode cX9_init 235 = .ok (.putfield 101, 3) := by decide +kernel
theorem dX9_init_238 : decode cX9_init 238 = .ok (.iconst 0, 1) := by decide +kernel
theorem dX9_init_239 : decode cX9_init 239 = .ok (.istore_n 1, 1) := by decide +kernel
theorem dX9_init_240 : decode cX9_init 240 = .ok (.iload_n 1, 1) := by decide +kernel
theorem dX9_init_241 : decode cX9_init 241 = .ok (.sipush 144, 3) := by decide +kernel
theorem dX9_init_244 : decode cX9_init 244 = .ok (.if_icmp .ge 17, 3) := by decide +kernel
theorem dX9_init_247 : decode cX9_init 247 = .ok (.aload_n 0, 1) := by decide +kernel
theorem dX9_init_248 : decode cX9_init 248 = .ok (.getfield 13, 3) := by decide +kernel
theorem dX9_init_251 : decode cX9_init 251 = .ok (.iload_n 1, 1) := by decide +kernel
theorem dX9_init_252 : decode cX9_init 252 = .ok (.bipush 35, 2) := by decide +kernel
theorem dX9_init_254 : decode cX9_init 254 = .ok (.castore, 1) := by decide +kernel
theorem dX9_init_255 : decode cX9_init 255 = .ok (.iinc 1 1, 3) := by decide +kernel
theorem dX9_init_258 : decode cX9_init 258 = .ok (.goto (-18), 3) := by decide +kernel
theorem dX9_init_261 : decode cX9_init 261 = .ok (.iconst 0, 1) := by decide +kernel
theorem dX9_init_262 : decode cX9_init 262 = .ok (.istore_n 1, 1) := by decide +kernel
theorem dX9_init_263 : decode cX9_init 263 = .ok (.iload_n 1, 1) := by decide +kernel
theorem dX9_init_264 : decode cX9_init 264 = .ok (.bipush 8, 2) := by decide +kernel
theorem dX9_init_266 : decode cX9_init 266 = .ok (.if_icmp .ge 31, 3) := by decide +kernel
theorem dX9_init_269 : decode cX9_init 269 = .ok (.aload_n 0, 1) := by decide +kernel
theorem dX9_init_270 : decode cX9_init 270 = .ok (.getfield 17, 3) := by decide +kernel
theorem dX9_init_273 : decode cX9_init 273 = .ok (.iload_n 1, 1) := by decide +kernel
theorem dX9_init_274 : decode cX9_init 274 = .ok (.iconst 1, 1) := by decide +kernel
theorem dX9_init_275 : decode cX9_init 275 = .ok (.iastore, 1) := by decide +kernel
theorem dX9_init_276 : decode cX9_init 276 = .ok (.aload_n 0, 1) := by decide +kernel
theorem dX9_init_277 : decode cX9_init 277 = .ok (.getfield 25, 3) := by decide +kernel
theorem dX9_init_280 : decode cX9_init 280 = .ok (.iload_n 1, 1) := by decide +kernel
theorem dX9_init_281 : decode cX9_init 281 = .ok (.bipush 104, 2) := by decide +kernel
theorem dX9_init_283 : decode cX9_init 283 = .ok (.castore, 1) := by decide +kernel
theorem dX9_init_284 : decode cX9_init 284 = .ok (.aload_n 0, 1) := by decide +kernel
theorem dX9_init_285 : decode cX9_init 285 = .ok (.getfield 28, 3) := by decide +kernel
theorem dX9_init_288 : decode cX9_init 288 = .ok (.iload_n 1, 1) := by decide +kernel
theorem dX9_init_289 : decode cX9_init 289 = .ok (.iconst 1, 1) := by decide +kernel
theorem dX9_init_290 : decode cX9_init 290 = .ok (.iastore, 1) := by decide +kernel
theorem dX9_init_291 : decode cX9_init 291 = .ok (.iinc 1 1, 3) := by decide +kernel
theorem dX9_init_294 : decode cX9_init 294 = .ok (.goto (-31), 3) := by decide +kernel
theorem dX9_init_297 : decode cX9_init 297 = .ok (.aload_n 0, 1) := by decide +kernel
theorem dX9_init_298 : decode cX9_init 298 = .ok (.getfield 41, 3) := by decide +kernel
theorem dX9_init_301 : decode cX9_init 301 = .ok (.iconst 0, 1) := by decide +kernel
theorem dX9_init_302 : decode cX9_init 302 = .ok (.bipush 12, 2) := by decide +kernel
theorem dX9_init_304 : decode cX9_init 304 = .ok (.iastore, 1) := by decide +kernel
theorem dX9_init_305 : decode cX9_init 305 = .ok (.aload_n 0, 1) := by decide +kernel
theorem dX9_init_306 : decode cX9_init 306 = .ok (.getfield 47, 3) := by decide +kernel
theorem dX9_init_309 : decode cX9_init 309 = .ok (.iconst 0, 1) := by decide +kernel
theorem dX9_init_310 : decode cX9_init 310 = .ok (.bipush 30, 2) := by decide +kernel
theorem dX9_init_312 : decode cX9_init 312 = .ok (.iastore, 1) := by decide +kernel
theorem dX9_init_313 : decode cX9_init 313 = .ok (.aload_n 0, 1) := by decide +kernel
theorem dX9_init_314 : decode cX9_init 314 = .ok (.invokevirtual 104, 3) := by decide +kernel
theorem dX9_init_317 : decode cX9_init 317 = .ok (.return_, 1) := by decide +kernel
theorem dX9_thrown_0 : decode cX9_thrown 0 = .ok (.aload_n 0, 1) := by decide +kernel
theorem dX9_thrown_1 : decode cX9_thrown 1 = .ok (.getfield 107, 3) := by decide +kernel
theorem dX9_thrown_4 : decode cX9_thrown 4 = .ok (.ireturn, 1) := by decide +kernel
theorem dX9_in_0 : decode cX9_in 0 = .ok (.iload_n 0, 1) := by decide +kernel
theorem dX9_in_1 : decode cX9_in 1 = .ok (.iload_n 1, 1) := by decide +kernel
theorem dX9_in_2 : decode cX9_in 2 = .ok (.if_icmp .lt 12, 3) := by decide +kernel
theorem dX9_in_5 : decode cX9_in 5 = .ok (.iload_n 0, 1) := by decide +kernel
theorem dX9_in_6 : decode cX9_in 6 = .ok (.iload_n 2, 1) := by decide +kernel
theorem dX9_in_7 : decode cX9_in 7 = .ok (.if_icmp .gt 7, 3) := by decide +kernel
theorem dX9_in_10 : decode cX9_in 10 = .ok (.iconst 1, 1) := by decide +kernel
theorem dX9_in_11 : decode cX9_in 11 = .ok (.goto 4, 3) := by decide +kernel
theorem dX9_in_14 : decode cX9_in 14 = .ok (.iconst 0, 1) := by decide +kernel
theorem dX9_in_15 : decode cX9_in 15 = .ok (.ireturn, 1) := by decide +kernel
theorem dX9_goesOn_0 : decode cX9_goesOn 0 = .ok (.aload_n 0, 1) := by decide +kernel
theorem dX9_goesOn_1 : decode cX9_goesOn 1 = .ok (.iload_n 1, 1) := by decide +kernel
theorem dX9_goesOn_2 : decode cX9_goesOn 2 = .ok (.putfield 107, 3) := by decide +kernel
theorem dX9_goesOn_5 : decode cX9_goesOn 5 = .ok (.iload_n 1, 1) := by decide +kernel
theorem dX9_goesOn_6 : decode cX9_goesOn 6 = .ok (.ifCond .ne 7, 3) := by decide +kernel
theorem dX9_goesOn_9 : decode cX9_goesOn 9 = .ok (.iconst 1, 1) := by decide +kernel
theorem dX9_goesOn_10 : decode cX9_goesOn 10 = .ok (.goto 4, 3) := by decide +kernel
theorem dX9_goesOn_13 : decode cX9_goesOn 13 = .ok (.iconst 0, 1) := by decide +kernel
theorem dX9_goesOn_14 : decode cX9_goesOn 14 = .ok (.ireturn, 1) := by decide +kernel
theorem dX9_isPlace_0 : decode cX9_isPlace 0 = .ok (.iload_n 0, 1) := by decide +kernel
theorem dX9_isPlace_1 : decode cX9_isPlace 1 = .ok (.iconst 0, 1) := by decide +kernel
theorem dX9_isPlace_2 : decode cX9_isPlace 2 = .ok (.bipush 11, 2) := by decide +kernel
theorem dX9_isPlace_4 : decode cX9_isPlace 4 = .ok (.invokestatic 110, 3) := by decide +kernel
theorem dX9_isPlace_7 : decode cX9_isPlace 7 = .ok (.ifCond .eq 17, 3) := by decide +kernel
theorem dX9_isPlace_10 : decode cX9_isPlace 10 = .ok (.iload_n 1, 1) := by decide +kernel
theorem dX9_isPlace_11 : decode cX9_isPlace 11 = .ok (.iconst 0, 1) := by decide +kernel
theorem dX9_isPlace_12 : decode cX9_isPlace 12 = .ok (.bipush 11, 2) := by decide +kernel
theorem dX9_isPlace_14 : decode cX9_isPlace 14 = .ok (.invokestatic 110, 3) := by decide +kernel
theorem dX9_isPlace_17 : decode cX9_isPlace 17 = .ok (.ifCond .eq 7, 3) := by decide +kernel
theorem dX9_isPlace_20 : decode cX9_isPlace 20 = .ok (.iconst 1, 1) := by decide +kernel
theorem dX9_isPlace_21 : decode cX9_isPlace 21 = .ok (.goto 4, 3) := by decide +kernel
theorem dX9_isPlace_24 : decode cX9_isPlace 24 = .ok (.iconst 0, 1) := by decide +kernel
theorem dX9_isPlace_25 : decode cX9_isPlace 25 = .ok (.ireturn, 1) := by decide +kernel
theorem dX9_at_0 : decode cX9_at 0 = .ok (.bipush 12, 2) := by decide +kernel
theorem dX9_at_2 : decode cX9_at 2 = .ok (.iload_n 1, 1) := by decide +kernel
theorem dX9_at_3 : decode cX9_at 3 = .ok (.imul, 1) := by decide +kernel
theorem dX9_at_4 : decode cX9_at 4 = .ok (.iload_n 0, 1) := by decide +kernel
theorem dX9_at_5 : decode cX9_at 5 = .ok (.iadd, 1) := by decide +kernel
theorem dX9_at_6 : decode cX9_at 6 = .ok (.ireturn, 1) := by decide +kernel
theorem dX9_xOf_0 : decode cX9_xOf 0 = .ok (.iload_n 0, 1) := by decide +kernel
theorem dX9_xOf_1 : decode cX9_xOf 1 = .ok (.bipush 12, 2) := by decide +kernel
theorem dX9_xOf_3 : decode cX9_xOf 3 = .ok (.irem, 1) := by decide +kernel
theorem dX9_xOf_4 : decode cX9_xOf 4 = .ok (.ireturn, 1) := by decide +kernel
theorem dX9_yOf_0 : decode cX9_yOf 0 = .ok (.iload_n 0, 1) := by decide +kernel
theorem dX9_yOf_1 : decode cX9_yOf 1 = .ok (.bipush 12, 2) := by decide +kernel
theorem dX9_yOf_3 : decode cX9_yOf 3 = .ok (.idiv, 1) := by decide +kernel
theorem dX9_yOf_4 : decode cX9_yOf 4 = .ok (.ireturn, 1) := by decide +kernel
theorem dX9_told_0 : decode cX9_told 0 = .ok (.bipush 100, 2) := by decide +kernel
theorem dX9_told_2 : decode cX9_told 2 = .ok (.iload_n 0, 1) := by decide +kernel
theorem dX9_told_3 : decode cX9_told 3 = .ok (.invokestatic 114, 3) := by decide +kernel
theorem dX9_told_6 : decode cX9_told 6 = .ok (.imul, 1) := by decide +kernel
theorem dX9_told_7 : decode cX9_told 7 = .ok (.iload_n 0, 1) := by decide +kernel
theorem dX9_told_8 : decode cX9_told 8 = .ok (.invokestatic 118, 3) := by decide +kernel
theorem dX9_told_11 : decode cX9_told 11 = .ok (.iadd, 1) := by decide +kernel
theorem dX9_told_12 : decode cX9_told 12 = .ok (.ireturn, 1) := by decide +kernel
theorem dX9_far_0 : decode cX9_far 0 = .ok (.iload_n 0, 1) := by decide +kernel
theorem dX9_far_1 : decode cX9_far 1 = .ok (.ifCond .ge 8, 3) := by decide +kernel
theorem dX9_far_4 : decode cX9_far 4 = .ok (.iload_n 0, 1) := by decide +kernel
theorem dX9_far_5 : decode cX9_far 5 = .ok (.ineg, 1) := by decide +kernel
theorem dX9_far_6 : decode cX9_far 6 = .ok (.goto 4, 3) := by decide +kernel
theorem dX9_far_9 : decode cX9_far 9 = .ok (.iload_n 0, 1) := by decide +kernel
theorem dX9_far_10 : decode cX9_far 10 = .ok (.ireturn, 1) := by decide +kernel
theorem dX9_isOn_0 : decode cX9_isOn 0 = .ok (.aload_n 0, 1) := by decide +kernel
theorem dX9_isOn_1 : decode cX9_isOn 1 = .ok (.getfield 7, 3) := by decide +kernel
theorem dX9_isOn_4 : decode cX9_isOn 4 = .ok (.bipush 111, 2) := by decide +kernel
theorem dX9_isOn_6 : decode cX9_isOn 6 = .ok (.if_icmp .ne 7, 3) := by decide +kernel
theorem dX9_isOn_9 : decode cX9_isOn 9 = .ok (.iconst 1, 1) := by decide +kernel
theorem dX9_isOn_10 : decode cX9_isOn 10 = .ok (.goto 4, 3) := by decide +kernel
theorem dX9_isOn_13 : decode cX9_isOn 13 = .ok (.iconst 0, 1) := by decide +kernel
theorem dX9_isOn_14 : decode cX9_isOn 14 = .ok (.ireturn, 1) := by decide +kernel
theorem dX9_beside_0 : decode cX9_beside 0 = .ok (.iload_n 0, 1) := by decide +kernel
theorem dX9_beside_1 : decode cX9_beside 1 = .ok (.invokestatic 114, 3) := by decide +kernel
theorem dX9_beside_4 : decode cX9_beside 4 = .ok (.iload_n 1, 1) := by decide +kernel
theorem dX9_beside_5 : decode cX9_beside 5 = .ok (.iconst 1, 1) := by decide +kernel
theorem dX9_beside_6 : decode cX9_beside 6 = .ok (.if_icmp .ne 7, 3) := by decide +kernel
theorem dX9_beside_9 : decode cX9_beside 9 = .ok (.iconst 1, 1) := by decide +kernel
theorem dX9_beside_10 : decode cX9_beside 10 = .ok (.goto 13, 3) := by decide +kernel
theorem dX9_beside_13 : decode cX9_beside 13 = .ok (.iload_n 1, 1) := by decide +kernel
theorem dX9_beside_14 : decode cX9_beside 14 = .ok (.iconst 3, 1) := by decide +kernel
theorem dX9_beside_15 : decode cX9_beside 15 = .ok (.if_icmp .ne 7, 3) := by decide +kernel
theorem dX9_beside_18 : decode cX9_beside 18 = .ok (.iconst (-1), 1) := by decide +kernel
theorem dX9_beside_19 : decode cX9_beside 19 = .ok (.goto 4, 3) := by decide +kernel
theorem dX9_beside_22 : decode cX9_beside 22 = .ok (.iconst 0, 1) := by decide +kernel
theorem dX9_beside_23 : decode cX9_beside 23 = .ok (.iadd, 1) := by decide +kernel
theorem dX9_beside_24 : decode cX9_beside 24 = .ok (.istore_n 2, 1) := by decide +kernel
theorem dX9_beside_25 : decode cX9_beside 25 = .ok (.iload_n 0, 1) := by decide +kernel
theorem dX9_beside_26 : decode cX9_beside 26 = .ok (.invokestatic 118, 3) := by decide +kernel
theorem dX9_beside_29 : decode cX9_beside 29 = .ok (.iload_n 1, 1) := by decide +kernel
theorem dX9_beside_30 : decode cX9_beside 30 = .ok (.iconst 2, 1) := by decide +kernel
theorem dX9_beside_31 : decode cX9_beside 31 = .ok (.if_icmp .ne 7, 3) := by decide +kernel
theorem dX9_beside_34 : decode cX9_beside 34 = .ok (.iconst 1, 1) := by decide +kernel
theorem dX9_beside_35 : decode cX9_beside 35 = .ok (.goto 12, 3) := by decide +kernel
theorem dX9_beside_38 : decode cX9_beside 38 = .ok (.iload_n 1, 1) := by decide +kernel
theorem dX9_beside_39 : decode cX9_beside 39 = .ok (.ifCond .ne 7, 3) := by decide +kernel
theorem dX9_beside_42 : decode cX9_beside 42 = .ok (.iconst (-1), 1) := by decide +kernel
theorem dX9_beside_43 : decode cX9_beside 43 = .ok (.goto 4, 3) := by decide +kernel
theorem dX9_beside_46 : decode cX9_beside 46 = .ok (.iconst 0, 1) := by decide +kernel
theorem dX9_beside_47 : decode cX9_beside 47 = .ok (.iadd, 1) := by decide +kernel
theorem dX9_beside_48 : decode cX9_beside 48 = .ok (.istore_n 3, 1) := by decide +kernel
theorem dX9_beside_49 : decode cX9_beside 49 = .ok (.iload_n 2, 1) := by decide +kernel
theorem dX9_beside_50 : decode cX9_beside 50 = .ok (.iload_n 3, 1) := by decide +kernel
theorem dX9_beside_51 : decode cX9_beside 51 = .ok (.invokestatic 121, 3) := by decide +kernel
theorem dX9_beside_54 : decode cX9_beside 54 = .ok (.ifCond .eq 11, 3) := by decide +kernel
theorem dX9_beside_57 : decode cX9_beside 57 = .ok (.iload_n 2, 1) := by decide +kernel
theorem dX9_beside_58 : decode cX9_beside 58 = .ok (.iload_n 3, 1) := by decide +kernel
theorem dX9_beside_59 : decode cX9_beside 59 = .ok (.invokestatic 125, 3) := by decide +kernel
theorem dX9_beside_62 : decode cX9_beside 62 = .ok (.goto 4, 3) := by decide +kernel
theorem dX9_beside_65 : decode cX9_beside 65 = .ok (.iconst (-1), 1) := by decide +kernel
theorem dX9_beside_66 : decode cX9_beside 66 = .ok (.ireturn, 1) := by decide +kernel
theorem dX9_isFreeKind_0 : decode cX9_isFreeKind 0 = .ok (.iload_n 0, 1) := by decide +kernel
theorem dX9_isFreeKind_1 : decode cX9_isFreeKind 1 = .ok (.bipush 46, 2) := by decide +kernel
theorem dX9_isFreeKind_3 : decode cX9_isFreeKind 3 = .ok (.if_icmp .eq 15, 3) := by decide +kernel
theorem dX9_isFreeKind_6 : decode cX9_isFreeKind 6 = .ok (.iload_n 0, 1) := by decide +kernel
theorem dX9_isFreeKind_7 : decode cX9_isFreeKind 7 = .ok (.bipush 126, 2) := by decide +kernel
theorem dX9_isFreeKind_9 : decode cX9_isFreeKind 9 = .ok (.if_icmp .eq 9, 3) := by decide +kernel
theorem dX9_isFreeKind_12 : decode cX9_isFreeKind 12 = .ok (.iload_n 0, 1) := by decide +kernel
theorem dX9_isFreeKind_13 : decode cX9_isFreeKind 13 = .ok (.bipush 47, 2) := by decide +kernel
theorem dX9_isFreeKind_15 : decode cX9_isFreeKind 15 = .ok (.if_icmp .ne 7, 3) := by decide +kernel
theorem dX9_isFreeKind_18 : decode cX9_isFreeKind 18 = .ok (.iconst 1, 1) := by decide +kernel
theorem dX9_isFreeKind_19 : decode cX9_isFreeKind 19 = .ok (.goto 4, 3) := by decide +kernel
theorem dX9_isFreeKind_22 : decode cX9_isFreeKind 22 = .ok (.iconst 0, 1) := by decide +kernel
theorem dX9_isFreeKind_23 : decode cX9_isFreeKind 23 = .ok (.ireturn, 1) := by decide +kernel
theorem dX9_isFree_0 : decode cX9_isFree 0 = .ok (.iload_n 1, 1) := by decide +kernel
theorem dX9_isFree_1 : decode cX9_isFree 1 = .ok (.iconst (-1), 1) := by decide +kernel
theorem dX9_isFree_2 : decode cX9_isFree 2 = .ok (.if_icmp .eq 19, 3) := by decide +kernel
theorem dX9_isFree_5 : decode cX9_isFree 5 = .ok (.aload_n 0, 1) := by decide +kernel
theorem dX9_isFree_6 : decode cX9_isFree 6 = .ok (.getfield 62, 3) := by decide +kernel
theorem dX9_isFree_9 : decode cX9_isFree 9 = .ok (.iload_n 1, 1) := by decide +kernel
theorem dX9_isFree_10 : decode cX9_isFree 10 = .ok (.caload, 1) := by decide +kernel
theorem dX9_isFree_11 : decode cX9_isFree 11 = .ok (.invokestatic 129, 3) := by decide +kernel
theorem dX9_isFree_14 : decode cX9_isFree 14 = .ok (.ifCond .eq 7, 3) := by decide +kernel
theorem dX9_isFree_17 : decode cX9_isFree 17 = .ok (.iconst 1, 1) := by decide +kernel
theorem dX9_isFree_18 : decode cX9_isFree 18 = .ok (.goto 4, 3) := by decide +kernel
theorem dX9_isFree_21 : decode cX9_isFree 21 = .ok (.iconst 0, 1) := by decide +kernel
theorem dX9_isFree_22 : decode cX9_isFree 22 = .ok (.ireturn, 1) := by decide +kernel
theorem dX9_becomesAsTold_0 : decode cX9_becomesAsTold 0 = .ok (.aload_n 0, 1) := by decide +kernel
theorem dX9_becomesAsTold_1 : decode cX9_becomesAsTold 1 = .ok (.iconst 0, 1) := by decide +kernel
theorem dX9_becomesAsTold_2 : decode cX9_becomesAsTold 2 = .ok (.putfield 133, 3) := by decide +kernel
theorem dX9_becomesAsTold_5 : decode cX9_becomesAsTold 5 = .ok (.iconst 0, 1) := by decide +kernel
theorem dX9_becomesAsTold_6 : decode cX9_becomesAsTold 6 = .ok (.istore_n 1, 1) := by decide +kernel
theorem dX9_becomesAsTold_7 : decode cX9_becomesAsTold 7 = .ok (.iload_n 1, 1) := by decide +kernel
theorem dX9_becomesAsTold_8 : decode cX9_becomesAsTold 8 = .ok (.sipush 144, 3) := by decide +kernel
theorem dX9_becomesAsTold_11 : decode cX9_becomesAsTold 11 = .ok (.if_icmp .ge 21, 3) := by decide +kernel
theorem dX9_becomesAsTold_14 : decode cX9_becomesAsTold 14 = .ok (.aload_n 0, 1) := by decide +kernel
theorem dX9_becomesAsTold_15 : decode cX9_becomesAsTold 15 = .ok (.getfield 62, 3) := by decide +kernel
theorem dX9_becomesAsTold_18 : decode cX9_becomesAsTold 18 = .ok (.iload_n 1, 1) := by decide +kernel
theorem dX9_becomesAsTold_19 : decode cX9_becomesAsTold 19 = .ok (.aload_n 0, 1) := by decide +kernel
theorem dX9_becomesAsTold_20 : decode cX9_becomesAsTold 20 = .ok (.getfield 13, 3) := by decide +kernel
theorem dX9_becomesAsTold_23 : decode cX9_becomesAsTold 23 = .ok (.iload_n 1, 1) := by decide +kernel
theorem dX9_becomesAsTold_24 : decode cX9_becomesAsTold 24 = .ok (.caload, 1) := by decide +kernel
theorem dX9_becomesAsTold_25 : decode cX9_becomesAsTold 25 = .ok (.castore, 1) := by decide +kernel
theorem dX9_becomesAsTold_26 : decode cX9_becomesAsTold 26 = .ok (.iinc 1 1, 3) := by decide +kernel
theorem dX9_becomesAsTold_29 : decode cX9_becomesAsTold 29 = .ok (.goto (-22), 3) := by decide +kernel
theorem dX9_becomesAsTold_32 : decode cX9_becomesAsTold 32 = .ok (.iconst 0, 1) := by decide +kernel
theorem dX9_becomesAsTold_33 : decode cX9_becomesAsTold 33 = .ok (.istore_n 1, 1) := by decide +kernel
theorem dX9_becomesAsTold_34 : decode cX9_becomesAsTold 34 = .ok (.iload_n 1, 1) := by decide +kernel
theorem dX9_becomesAsTold_35 : decode cX9_becomesAsTold 35 = .ok (.bipush 8, 2) := by decide +kernel
theorem dX9_becomesAsTold_37 : decode cX9_becomesAsTold 37 = .ok (.if_icmp .ge 54, 3) := by decide +kernel
theorem dX9_becomesAsTold_40 : decode cX9_becomesAsTold 40 = .ok (.aload_n 0, 1) := by decide +kernel
theorem dX9_becomesAsTold_41 : decode cX9_becomesAsTold 41 = .ok (.getfield 65, 3) := by decide +kernel
theorem dX9_becomesAsTold_44 : decode cX9_becomesAsTold 44 = .ok (.iload_n 1, 1) := by decide +kernel
theorem dX9_becomesAsTold_45 : decode cX9_becomesAsTold 45 = .ok (.aload_n 0, 1) := by decide +kernel
theorem dX9_becomesAsTold_46 : decode cX9_becomesAsTold 46 = .ok (.getfield 38, 3) := by decide +kernel
theorem dX9_becomesAsTold_49 : decode cX9_becomesAsTold 49 = .ok (.iload_n 1, 1) := by decide +kernel
theorem dX9_becomesAsTold_50 : decode cX9_becomesAsTold 50 = .ok (.iaload, 1) := by decide +kernel
theorem dX9_becomesAsTold_51 : decode cX9_becomesAsTold 51 = .ok (.iastore, 1) := by decide +kernel
theorem dX9_becomesAsTold_52 : decode cX9_becomesAsTold 52 = .ok (.aload_n 0, 1) := by decide +kernel
theorem dX9_becomesAsTold_53 : decode cX9_becomesAsTold 53 = .ok (.getfield 68, 3) := by decide +kernel
theorem dX9_becomesAsTold_56 : decode cX9_becomesAsTold 56 = .ok (.iload_n 1, 1) := by decide +kernel
theorem dX9_becomesAsTold_57 : decode cX9_becomesAsTold 57 = .ok (.aload_n 0, 1) := by decide +kernel
theorem dX9_becomesAsTold_58 : decode cX9_becomesAsTold 58 = .ok (.getfield 47, 3) := by decide +kernel
theorem dX9_becomesAsTold_61 : decode cX9_becomesAsTold 61 = .ok (.iload_n 1, 1) := by decide +kernel
theorem dX9_becomesAsTold_62 : decode cX9_becomesAsTold 62 = .ok (.iaload, 1) := by decide +kernel
theorem dX9_becomesAsTold_63 : decode cX9_becomesAsTold 63 = .ok (.iastore, 1) := by decide +kernel
theorem dX9_becomesAsTold_64 : decode cX9_becomesAsTold 64 = .ok (.aload_n 0, 1) := by decide +kernel
theorem dX9_becomesAsTold_65 : decode cX9_becomesAsTold 65 = .ok (.getfield 71, 3) := by decide +kernel
theorem dX9_becomesAsTold_68 : decode cX9_becomesAsTold 68 = .ok (.iload_n 1, 1) := by decide +kernel
theorem dX9_becomesAsTold_69 : decode cX9_becomesAsTold 69 = .ok (.iconst 0, 1) := by decide +kernel
theorem dX9_becomesAsTold_70 : decode cX9_becomesAsTold 70 = .ok (.iastore, 1) := by decide +kernel
theorem dX9_becomesAsTold_71 : decode cX9_becomesAsTold 71 = .ok (.aload_n 0, 1) := by decide +kernel
theorem dX9_becomesAsTold_72 : decode cX9_becomesAsTold 72 = .ok (.getfield 77, 3) := by decide +kernel
theorem dX9_becomesAsTold_75 : decode cX9_becomesAsTold 75 = .ok (.iload_n 1, 1) := by decide +kernel
theorem dX9_becomesAsTold_76 : decode cX9_becomesAsTold 76 = .ok (.iconst 0, 1) := by decide +kernel
theorem dX9_becomesAsTold_77 : decode cX9_becomesAsTold 77 = .ok (.iastore, 1) := by decide +kernel
theorem dX9_becomesAsTold_78 : decode cX9_becomesAsTold 78 = .ok (.aload_n 0, 1) := by decide +kernel
theorem dX9_becomesAsTold_79 : decode cX9_becomesAsTold 79 = .ok (.getfield 80, 3) := by decide +kernel
theorem dX9_becomesAsTold_82 : decode cX9_becomesAsTold 82 = .ok (.iload_n 1, 1) := by decide +kernel
theorem dX9_becomesAsTold_83 : decode cX9_becomesAsTold 83 = .ok (.iconst (-1), 1) := by decide +kernel
theorem dX9_becomesAsTold_84 : decode cX9_becomesAsTold 84 = .ok (.iastore, 1) := by decide +kernel
theorem dX9_becomesAsTold_85 : decode cX9_becomesAsTold 85 = .ok (.iinc 1 1, 3) := by decide +kernel
theorem dX9_becomesAsTold_88 : decode cX9_becomesAsTold 88 = .ok (.goto (-54), 3) := by decide +kernel
theorem dX9_becomesAsTold_91 : decode cX9_becomesAsTold 91 = .ok (.iconst 0, 1) := by decide +kernel
theorem dX9_becomesAsTold_92 : decode cX9_becomesAsTold 92 = .ok (.istore_n 1, 1) := by decide +kernel
theorem dX9_becomesAsTold_93 : decode cX9_becomesAsTold 93 = .ok (.iload_n 1, 1) := by decide +kernel
theorem dX9_becomesAsTold_94 : decode cX9_becomesAsTold 94 = .ok (.bipush 24, 2) := by decide +kernel
theorem dX9_becomesAsTold_96 : decode cX9_becomesAsTold 96 = .ok (.if_icmp .ge 21, 3) := by decide +kernel
theorem dX9_becomesAsTold_99 : decode cX9_becomesAsTold 99 = .ok (.aload_n 0, 1) := by decide +kernel
theorem dX9_becomesAsTold_100 : decode cX9_becomesAsTold 100 = .ok (.getfield 83, 3) := by decide +kernel
theorem dX9_becomesAsTold_103 : decode cX9_becomesAsTold 103 = .ok (.iload_n 1, 1) := by decide +kernel
theorem dX9_becomesAsTold_104 : decode cX9_becomesAsTold 104 = .ok (.aload_n 0, 1) := by decide +kernel
theorem dX9_becomesAsTold_105 : decode cX9_becomesAsTold 105 = .ok (.getfield 53, 3) := by decide +kernel
theorem dX9_becomesAsTold_108 : decode cX9_becomesAsTold 108 = .ok (.iload_n 1, 1) := by decide +kernel
theorem dX9_becomesAsTold_109 : decode cX9_becomesAsTold 109 = .ok (.iaload, 1) := by decide +kernel
theorem dX9_becomesAsTold_110 : decode cX9_becomesAsTold 110 = .ok (.iastore, 1) := by decide +kernel
theorem dX9_becomesAsTold_111 : decode cX9_becomesAsTold 111 = .ok (.iinc 1 1, 3) := by decide +kernel
theorem dX9_becomesAsTold_114 : decode cX9_becomesAsTold 114 = .ok (.goto (-21), 3) := by decide +kernel
theorem dX9_becomesAsTold_117 : decode cX9_becomesAsTold 117 = .ok (.iconst 0, 1) := by decide +kernel
theorem dX9_becomesAsTold_118 : decode cX9_becomesAsTold 118 = .ok (.istore_n 1, 1) := by decide +kernel
theorem dX9_becomesAsTold_119 : decode cX9_becomesAsTold 119 = .ok (.iload_n 1, 1) := by decide +kernel
theorem dX9_becomesAsTold_120 : decode cX9_becomesAsTold 120 = .ok (.bipush 8, 2) := by decide +kernel
theorem dX9_becomesAsTold_122 : decode cX9_becomesAsTold 122 = .ok (.if_icmp .ge 16, 3) := by decide +kernel
theorem dX9_becomesAsTold_125 : decode cX9_becomesAsTold 125 = .ok (.aload_n 0, 1) := by decide +kernel
theorem dX9_becomesAsTold_126 : decode cX9_becomesAsTold 126 = .ok (.getfield 86, 3) := by decide +kernel
theorem dX9_becomesAsTold_129 : decode cX9_becomesAsTold 129 = .ok (.iload_n 1, 1) := by decide +kernel
theorem dX9_becomesAsTold_130 : decode cX9_becomesAsTold 130 = .ok (.iconst 0, 1) := by decide +kernel
theorem dX9_becomesAsTold_131 : decode cX9_becomesAsTold 131 = .ok (.bastore, 1) := by decide +kernel
theorem dX9_becomesAsTold_132 : decode cX9_becomesAsTold 132 = .ok (.iinc 1 1, 3) := by decide +kernel
theorem dX9_becomesAsTold_135 : decode cX9_becomesAsTold 135 = .ok (.goto (-16), 3) := by decide +kernel
theorem dX9_becomesAsTold_138 : decode cX9_becomesAsTold 138 = .ok (.aload_n 0, 1) := by decide +kernel
theorem dX9_becomesAsTold_139 : decode cX9_becomesAsTold 139 = .ok (.iconst 0, 1) := by decide +kernel
theorem dX9_becomesAsTold_140 : decode cX9_becomesAsTold 140 = .ok (.putfield 136, 3) := by decide +kernel
theorem dX9_becomesAsTold_143 : decode cX9_becomesAsTold 143 = .ok (.aload_n 0, 1) := by decide +kernel
theorem dX9_becomesAsTold_144 : decode cX9_becomesAsTold 144 = .ok (.iconst 0, 1) := by decide +kernel
theorem dX9_becomesAsTold_145 : decode cX9_becomesAsTold 145 = .ok (.putfield 139, 3) := by decide +kernel
theorem dX9_becomesAsTold_148 : decode cX9_becomesAsTold 148 = .ok (.return_, 1) := by decide +kernel
theorem dX9_tells_0 : decode cX9_tells 0 = .ok (.aload_n 0, 1) := by decide +kernel
theorem dX9_tells_1 : decode cX9_tells 1 = .ok (.bipush 110, 2) := by decide +kernel
theorem dX9_tells_3 : decode cX9_tells 3 = .ok (.putfield 7, 3) := by decide +kernel
theorem dX9_tells_6 : decode cX9_tells 6 = .ok (.aload_n 0, 1) := by decide +kernel
theorem dX9_tells_7 : decode cX9_tells 7 = .ok (.invokevirtual 104, 3) := by decide +kernel
theorem dX9_tells_10 : decode cX9_tells 10 = .ok (.return_, 1) := by decide +kernel
theorem dX9_isCell_0 : decode cX9_isCell 0 = .ok (.iload_n 0, 1) := by decide +kernel
theorem dX9_isCell_1 : decode cX9_isCell 1 = .ok (.bipush 35, 2) := by decide +kernel
theorem dX9_isCell_3 : decode cX9_isCell 3 = .ok (.if_icmp .eq 45, 3) := by decide +kernel
theorem dX9_isCell_6 : decode cX9_isCell 6 = .ok (.iload_n 0, 1) := by decide +kernel
theorem dX9_isCell_7 : decode cX9_isCell 7 = .ok (.bipush 46, 2) := by decide +kernel
theorem dX9_isCell_9 : decode cX9_isCell 9 = .ok (.if_icmp .eq 39, 3) := by decide +kernel
theorem dX9_isCell_12 : decode cX9_isCell 12 = .ok (.iload_n 0, 1) := by decide +kernel
theorem dX9_isCell_13 : decode cX9_isCell 13 = .ok (.bipush 126, 2) := by decide +kernel
theorem dX9_isCell_15 : decode cX9_isCell 15 = .ok (.if_icmp .eq 33, 3) := by decide +kernel
theorem dX9_isCell_18 : decode cX9_isCell 18 = .ok (.iload_n 0, 1) := by decide +kernel
theorem dX9_isCell_19 : decode cX9_isCell 19 = .ok (.bipush 43, 2) := by decide +kernel
theorem dX9_isCell_21 : decode cX9_isCell 21 = .ok (.if_icmp .eq 27, 3) := by decide +kernel
theorem dX9_isCell_24 : decode cX9_isCell 24 = .ok (.iload_n 0, 1) := by decide +kernel
theorem dX9_isCell_25 : decode cX9_isCell 25 = .ok (.bipush 47, 2) := by decide +kernel
theorem dX9_isCell_27 : decode cX9_isCell 27 = .ok (.if_icmp .eq 21, 3) := by decide +kernel
theorem dX9_isCell_30 : decode cX9_isCell 30 = .ok (.iload_n 0, 1) := by decide +kernel
theorem dX9_isCell_31 : decode cX9_isCell 31 = .ok (.bipush 48, 2) := by decide +kernel
theorem dX9_isCell_33 : decode cX9_isCell 33 = .ok (.if_icmp .eq 15, 3) := by decide +kernel
theorem dX9_isCell_36 : decode cX9_isCell 36 = .ok (.iload_n 0, 1) := by decide +kernel
theorem dX9_isCell_37 : decode cX9_isCell 37 = .ok (.bipush 49, 2) := by decide +kernel
theorem dX9_isCell_39 : decode cX9_isCell 39 = .ok (.if_icmp .eq 9, 3) := by decide +kernel
theorem dX9_isCell_42 : decode cX9_isCell 42 = .ok (.iload_n 0, 1) := by decide +kernel
theorem dX9_isCell_43 : decode cX9_isCell 43 = .ok (.bipush 50, 2) := by decide +kernel
theorem dX9_isCell_45 : decode cX9_isCell 45 = .ok (.if_icmp .ne 7, 3) := by decide +kernel
theorem dX9_isCell_48 : decode cX9_isCell 48 = .ok (.iconst 1, 1) := by decide +kernel
theorem dX9_isCell_49 : decode cX9_isCell 49 = .ok (.goto 4, 3) := by decide +kernel
theorem dX9_isCell_52 : decode cX9_isCell 52 = .ok (.iconst 0, 1) := by decide +kernel
theorem dX9_isCell_53 : decode cX9_isCell 53 = .ok (.ireturn, 1) := by decide +kernel
theorem dX9_dig_0 : decode cX9_dig 0 = .ok (.aload_n 0, 1) := by decide +kernel
theorem dX9_dig_1 : decode cX9_dig 1 = .ok (.iload_n 1, 1) := by decide +kernel
theorem dX9_dig_2 : decode cX9_dig 2 = .ok (.iload_n 2, 1) := by decide +kernel
theorem dX9_dig_3 : decode cX9_dig 3 = .ok (.invokestatic 121, 3) := by decide +kernel
theorem dX9_dig_6 : decode cX9_dig 6 = .ok (.ifCond .ne 7, 3) := by decide +kernel
theorem dX9_dig_9 : decode cX9_dig 9 = .ok (.iconst 1, 1) := by decide +kernel
theorem dX9_dig_10 : decode cX9_dig 10 = .ok (.goto 26, 3) := by decide +kernel
theorem dX9_dig_13 : decode cX9_dig 13 = .ok (.iload_n 3, 1) := by decide +kernel
theorem dX9_dig_14 : decode cX9_dig 14 = .ok (.invokestatic 142, 3) := by decide +kernel
theorem dX9_dig_17 : decode cX9_dig 17 = .ok (.ifCond .ne 7, 3) := by decide +kernel
theorem dX9_dig_20 : decode cX9_dig 20 = .ok (.iconst 2, 1) := by decide +kernel
theorem dX9_dig_21 : decode cX9_dig 21 = .ok (.goto 15, 3) := by decide +kernel
theorem dX9_dig_24 : decode cX9_dig 24 = .ok (.aload_n 0, 1) := by decide +kernel
theorem dX9_dig_25 : decode cX9_dig 25 = .ok (.invokevirtual 145, 3) := by decide +kernel
theorem dX9_dig_28 : decode cX9_dig 28 = .ok (.ifCond .eq 7, 3) := by decide +kernel
theorem dX9_dig_31 : decode cX9_dig 31 = .ok (.iconst 3, 1) := by decide +kernel
theorem dX9_dig_32 : decode cX9_dig 32 = .ok (.goto 4, 3) := by decide +kernel
theorem dX9_dig_35 : decode cX9_dig 35 = .ok (.iconst 0, 1) := by decide +kernel
theorem dX9_dig_36 : decode cX9_dig 36 = .ok (.invokevirtual 149, 3) := by decide +kernel
theorem dX9_dig_39 : decode cX9_dig 39 = .ok (.ifCond .ne 5, 3) := by decide +kernel
theorem dX9_dig_42 : decode cX9_dig 42 = .ok (.iconst 0, 1) := by decide +kernel
theorem dX9_dig_43 : decode cX9_dig 43 = .ok (.ireturn, 1) := by decide +kernel
theorem dX9_dig_44 : decode cX9_dig 44 = .ok (.aload_n 0, 1) := by decide +kernel
theorem dX9_dig_45 : decode cX9_dig 45 = .ok (.getfield 13, 3) := by decide +kernel
theorem dX9_dig_48 : decode cX9_dig 48 = .ok (.iload_n 1, 1) := by decide +kernel
theorem dX9_dig_49 : decode cX9_dig 49 = .ok (.iload_n 2, 1) := by decide +kernel
theorem dX9_dig_50 : decode cX9_dig 50 = .ok (.invokestatic 125, 3) := by decide +kernel
theorem dX9_dig_53 : decode cX9_dig 53 = .ok (.caload, 1) := by decide +kernel
theorem dX9_dig_54 : decode cX9_dig 54 = .ok (.istore 4, 2) := by decide +kernel
theorem dX9_dig_56 : decode cX9_dig 56 = .ok (.aload_n 0, 1) := by decide +kernel
theorem dX9_dig_57 : decode cX9_dig 57 = .ok (.getfield 13, 3) := by decide +kernel
theorem dX9_dig_60 : decode cX9_dig 60 = .ok (.iload_n 1, 1) := by decide +kernel
theorem dX9_dig_61 : decode cX9_dig 61 = .ok (.iload_n 2, 1) := by decide +kernel
theorem dX9_dig_62 : decode cX9_dig 62 = .ok (.invokestatic 125, 3) := by decide +kernel
theorem dX9_dig_65 : decode cX9_dig 65 = .ok (.iload_n 3, 1) := by decide +kernel
theorem dX9_dig_66 : decode cX9_dig 66 = .ok (.castore, 1) := by decide +kernel
theorem dX9_dig_67 : decode cX9_dig 67 = .ok (.aload_n 0, 1) := by decide +kernel
theorem dX9_dig_68 : decode cX9_dig 68 = .ok (.invokevirtual 153, 3) := by decide +kernel
theorem dX9_dig_71 : decode cX9_dig 71 = .ok (.iload 4, 2) := by decide +kernel
theorem dX9_dig_73 : decode cX9_dig 73 = .ok (.ireturn, 1) := by decide +kernel
theorem dX9_setKind_0 : decode cX9_setKind 0 = .ok (.aload_n 0, 1) := by decide +kernel
theorem dX9_setKind_1 : decode cX9_setKind 1 = .ok (.iload_n 1, 1) := by decide +kernel
theorem dX9_setKind_2 : decode cX9_setKind 2 = .ok (.iconst 0, 1) := by decide +kernel
theorem dX9_setKind_3 : decode cX9_setKind 3 = .ok (.bipush 7, 2) := by decide +kernel
theorem dX9_setKind_5 : decode cX9_setKind 5 = .ok (.invokestatic 110, 3) := by decide +kernel
theorem dX9_setKind_8 : decode cX9_setKind 8 = .ok (.ifCond .eq 13, 3) := by decide +kernel
theorem dX9_setKind_11 : decode cX9_setKind 11 = .ok (.iload_n 2, 1) := by decide +kernel
theorem dX9_setKind_12 : decode cX9_setKind 12 = .ok (.iconst 0, 1) := by decide +kernel
theorem dX9_setKind_13 : decode cX9_setKind 13 = .ok (.bipush 9, 2) := by decide +kernel
theorem dX9_setKind_15 : decode cX9_setKind 15 = .ok (.invokestatic 110, 3) := by decide +kernel
theorem dX9_setKind_18 : decode cX9_setKind 18 = .ok (.ifCond .ne 7, 3) := by decide +kernel
theorem dX9_setKind_21 : decode cX9_setKind 21 = .ok (.iconst 1, 1) := by decide +kernel
theorem dX9_setKind_22 : decode cX9_setKind 22 = .ok (.goto 15, 3) := by decide +kernel
theorem dX9_setKind_25 : decode cX9_setKind 25 = .ok (.aload_n 0, 1) := by decide +kernel
theorem dX9_setKind_26 : decode cX9_setKind 26 = .ok (.invokevirtual 145, 3) := by decide +kernel
theorem dX9_setKind_29 : decode cX9_setKind 29 = .ok (.ifCond .eq 7, 3) := by decide +kernel
theorem dX9_setKind_32 : decode cX9_setKind 32 = .ok (.iconst 2, 1) := by decide +kernel
theorem dX9_setKind_33 : decode cX9_setKind 33 = .ok (.goto 4, 3) := by decide +kernel
theorem dX9_setKind_36 : decode cX9_setKind 36 = .ok (.iconst 0, 1) := by decide +kernel
theorem dX9_setKind_37 : decode cX9_setKind 37 = .ok (.invokevirtual 149, 3) := by decide +kernel
theorem dX9_setKind_40 : decode cX9_setKind 40 = .ok (.ifCond .ne 5, 3) := by decide +kernel
theorem dX9_setKind_43 : decode cX9_setKind 43 = .ok (.iconst 0, 1) := by decide +kernel
theorem dX9_setKind_44 : decode cX9_setKind 44 = .ok (.ireturn, 1) := by decide +kernel
theorem dX9_setKind_45 : decode cX9_setKind 45 = .ok (.aload_n 0, 1) := by decide +kernel
theorem dX9_setKind_46 : decode cX9_setKind 46 = .ok (.getfield 17, 3) := by decide +kernel
theorem dX9_setKind_49 : decode cX9_setKind 49 = .ok (.iload_n 1, 1) := by decide +kernel
theorem dX9_setKind_50 : decode cX9_setKind 50 = .ok (.iaload, 1) := by decide +kernel
theorem dX9_setKind_51 : decode cX9_setKind 51 = .ok (.istore 4, 2) := by decide +kernel
theorem dX9_setKind_53 : decode cX9_setKind 53 = .ok (.aload_n 0, 1) := by decide +kernel
theorem dX9_setKind_54 : decode cX9_setKind 54 = .ok (.getfield 17, 3) := by decide +kernel
theorem dX9_setKind_57 : decode cX9_setKind 57 = .ok (.iload_n 1, 1) := by decide +kernel
theorem dX9_setKind_58 : decode cX9_setKind 58 = .ok (.iload_n 2, 1) := by decide +kernel
theorem dX9_setKind_59 : decode cX9_setKind 59 = .ok (.iastore, 1) := by decide +kernel
theorem dX9_setKind_60 : decode cX9_setKind 60 = .ok (.aload_n 0, 1) := by decide +kernel
theorem dX9_setKind_61 : decode cX9_setKind 61 = .ok (.getfield 21, 3) := by decide +kernel
theorem dX9_setKind_64 : decode cX9_setKind 64 = .ok (.iload_n 1, 1) := by decide +kernel
theorem dX9_setKind_65 : decode cX9_setKind 65 = .ok (.iload_n 3, 1) := by decide +kernel
theorem dX9_setKind_66 : decode cX9_setKind 66 = .ok (.bastore, 1) := by decide +kernel
theorem dX9_setKind_67 : decode cX9_setKind 67 = .ok (.aload_n 0, 1) := by decide +kernel
theorem dX9_setKind_68 : decode cX9_setKind 68 = .ok (.invokevirtual 153, 3) := by decide +kernel
theorem dX9_setKind_71 : decode cX9_setKind 71 = .ok (.iload 4, 2) := by decide +kernel
theorem dX9_setKind_73 : decode cX9_setKind 73 = .ok (.ireturn, 1) := by decide +kernel
theorem dX9_isEffect_0 : decode cX9_isEffect 0 = .ok (.iload_n 0, 1) := by decide +kernel
theorem dX9_isEffect_1 : decode cX9_isEffect 1 = .ok (.bipush 104, 2) := by decide +kernel
theorem dX9_isEffect_3 : decode cX9_isEffect 3 = .ok (.if_icmp .eq 27, 3) := by decide +kernel
theorem dX9_isEffect_6 : decode cX9_isEffect 6 = .ok (.iload_n 0, 1) := by decide +kernel
theorem dX9_isEffect_7 : decode cX9_isEffect 7 = .ok (.bipush 100, 2) := by decide +kernel
theorem dX9_isEffect_9 : decode cX9_isEffect 9 = .ok (.if_icmp .eq 21, 3) := by decide +kernel
theorem dX9_isEffect_12 : decode cX9_isEffect 12 = .ok (.iload_n 0, 1) := by decide +kernel
theorem dX9_isEffect_13 : decode cX9_isEffect 13 = .ok (.bipush 115, 2) := by decide +kernel
theorem dX9_isEffect_15 : decode cX9_isEffect 15 = .ok (.if_icmp .eq 15, 3) := by decide +kernel
theorem dX9_isEffect_18 : decode cX9_isEffect 18 = .ok (.iload_n 0, 1) := by decide +kernel
theorem dX9_isEffect_19 : decode cX9_isEffect 19 = .ok (.bipush 98, 2) := by decide +kernel
theorem dX9_isEffect_21 : decode cX9_isEffect 21 = .ok (.if_icmp .eq 9, 3) := by decide +kernel
theorem dX9_isEffect_24 : decode cX9_isEffect 24 = .ok (.iload_n 0, 1) := by decide +kernel
theorem dX9_isEffect_25 : decode cX9_isEffect 25 = .ok (.bipush 102, 2) := by decide +kernel
theorem dX9_isEffect_27 : decode cX9_isEffect 27 = .ok (.if_icmp .ne 7, 3) := by decide +kernel
theorem dX9_isEffect_30 : decode cX9_isEffect 30 = .ok (.iconst 1, 1) := by decide +kernel
theorem dX9_isEffect_31 : decode cX9_isEffect 31 = .ok (.goto 4, 3) := by decide +kernel
theorem dX9_isEffect_34 : decode cX9_isEffect 34 = .ok (.iconst 0, 1) := by decide +kernel
theorem dX9_isEffect_35 : decode cX9_isEffect 35 = .ok (.ireturn, 1) := by decide +kernel
theorem dX9_isPotion_0 : decode cX9_isPotion 0 = .ok (.iload_n 0, 1) := by decide +kernel
theorem dX9_isPotion_1 : decode cX9_isPotion 1 = .ok (.iconst 3, 1) := by decide +kernel
theorem dX9_isPotion_2 : decode cX9_isPotion 2 = .ok (.iconst 5, 1) := by decide +kernel
theorem dX9_isPotion_3 : decode cX9_isPotion 3 = .ok (.invokestatic 110, 3) := by decide +kernel
theorem dX9_isPotion_6 : decode cX9_isPotion 6 = .ok (.ireturn, 1) := by decide +kernel
theorem dX9_setEffect_0 : decode cX9_setEffect 0 = .ok (.iload_n 1, 1) := by decide +kernel
theorem dX9_setEffect_1 : decode cX9_setEffect 1 = .ok (.invokestatic 156, 3) := by decide +kernel
theorem dX9_setEffect_4 : decode cX9_setEffect 4 = .ok (.ifCond .eq 34, 3) := by decide +kernel
theorem dX9_setEffect_7 : decode cX9_setEffect 7 = .ok (.iload_n 2, 1) := by decide +kernel
theorem dX9_setEffect_8 : decode cX9_setEffect 8 = .ok (.invokestatic 159, 3) := by decide +kernel
theorem dX9_setEffect_11 : decode cX9_setEffect 11 = .ok (.ifCond .eq 27, 3) := by decide +kernel
theorem dX9_setEffect_14 : decode cX9_setEffect 14 = .ok (.iload_n 3, 1) := by decide +kernel
theorem dX9_setEffect_15 : decode cX9_setEffect 15 = .ok (.iconst 1, 1) := by decide +kernel
theorem dX9_setEffect_16 : decode cX9_setEffect 16 = .ok (.bipush 20, 2) := by decide +kernel
theorem dX9_setEffect_18 : decode cX9_setEffect 18 = .ok (.invokestatic 110, 3) := by decide +kernel
theorem dX9_setEffect_21 : decode cX9_setEffect 21 = .ok (.ifCond .eq 17, 3) := by decide +kernel
theorem dX9_setEffect_24 : decode cX9_setEffect 24 = .ok (.iload 4, 2) := by decide +kernel
theorem dX9_setEffect_26 : decode cX9_setEffect 26 = .ok (.iconst 0, 1) := by decide +kernel
theorem dX9_setEffect_27 : decode cX9_setEffect 27 = .ok (.iconst 3, 1) := by decide +kernel
theorem dX9_setEffect_28 : decode cX9_setEffect 28 = .ok (.invokestatic 110, 3) := by decide +kernel
theorem dX9_setEffect_31 : decode cX9_setEffect 31 = .ok (.ifCond .eq 7, 3) := by decide +kernel
theorem dX9_setEffect_34 : decode cX9_setEffect 34 = .ok (.iconst 1, 1) := by decide +kernel
theorem dX9_setEffect_35 : decode cX9_setEffect 35 = .ok (.goto 4, 3) := by decide +kernel
theorem dX9_setEffect_38 : decode cX9_setEffect 38 = .ok (.iconst 0, 1) := by decide +kernel
theorem dX9_setEffect_39 : decode cX9_setEffect 39 = .ok (.istore 5, 2) := by decide +kernel
theorem dX9_setEffect_41 : decode cX9_setEffect 41 = .ok (.aload_n 0, 1) := by decide +kernel
theorem dX9_setEffect_42 : decode cX9_setEffect 42 = .ok (.iload 5, 2) := by decide +kernel
theorem dX9_setEffect_44 : decode cX9_setEffect 44 = .ok (.ifCond .ne 7, 3) := by decide +kernel
theorem dX9_setEffect_47 : decode cX9_setEffect 47 = .ok (.iconst 1, 1) := by decide +kernel
theorem dX9_setEffect_48 : decode cX9_setEffect 48 = .ok (.goto 15, 3) := by decide +kernel
theorem dX9_setEffect_51 : decode cX9_setEffect 51 = .ok (.aload_n 0, 1) := by decide +kernel
theorem dX9_setEffect_52 : decode cX9_setEffect 52 = .ok (.invokevirtual 145, 3) := by decide +kernel
theorem dX9_setEffect_55 : decode cX9_setEffect 55 = .ok (.ifCond .eq 7, 3) := by decide +kernel
theorem dX9_setEffect_58 : decode cX9_setEffect 58 = .ok (.iconst 2, 1) := by decide +kernel
theorem dX9_setEffect_59 : decode cX9_setEffect 59 = .ok (.goto 4, 3) := by decide +kernel
theorem dX9_setEffect_62 : decode cX9_setEffect 62 = .ok (.iconst 0, 1) := by decide +kernel
theorem dX9_setEffect_63 : decode cX9_setEffect 63 = .ok (.invokevirtual 149, 3) := by decide +kernel
theorem dX9_setEffect_66 : decode cX9_setEffect 66 = .ok (.ifCond .ne 5, 3) := by decide +kernel
theorem dX9_setEffect_69 : decode cX9_setEffect 69 = .ok (.iconst 0, 1) := by decide +kernel
theorem dX9_setEffect_70 : decode cX9_setEffect 70 = .ok (.ireturn, 1) := by decide +kernel
theorem dX9_setEffect_71 : decode cX9_setEffect 71 = .ok (.aload_n 0, 1) := by decide +kernel
theorem dX9_setEffect_72 : decode cX9_setEffect 72 = .ok (.getfield 25, 3) := by decide +kernel
theorem dX9_setEffect_75 : decode cX9_setEffect 75 = .ok (.iload_n 1, 1) := by decide +kernel
theorem dX9_setEffect_76 : decode cX9_setEffect 76 = .ok (.caload, 1) := by decide +kernel
theorem dX9_setEffect_77 : decode cX9_setEffect 77 = .ok (.istore 6, 2) := by decide +kernel
theorem dX9_setEffect_79 : decode cX9_setEffect 79 = .ok (.aload_n 0, 1) := by decide +kernel
theorem dX9_setEffect_80 : decode cX9_setEffect 80 = .ok (.getfield 25, 3) := by decide +kernel
theorem dX9_setEffect_83 : decode cX9_setEffect 83 = .ok (.iload_n 1, 1) := by decide +kernel
theorem dX9_setEffect_84 : decode cX9_setEffect 84 = .ok (.iload_n 2, 1) := by decide +kernel
theorem dX9_setEffect_85 : decode cX9_setEffect 85 = .ok (.castore, 1) := by decide +kernel
theorem dX9_setEffect_86 : decode cX9_setEffect 86 = .ok (.aload_n 0, 1) := by decide +kernel
theorem dX9_setEffect_87 : decode cX9_setEffect 87 = .ok (.getfield 28, 3) := by decide +kernel
theorem dX9_setEffect_90 : decode cX9_setEffect 90 = .ok (.iload_n 1, 1) := by decide +kernel
theorem dX9_setEffect_91 : decode cX9_setEffect 91 = .ok (.iload_n 3, 1) := by decide +kernel
theorem dX9_setEffect_92 : decode cX9_setEffect 92 = .ok (.iastore, 1) := by decide +kernel
theorem dX9_setEffect_93 : decode cX9_setEffect 93 = .ok (.aload_n 0, 1) := by decide +kernel
theorem dX9_setEffect_94 : decode cX9_setEffect 94 = .ok (.getfield 31, 3) := by decide +kernel
theorem dX9_setEffect_97 : decode cX9_setEffect 97 = .ok (.iload_n 1, 1) := by decide +kernel
theorem dX9_setEffect_98 : decode cX9_setEffect 98 = .ok (.iload 4, 2) := by decide +kernel
theorem dX9_setEffect_100 : decode cX9_setEffect 100 = .ok (.iastore, 1) := by decide +kernel
theorem dX9_setEffect_101 : decode cX9_setEffect 101 = .ok (.aload_n 0, 1) := by decide +kernel
theorem dX9_setEffect_102 : decode cX9_setEffect 102 = .ok (.invokevirtual 153, 3) := by decide +kernel
theorem dX9_setEffect_105 : decode cX9_setEffect 105 = .ok (.iload 6, 2) := by decide +kernel
theorem dX9_setEffect_107 : decode cX9_setEffect 107 = .ok (.ireturn, 1) := by decide +kernel
theorem dX9_setHero_0 : decode cX9_setHero 0 = .ok (.aload_n 0, 1) := by decide +kernel
theorem dX9_setHero_1 : decode cX9_setHero 1 = .ok (.iload_n 1, 1) := by decide +kernel
theorem dX9_setHero_2 : decode cX9_setHero 2 = .ok (.iload_n 2, 1) := by decide +kernel
theorem dX9_setHero_3 : decode cX9_setHero 3 = .ok (.invokestatic 121, 3) := by decide +kernel
theorem dX9_setHero_6 : decode cX9_setHero 6 = .ok (.ifCond .ne 7, 3) := by decide +kernel
theorem dX9_setHero_9 : decode cX9_setHero 9 = .ok (.iconst 1, 1) := by decide +kernel
theorem dX9_setHero_10 : decode cX9_setHero 10 = .ok (.goto 40, 3) := by decide +kernel
theorem dX9_setHero_13 : decode cX9_setHero 13 = .ok (.iload_n 3, 1) := by decide +kernel
theorem dX9_setHero_14 : decode cX9_setHero 14 = .ok (.iconst 1, 1) := by decide +kernel
theorem dX9_setHero_15 : decode cX9_setHero 15 = .ok (.bipush 24, 2) := by decide +kernel
theorem dX9_setHero_17 : decode cX9_setHero 17 = .ok (.invokestatic 110, 3) := by decide +kernel
theorem dX9_setHero_20 : decode cX9_setHero 20 = .ok (.ifCond .eq 14, 3) := by decide +kernel
theorem dX9_setHero_23 : decode cX9_setHero 23 = .ok (.iload 4, 2) := by decide +kernel
theorem dX9_setHero_25 : decode cX9_setHero 25 = .ok (.iconst 1, 1) := by decide +kernel
theorem dX9_setHero_26 : decode cX9_setHero 26 = .ok (.bipush 99, 2) := by decide +kernel
theorem dX9_setHero_28 : decode cX9_setHero 28 = .ok (.invokestatic 110, 3) := by decide +kernel
theorem dX9_setHero_31 : decode cX9_setHero 31 = .ok (.ifCond .ne 7, 3) := by decide +kernel
theorem dX9_setHero_34 : decode cX9_setHero 34 = .ok (.iconst 2, 1) := by decide +kernel
theorem dX9_setHero_35 : decode cX9_setHero 35 = .ok (.goto 15, 3) := by decide +kernel
theorem dX9_setHero_38 : decode cX9_setHero 38 = .ok (.aload_n 0, 1) := by decide +kernel
theorem dX9_setHero_39 : decode cX9_setHero 39 = .ok (.invokevirtual 145, 3) := by decide +kernel
theorem dX9_setHero_42 : decode cX9_setHero 42 = .ok (.ifCond .eq 7, 3) := by decide +kernel
theorem dX9_setHero_45 : decode cX9_setHero 45 = .ok (.iconst 3, 1) := by decide +kernel
theorem dX9_setHero_46 : decode cX9_setHero 46 = .ok (.goto 4, 3) := by decide +kernel
theorem dX9_setHero_49 : decode cX9_setHero 49 = .ok (.iconst 0, 1) := by decide +kernel
theorem dX9_setHero_50 : decode cX9_setHero 50 = .ok (.invokevirtual 149, 3) := by decide +kernel
theorem dX9_setHero_53 : decode cX9_setHero 53 = .ok (.ifCond .ne 5, 3) := by decide +kernel
theorem dX9_setHero_56 : decode cX9_setHero 56 = .ok (.iconst 0, 1) := by decide +kernel
theorem dX9_setHero_57 : decode cX9_setHero 57 = .ok (.ireturn, 1) := by decide +kernel
theorem dX9_setHero_58 : decode cX9_setHero 58 = .ok (.aload_n 0, 1) := by decide +kernel
theorem dX9_setHero_59 : decode cX9_setHero 59 = .ok (.getfield 47, 3) := by decide +kernel
theorem dX9_setHero_62 : decode cX9_setHero 62 = .ok (.iconst 0, 1) := by decide +kernel
theorem dX9_setHero_63 : decode cX9_setHero 63 = .ok (.iaload, 1) := by decide +kernel
theorem dX9_setHero_64 : decode cX9_setHero 64 = .ok (.istore 5, 2) := by decide +kernel
theorem dX9_setHero_66 : decode cX9_setHero 66 = .ok (.aload_n 0, 1) := by decide +kernel
theorem dX9_setHero_67 : decode cX9_setHero 67 = .ok (.getfield 38, 3) := by decide +kernel
theorem dX9_setHero_70 : decode cX9_setHero 70 = .ok (.iconst 0, 1) := by decide +kernel
theorem dX9_setHero_71 : decode cX9_setHero 71 = .ok (.iload_n 1, 1) := by decide +kernel
theorem dX9_setHero_72 : decode cX9_setHero 72 = .ok (.iload_n 2, 1) := by decide +kernel
theorem dX9_setHero_73 : decode cX9_setHero 73 = .ok (.invokestatic 125, 3) := by decide +kernel
theorem dX9_setHero_76 : decode cX9_setHero 76 = .ok (.iastore, 1) := by decide +kernel
theorem dX9_setHero_77 : decode cX9_setHero 77 = .ok (.aload_n 0, 1) := by decide +kernel
theorem dX9_setHero_78 : decode cX9_setHero 78 = .ok (.getfield 41, 3) := by decide +kernel
theorem dX9_setHero_81 : decode cX9_setHero 81 = .ok (.iconst 0, 1) := by decide +kernel
theorem dX9_setHero_82 : decode cX9_setHero 82 = .ok (.iload_n 3, 1) := by decide +kernel
theorem dX9_setHero_83 : decode cX9_setHero 83 = .ok (.iastore, 1) := by decide +kernel
theorem dX9_setHero_84 : decode cX9_setHero 84 = .ok (.aload_n 0, 1) := by decide +kernel
theorem dX9_setHero_85 : decode cX9_setHero 85 = .ok (.getfield 47, 3) := by decide +kernel
theorem dX9_setHero_88 : decode cX9_setHero 88 = .ok (.iconst 0, 1) := by decide +kernel
theorem dX9_setHero_89 : decode cX9_setHero 89 = .ok (.iload 4, 2) := by decide +kernel
theorem dX9_setHero_91 : decode cX9_setHero 91 = .ok (.iastore, 1) := by decide +kernel
theorem dX9_setHero_92 : decode cX9_setHero 92 = .ok (.aload_n 0, 1) := by decide +kernel
theorem dX9_setHero_93 : decode cX9_setHero 93 = .ok (.invokevirtual 153, 3) := by decide +kernel
theorem dX9_setHero_96 : decode cX9_setHero 96 = .ok (.iload 5, 2) := by decide +kernel
theorem dX9_setHero_98 : decode cX9_setHero 98 = .ok (.ireturn, 1) := by decide +kernel
theorem dX9_addBeast_0 : decode cX9_addBeast 0 = .ok (.iload_n 3, 1) := by decide +kernel
theorem dX9_addBeast_1 : decode cX9_addBeast 1 = .ok (.iconst 1, 1) := by decide +kernel
theorem dX9_addBeast_2 : decode cX9_addBeast 2 = .ok (.bipush 24, 2) := by decide +kernel
theorem dX9_addBeast_4 : decode cX9_addBeast 4 = .ok (.invokestatic 110, 3) := by decide +kernel
theorem dX9_addBeast_7 : decode cX9_addBeast 7 = .ok (.ifCond .eq 29, 3) := by decide +kernel
theorem dX9_addBeast_10 : decode cX9_addBeast 10 = .ok (.iload 4, 2) := by decide +kernel
theorem dX9_addBeast_12 : decode cX9_addBeast 12 = .ok (.iconst 0, 1) := by decide +kernel
theorem dX9_addBeast_13 : decode cX9_addBeast 13 = .ok (.bipush 9, 2) := by decide +kernel
theorem dX9_addBeast_15 : decode cX9_addBeast 15 = .ok (.invokestatic 110, 3) := by decide +kernel
theorem dX9_addBeast_18 : decode cX9_addBeast 18 = .ok (.ifCond .eq 18, 3) := by decide +kernel
theorem dX9_addBeast_21 : decode cX9_addBeast 21 = .ok (.iload 5, 2) := by decide +kernel
theorem dX9_addBeast_23 : decode cX9_addBeast 23 = .ok (.iconst 1, 1) := by decide +kernel
theorem dX9_addBeast_24 : decode cX9_addBeast 24 = .ok (.bipush 30, 2) := by decide +kernel
theorem dX9_addBeast_26 : decode cX9_addBeast 26 = .ok (.invokestatic 110, 3) := by decide +kernel
theorem dX9_addBeast_29 : decode cX9_addBeast 29 = .ok (.ifCond .eq 7, 3) := by decide +kernel
theorem dX9_addBeast_32 : decode cX9_addBeast 32 = .ok (.iconst 1, 1) := by decide +kernel
theorem dX9_addBeast_33 : decode cX9_addBeast 33 = .ok (.goto 4, 3) := by decide +kernel
theorem dX9_addBeast_36 : decode cX9_addBeast 36 = .ok (.iconst 0, 1) := by decide +kernel
theorem dX9_addBeast_37 : decode cX9_addBeast 37 = .ok (.istore 6, 2) := by decide +kernel
theorem dX9_addBeast_39 : decode cX9_addBeast 39 = .ok (.aload_n 0, 1) := by decide +kernel
theorem dX9_addBeast_40 : decode cX9_addBeast 40 = .ok (.iload_n 1, 1) := by decide +kernel
theorem dX9_addBeast_41 : decode cX9_addBeast 41 = .ok (.iload_n 2, 1) := by decide +kernel
theorem dX9_addBeast_42 : decode cX9_addBeast 42 = .ok (.invokestatic 121, 3) := by decide +kernel
theorem dX9_addBeast_45 : decode cX9_addBeast 45 = .ok (.ifCond .ne 7, 3) := by decide +kernel
theorem dX9_addBeast_48 : decode cX9_addBeast 48 = .ok (.iconst 1, 1) := by decide +kernel
theorem dX9_addBeast_49 : decode cX9_addBeast 49 = .ok (.goto 33, 3) := by decide +kernel
theorem dX9_addBeast_52 : decode cX9_addBeast 52 = .ok (.iload 6, 2) := by decide +kernel
theorem dX9_addBeast_54 : decode cX9_addBeast 54 = .ok (.ifCond .ne 7, 3) := by decide +kernel
theorem dX9_addBeast_57 : decode cX9_addBeast 57 = .ok (.iconst 2, 1) := by decide +kernel
theorem dX9_addBeast_58 : decode cX9_addBeast 58 = .ok (.goto 24, 3) := by decide +kernel
theorem dX9_addBeast_61 : decode cX9_addBeast 61 = .ok (.aload_n 0, 1) := by decide +kernel
theorem dX9_addBeast_62 : decode cX9_addBeast 62 = .ok (.invokevirtual 145, 3) := by decide +kernel
theorem dX9_addBeast_65 : decode cX9_addBeast 65 = .ok (.ifCond .ne 12, 3) := by decide +kernel
theorem dX9_addBeast_68 : decode cX9_addBeast 68 = .ok (.aload_n 0, 1) := by decide +kernel
theorem dX9_addBeast_69 : decode cX9_addBeast 69 = .ok (.getfield 34, 3) := by decide +kernel
theorem dX9_addBeast_72 : decode cX9_addBeast 72 = .ok (.bipush 8, 2) := by decide +kernel
theorem dX9_addBeast_74 : decode cX9_addBeast 74 = .ok (.if_icmp .ne 7, 3) := by decide +kernel
theorem dX9_addBeast_77 : decode cX9_addBeast 77 = .ok (.iconst 3, 1) := by decide +kernel
theorem dX9_addBeast_78 : decode cX9_addBeast 78 = .ok (.goto 4, 3) := by decide +kernel
theorem dX9_addBeast_81 : decode cX9_addBeast 81 = .ok (.iconst 0, 1) := by decide +kernel
theorem dX9_addBeast_82 : decode cX9_addBeast 82 = .ok (.invokevirtual 149, 3) := by decide +kernel
theorem dX9_addBeast_85 : decode cX9_addBeast 85 = .ok (.ifCond .ne 5, 3) := by decide +kernel
theorem dX9_addBeast_88 : decode cX9_addBeast 88 = .ok (.iconst 0, 1) := by decide +kernel
theorem dX9_addBeast_89 : decode cX9_addBeast 89 = .ok (.ireturn, 1) := by decide +kernel
theorem dX9_addBeast_90 : decode cX9_addBeast 90 = .ok (.aload_n 0, 1) := by decide +kernel
theorem dX9_addBeast_91 : decode cX9_addBeast 91 = .ok (.getfield 38, 3) := by decide +kernel
theorem dX9_addBeast_94 : decode cX9_addBeast 94 = .ok (.aload_n 0, 1) := by decide +kernel
theorem dX9_addBeast_95 : decode cX9_addBeast 95 = .ok (.getfield 34, 3) := by decide +kernel
theorem dX9_addBeast_98 : decode cX9_addBeast 98 = .ok (.iload_n 1, 1) := by decide +kernel
theorem dX9_addBeast_99 : decode cX9_addBeast 99 = .ok (.iload_n 2, 1) := by decide +kernel
theorem dX9_addBeast_100 : decode cX9_addBeast 100 = .ok (.invokestatic 125, 3) := by decide +kernel
theorem dX9_addBeast_103 : decode cX9_addBeast 103 = .ok (.iastore, 1) := by decide +kernel
theorem dX9_addBeast_104 : decode cX9_addBeast 104 = .ok (.aload_n 0, 1) := by decide +kernel
theorem dX9_addBeast_105 : decode cX9_addBeast 105 = .ok (.getfield 41, 3) := by decide +kernel
theorem dX9_addBeast_108 : decode cX9_addBeast 108 = .ok (.aload_n 0, 1) := by decide +kernel
theorem dX9_addBeast_109 : decode cX9_addBeast 109 = .ok (.getfield 34, 3) := by decide +kernel
theorem dX9_addBeast_112 : decode cX9_addBeast 112 = .ok (.iload_n 3, 1) := by decide +kernel
theorem dX9_addBeast_113 : decode cX9_addBeast 113 = .ok (.iastore, 1) := by decide +kernel
theorem dX9_addBeast_114 : decode cX9_addBeast 114 = .ok (.aload_n 0, 1) := by decide +kernel
theorem dX9_addBeast_115 : decode cX9_addBeast 115 = .ok (.getfield 44, 3) := by decide +kernel
theorem dX9_addBeast_118 : decode cX9_addBeast 118 = .ok (.aload_n 0, 1) := by decide +kernel
theorem dX9_addBeast_119 : decode cX9_addBeast 119 = .ok (.getfield 34, 3) := by decide +kernel
theorem dX9_addBeast_122 : decode cX9_addBeast 122 = .ok (.iload 4, 2) := by decide +kernel
theorem dX9_addBeast_124 : decode cX9_addBeast 124 = .ok (.iastore, 1) := by decide +kernel
theorem dX9_addBeast_125 : decode cX9_addBeast 125 = .ok (.aload_n 0, 1) := by decide +kernel
theorem dX9_addBeast_126 : decode cX9_addBeast 126 = .ok (.getfield 47, 3) := by decide +kernel
theorem dX9_addBeast_129 : decode cX9_addBeast 129 = .ok (.aload_n 0, 1) := by decide +kernel
theorem dX9_addBeast_130 : decode cX9_addBeast 130 = .ok (.getfield 34, 3) := by decide +kernel
theorem dX9_addBeast_133 : decode cX9_addBeast 133 = .ok (.iload 5, 2) := by decide +kernel
theorem dX9_addBeast_135 : decode cX9_addBeast 135 = .ok (.iastore, 1) := by decide +kernel
theorem dX9_addBeast_136 : decode cX9_addBeast 136 = .ok (.aload_n 0, 1) := by decide +kernel
theorem dX9_addBeast_137 : decode cX9_addBeast 137 = .ok (.dup, 1) := by decide +kernel
theorem dX9_addBeast_138 : decode cX9_addBeast 138 = .ok (.getfield 34, 3) := by decide +kernel
theorem dX9_addBeast_141 : decode cX9_addBeast 141 = .ok (.iconst 1, 1) := by decide +kernel
theorem dX9_addBeast_142 : decode cX9_addBeast 142 = .ok (.iadd, 1) := by decide +kernel
theorem dX9_addBeast_143 : decode cX9_addBeast 143 = .ok (.putfield 34, 3) := by decide +kernel
theorem dX9_addBeast_146 : decode cX9_addBeast 146 = .ok (.aload_n 0, 1) := by decide +kernel
theorem dX9_addBeast_147 : decode cX9_addBeast 147 = .ok (.invokevirtual 153, 3) := by decide +kernel
theorem dX9_addBeast_150 : decode cX9_addBeast 150 = .ok (.aload_n 0, 1) := by decide +kernel
theorem dX9_addBeast_151 : decode cX9_addBeast 151 = .ok (.getfield 34, 3) := by decide +kernel
theorem dX9_addBeast_154 : decode cX9_addBeast 154 = .ok (.iconst 1, 1) := by decide +kernel
theorem dX9_addBeast_155 : decode cX9_addBeast 155 = .ok (.isub, 1) := by decide +kernel
theorem dX9_addBeast_156 : decode cX9_addBeast 156 = .ok (.ireturn, 1) := by decide +kernel
theorem dX9_isThing_0 : decode cX9_isThing 0 = .ok (.iload_n 1, 1) := by decide +kernel
theorem dX9_isThing_1 : decode cX9_isThing 1 = .ok (.iconst 0, 1) := by decide +kernel
theorem dX9_isThing_2 : decode cX9_isThing 2 = .ok (.aload_n 0, 1) := by decide +kernel
theorem dX9_isThing_3 : decode cX9_isThing 3 = .ok (.getfield 162, 3) := by decide +kernel
theorem dX9_isThing_6 : decode cX9_isThing 6 = .ok (.iconst 1, 1) := by decide +kernel
theorem dX9_isThing_7 : decode cX9_isThing 7 = .ok (.isub, 1) := by decide +kernel
theorem dX9_isThing_8 : decode cX9_isThing 8 = .ok (.invokestatic 110, 3) := by decide +kernel
theorem dX9_isThing_11 : decode cX9_isThing 11 = .ok (.ireturn, 1) := by decide +kernel
theorem dX9_addThing_0 : decode cX9_addThing 0 = .ok (.iload_n 2, 1) := by decide +kernel
theorem dX9_addThing_1 : decode cX9_addThing 1 = .ok (.iload_n 3, 1) := by decide +kernel
theorem dX9_addThing_2 : decode cX9_addThing 2 = .ok (.invokestatic 121, 3) := by decide +kernel
theorem dX9_addThing_5 : decode cX9_addThing 5 = .ok (.ifCond .eq 22, 3) := by decide +kernel
theorem dX9_addThing_8 : decode cX9_addThing 8 = .ok (.iload 4, 2) := by decide +kernel
theorem dX9_addThing_10 : decode cX9_addThing 10 = .ok (.iconst (-1), 1) := by decide +kernel
theorem dX9_addThing_11 : decode cX9_addThing 11 = .ok (.if_icmp .eq 12, 3) := by decide +kernel
theorem dX9_addThing_14 : decode cX9_addThing 14 = .ok (.aload_n 0, 1) := by decide +kernel
theorem dX9_addThing_15 : decode cX9_addThing 15 = .ok (.iload 4, 2) := by decide +kernel
theorem dX9_addThing_17 : decode cX9_addThing 17 = .ok (.invokevirtual 165, 3) := by decide +kernel
theorem dX9_addThing_20 : decode cX9_addThing 20 = .ok (.ifCond .eq 7, 3) := by decide +kernel
theorem dX9_addThing_23 : decode cX9_addThing 23 = .ok (.iconst 1, 1) := by decide +kernel
theorem dX9_addThing_24 : decode cX9_addThing 24 = .ok (.goto 4, 3) := by decide +kernel
theorem dX9_addThing_27 : decode cX9_addThing 27 = .ok (.iconst 0, 1) := by decide +kernel
theorem dX9_addThing_28 : decode cX9_addThing 28 = .ok (.istore 5, 2) := by decide +kernel
theorem dX9_addThing_30 : decode cX9_addThing 30 = .ok (.iload_n 1, 1) := by decide +kernel
theorem dX9_addThing_31 : decode cX9_addThing 31 = .ok (.iconst 0, 1) := by decide +kernel
theorem dX9_addThing_32 : decode cX9_addThing 32 = .ok (.bipush 7, 2) := by decide +kernel
theorem dX9_addThing_34 : decode cX9_addThing 34 = .ok (.invokestatic 110, 3) := by decide +kernel
theorem dX9_addThing_37 : decode cX9_addThing 37 = .ok (.ifCond .ne 7, 3) := by decide +kernel
theorem dX9_addThing_40 : decode cX9_addThing 40 = .ok (.iconst 1, 1) := by decide +kernel
theorem dX9_addThing_41 : decode cX9_addThing 41 = .ok (.goto 55, 3) := by decide +kernel
theorem dX9_addThing_44 : decode cX9_addThing 44 = .ok (.iload 5, 2) := by decide +kernel
theorem dX9_addThing_46 : decode cX9_addThing 46 = .ok (.ifCond .ne 7, 3) := by decide +kernel
theorem dX9_addThing_49 : decode cX9_addThing 49 = .ok (.iconst 2, 1) := by decide +kernel
theorem dX9_addThing_50 : decode cX9_addThing 50 = .ok (.goto 46, 3) := by decide +kernel
theorem dX9_addThing_53 : decode cX9_addThing 53 = .ok (.iload 4, 2) := by decide +kernel
theorem dX9_addThing_55 : decode cX9_addThing 55 = .ok (.iconst (-1), 1) := by decide +kernel
theorem dX9_addThing_56 : decode cX9_addThing 56 = .ok (.if_icmp .eq 19, 3) := by decide +kernel
theorem dX9_addThing_59 : decode cX9_addThing 59 = .ok (.aload_n 0, 1) := by decide +kernel
theorem dX9_addThing_60 : decode cX9_addThing 60 = .ok (.getfield 50, 3) := by decide +kernel
theorem dX9_addThing_63 : decode cX9_addThing 63 = .ok (.iload 4, 2) := by decide +kernel
theorem dX9_addThing_65 : decode cX9_addThing 65 = .ok (.iaload, 1) := by decide +kernel
theorem dX9_addThing_66 : decode cX9_addThing 66 = .ok (.bipush 6, 2) := by decide +kernel
theorem dX9_addThing_68 : decode cX9_addThing 68 = .ok (.if_icmp .eq 7, 3) := by decide +kernel
theorem dX9_addThing_71 : decode cX9_addThing 71 = .ok (.iconst 3, 1) := by decide +kernel
theorem dX9_addThing_72 : decode cX9_addThing 72 = .ok (.goto 24, 3) := by decide +kernel
theorem dX9_addThing_75 : decode cX9_addThing 75 = .ok (.aload_n 0, 1) := by decide +kernel
theorem dX9_addThing_76 : decode cX9_addThing 76 = .ok (.invokevirtual 145, 3) := by decide +kernel
theorem dX9_addThing_79 : decode cX9_addThing 79 = .ok (.ifCond .ne 12, 3) := by decide +kernel
theorem dX9_addThing_82 : decode cX9_addThing 82 = .ok (.aload_n 0, 1) := by decide +kernel
theorem dX9_addThing_83 : decode cX9_addThing 83 = .ok (.getfield 162, 3) := by decide +kernel
theorem dX9_addThing_86 : decode cX9_addThing 86 = .ok (.bipush 24, 2) := by decide +kernel
theorem dX9_addThing_88 : decode cX9_addThing 88 = .ok (.if_icmp .ne 7, 3) := by decide +kernel
theorem dX9_addThing_91 : decode cX9_addThing 91 = .ok (.iconst 4, 1) := by decide +kernel
theorem dX9_addThing_92 : decode cX9_addThing 92 = .ok (.goto 4, 3) := by decide +kernel
theorem dX9_addThing_95 : decode cX9_addThing 95 = .ok (.iconst 0, 1) := by decide +kernel
theorem dX9_addThing_96 : decode cX9_addThing 96 = .ok (.istore 6, 2) := by decide +kernel
theorem dX9_addThing_98 : decode cX9_addThing 98 = .ok (.aload_n 0, 1) := by decide +kernel
theorem dX9_addThing_99 : decode cX9_addThing 99 = .ok (.iload 6, 2) := by decide +kernel
theorem dX9_addThing_101 : decode cX9_addThing 101 = .ok (.invokevirtual 149, 3) := by decide +kernel
theorem dX9_addThing_104 : decode cX9_addThing 104 = .ok (.ifCond .ne 5, 3) := by decide +kernel
theorem dX9_addThing_107 : decode cX9_addThing 107 = .ok (.iconst 0, 1) := by decide +kernel
theorem dX9_addThing_108 : decode cX9_addThing 108 = .ok (.ireturn, 1) := by decide +kernel
theorem dX9_addThing_109 : decode cX9_addThing 109 = .ok (.aload_n 0, 1) := by decide +kernel
theorem dX9_addThing_110 : decode cX9_addThing 110 = .ok (.getfield 50, 3) := by decide +kernel
theorem dX9_addThing_113 : decode cX9_addThing 113 = .ok (.aload_n 0, 1) := by decide +kernel
theorem dX9_addThing_114 : decode cX9_addThing 114 = .ok (.getfield 162, 3) := by decide +kernel
theorem dX9_addThing_117 : decode cX9_addThing 117 = .ok (.iload_n 1, 1) := by decide +kernel
theorem dX9_addThing_118 : decode cX9_addThing 118 = .ok (.iastore, 1) := by decide +kernel
theorem dX9_addThing_119 : decode cX9_addThing 119 = .ok (.aload_n 0, 1) := by decide +kernel
theorem dX9_addThing_120 : decode cX9_addThing 120 = .ok (.getfield 53, 3) := by decide +kernel
theorem dX9_addThing_123 : decode cX9_addThing 123 = .ok (.aload_n 0, 1) := by decide +kernel
theorem dX9_addThing_124 : decode cX9_addThing 124 = .ok (.getfield 162, 3) := by decide +kernel
theorem dX9_addThing_127 : decode cX9_addThing 127 = .ok (.iload 4, 2) := by decide +kernel
theorem dX9_addThing_129 : decode cX9_addThing 129 = .ok (.iconst (-1), 1) := by decide +kernel
theorem dX9_addThing_130 : decode cX9_addThing 130 = .ok (.if_icmp .ne 11, 3) := by decide +kernel
theorem dX9_addThing_133 : decode cX9_addThing 133 = .ok (.iload_n 2, 1) := by decide +kernel
theorem dX9_addThing_134 : decode cX9_addThing 134 = .ok (.iload_n 3, 1) := by decide +kernel
theorem dX9_addThing_135 : decode cX9_addThing 135 = .ok (.invokestatic 125, 3) := by decide +kernel
theorem dX9_addThing_138 : decode cX9_addThing 138 = .ok (.goto 8, 3) := by decide +kernel
theorem dX9_addThing_141 : decode cX9_addThing 141 = .ok (.bipush (-3), 2) := by decide +kernel
theorem dX9_addThing_143 : decode cX9_addThing 143 = .ok (.iload 4, 2) := by decide +kernel
theorem dX9_addThing_145 : decode cX9_addThing 145 = .ok (.isub, 1) := by decide +kernel
theorem dX9_addThing_146 : decode cX9_addThing 146 = .ok (.iastore, 1) := by decide +kernel
theorem dX9_addThing_147 : decode cX9_addThing 147 = .ok (.aload_n 0, 1) := by decide +kernel
theorem dX9_addThing_148 : decode cX9_addThing 148 = .ok (.dup, 1) := by decide +kernel
theorem dX9_addThing_149 : decode cX9_addThing 149 = .ok (.getfield 162, 3) := by decide +kernel
theorem dX9_addThing_152 : decode cX9_addThing 152 = .ok (.iconst 1, 1) := by decide +kernel
theorem dX9_addThing_153 : decode cX9_addThing 153 = .ok (.iadd, 1) := by decide +kernel
theorem dX9_addThing_154 : decode cX9_addThing 154 = .ok (.putfield 162, 3) := by decide +kernel
theorem dX9_addThing_157 : decode cX9_addThing 157 = .ok (.aload_n 0, 1) := by decide +kernel
theorem dX9_addThing_158 : decode cX9_addThing 158 = .ok (.invokevirtual 153, 3) := by decide +kernel
theorem dX9_addThing_161 : decode cX9_addThing 161 = .ok (.aload_n 0, 1) := by decide +kernel
theorem dX9_addThing_162 : decode cX9_addThing 162 = .ok (.getfield 162, 3) := by decide +kernel
theorem dX9_addThing_165 : decode cX9_addThing 165 = .ok (.iconst 1, 1) := by decide +kernel
theorem dX9_addThing_166 : decode cX9_addThing 166 = .ok (.isub, 1) := by decide +kernel
theorem dX9_addThing_167 : decode cX9_addThing 167 = .ok (.ireturn, 1) := by decide +kernel
theorem dX9_addLamp_0 : decode cX9_addLamp 0 = .ok (.aload_n 0, 1) := by decide +kernel
theorem dX9_addLamp_1 : decode cX9_addLamp 1 = .ok (.iload_n 1, 1) := by decide +kernel
theorem dX9_addLamp_2 : decode cX9_addLamp 2 = .ok (.iload_n 2, 1) := by decide +kernel
theorem dX9_addLamp_3 : decode cX9_addLamp 3 = .ok (.invokestatic 121, 3) := by decide +kernel
theorem dX9_addLamp_6 : decode cX9_addLamp 6 = .ok (.ifCond .ne 7, 3) := by decide +kernel
theorem dX9_addLamp_9 : decode cX9_addLamp 9 = .ok (.iconst 1, 1) := by decide +kernel
theorem dX9_addLamp_10 : decode cX9_addLamp 10 = .ok (.goto 37, 3) := by decide +kernel
theorem dX9_addLamp_13 : decode cX9_addLamp 13 = .ok (.iload_n 3, 1) := by decide +kernel
theorem dX9_addLamp_14 : decode cX9_addLamp 14 = .ok (.iconst 0, 1) := by decide +kernel
theorem dX9_addLamp_15 : decode cX9_addLamp 15 = .ok (.bipush 9, 2) := by decide +kernel
theorem dX9_addLamp_17 : decode cX9_addLamp 17 = .ok (.invokestatic 110, 3) := by decide +kernel
theorem dX9_addLamp_20 : decode cX9_addLamp 20 = .ok (.ifCond .ne 7, 3) := by decide +kernel
theorem dX9_addLamp_23 : decode cX9_addLamp 23 = .ok (.iconst 2, 1) := by decide +kernel
theorem dX9_addLamp_24 : decode cX9_addLamp 24 = .ok (.goto 23, 3) := by decide +kernel
theorem dX9_addLamp_27 : decode cX9_addLamp 27 = .ok (.aload_n 0, 1) := by decide +kernel
theorem dX9_addLamp_28 : decode cX9_addLamp 28 = .ok (.invokevirtual 145, 3) := by decide +kernel
theorem dX9_addLamp_31 : decode cX9_addLamp 31 = .ok (.ifCond .ne 11, 3) := by decide +kernel
theorem dX9_addLamp_34 : decode cX9_addLamp 34 = .ok (.aload_n 0, 1) := by decide +kernel
theorem dX9_addLamp_35 : decode cX9_addLamp 35 = .ok (.getfield 168, 3) := by decide +kernel
theorem dX9_addLamp_38 : decode cX9_addLamp 38 = .ok (.iconst 4, 1) := by decide +kernel
theorem dX9_addLamp_39 : decode cX9_addLamp 39 = .ok (.if_icmp .ne 7, 3) := by decide +kernel
theorem dX9_addLamp_42 : decode cX9_addLamp 42 = .ok (.iconst 3, 1) := by decide +kernel
theorem dX9_addLamp_43 : decode cX9_addLamp 43 = .ok (.goto 4, 3) := by decide +kernel
theorem dX9_addLamp_46 : decode cX9_addLamp 46 = .ok (.iconst 0, 1) := by decide +kernel
theorem dX9_addLamp_47 : decode cX9_addLamp 47 = .ok (.invokevirtual 149, 3) := by decide +kernel
theorem dX9_addLamp_50 : decode cX9_addLamp 50 = .ok (.ifCond .ne 5, 3) := by decide +kernel
theorem dX9_addLamp_53 : decode cX9_addLamp 53 = .ok (.iconst 0, 1) := by decide +kernel
theorem dX9_addLamp_54 : decode cX9_addLamp 54 = .ok (.ireturn, 1) := by decide +kernel
theorem dX9_addLamp_55 : decode cX9_addLamp 55 = .ok (.aload_n 0, 1) := by decide +kernel
theorem dX9_addLamp_56 : decode cX9_addLamp 56 = .ok (.getfield 56, 3) := by decide +kernel
theorem dX9_addLamp_59 : decode cX9_addLamp 59 = .ok (.aload_n 0, 1) := by decide +kernel
theorem dX9_addLamp_60 : decode cX9_addLamp 60 = .ok (.getfield 168, 3) := by decide +kernel
theorem dX9_addLamp_63 : decode cX9_addLamp 63 = .ok (.iload_n 1, 1) := by decide +kernel
theorem dX9_addLamp_64 : decode cX9_addLamp 64 = .ok (.iload_n 2, 1) := by decide +kernel
theorem dX9_addLamp_65 : decode cX9_addLamp 65 = .ok (.invokestatic 125, 3) := by decide +kernel
theorem dX9_addLamp_68 : decode cX9_addLamp 68 = .ok (.iastore, 1) := by decide +kernel
theorem dX9_addLamp_69 : decode cX9_addLamp 69 = .ok (.aload_n 0, 1) := by decide +kernel
theorem dX9_addLamp_70 : decode cX9_addLamp 70 = .ok (.getfield 59, 3) := by decide +kernel
theorem dX9_addLamp_73 : decode cX9_addLamp 73 = .ok (.aload_n 0, 1) := by decide +kernel
theorem dX9_addLamp_74 : decode cX9_addLamp 74 = .ok (.getfield 168, 3) := by decide +kernel
theorem dX9_addLamp_77 : decode cX9_addLamp 77 = .ok (.iload_n 3, 1) := by decide +kernel
theorem dX9_addLamp_78 : decode cX9_addLamp 78 = .ok (.iastore, 1) := by decide +kernel
theorem dX9_addLamp_79 : decode cX9_addLamp 79 = .ok (.aload_n 0, 1) := by decide +kernel
theorem dX9_addLamp_80 : decode cX9_addLamp 80 = .ok (.dup, 1) := by decide +kernel
theorem dX9_addLamp_81 : decode cX9_addLamp 81 = .ok (.getfield 168, 3) := by decide +kernel
theorem dX9_addLamp_84 : decode cX9_addLamp 84 = .ok (.iconst 1, 1) := by decide +kernel
theorem dX9_addLamp_85 : decode cX9_addLamp 85 = .ok (.iadd, 1) := by decide +kernel
theorem dX9_addLamp_86 : decode cX9_addLamp 86 = .ok (.putfield 168, 3) := by decide +kernel
theorem dX9_addLamp_89 : decode cX9_addLamp 89 = .ok (.aload_n 0, 1) := by decide +kernel
theorem dX9_addLamp_90 : decode cX9_addLamp 90 = .ok (.invokevirtual 153, 3) := by decide +kernel
theorem dX9_addLamp_93 : decode cX9_addLamp 93 = .ok (.aload_n 0, 1) := by decide +kernel
theorem dX9_addLamp_94 : decode cX9_addLamp 94 = .ok (.getfield 168, 3) := by decide +kernel
theorem dX9_addLamp_97 : decode cX9_addLamp 97 = .ok (.ireturn, 1) := by decide +kernel
theorem dX9_crosses_0 : decode cX9_crosses 0 = .ok (.iload_n 1, 1) := by decide +kernel
theorem dX9_crosses_1 : decode cX9_crosses 1 = .ok (.invokestatic 114, 3) := by decide +kernel
theorem dX9_crosses_4 : decode cX9_crosses 4 = .ok (.iload_n 0, 1) := by decide +kernel
theorem dX9_crosses_5 : decode cX9_crosses 5 = .ok (.invokestatic 114, 3) := by decide +kernel
theorem dX9_crosses_8 : decode cX9_crosses 8 = .ok (.isub, 1) := by decide +kernel
theorem dX9_crosses_9 : decode cX9_crosses 9 = .ok (.istore_n 3, 1) := by decide +kernel
theorem dX9_crosses_10 : decode cX9_crosses 10 = .ok (.iload_n 1, 1) := by decide +kernel
theorem dX9_crosses_11 : decode cX9_crosses 11 = .ok (.invokestatic 118, 3) := by decide +kernel
theorem dX9_crosses_14 : decode cX9_crosses 14 = .ok (.iload_n 0, 1) := by decide +kernel
theorem dX9_crosses_15 : decode cX9_crosses 15 = .ok (.invokestatic 118, 3) := by decide +kernel
theorem dX9_crosses_18 : decode cX9_crosses 18 = .ok (.isub, 1) := by decide +kernel
theorem dX9_crosses_19 : decode cX9_crosses 19 = .ok (.istore 4, 2) := by decide +kernel
theorem dX9_crosses_21 : decode cX9_crosses 21 = .ok (.iload_n 2, 1) := by decide +kernel
theorem dX9_crosses_22 : decode cX9_crosses 22 = .ok (.invokestatic 114, 3) := by decide +kernel
theorem dX9_crosses_25 : decode cX9_crosses 25 = .ok (.iload_n 0, 1) := by decide +kernel
theorem dX9_crosses_26 : decode cX9_crosses 26 = .ok (.invokestatic 114, 3) := by decide +kernel
theorem dX9_crosses_29 : decode cX9_crosses 29 = .ok (.isub, 1) := by decide +kernel
theorem dX9_crosses_30 : decode cX9_crosses 30 = .ok (.istore 5, 2) := by decide +kernel
theorem dX9_crosses_32 : decode cX9_crosses 32 = .ok (.iload_n 2, 1) := by decide +kernel
theorem dX9_crosses_33 : decode cX9_crosses 33 = .ok (.invokestatic 118, 3) := by decide +kernel
theorem dX9_crosses_36 : decode cX9_crosses 36 = .ok (.iload_n 0, 1) := by decide +kernel
theorem dX9_crosses_37 : decode cX9_crosses 37 = .ok (.invokestatic 118, 3) := by decide +kernel
theorem dX9_crosses_40 : decode cX9_crosses 40 = .ok (.isub, 1) := by decide +kernel
theorem dX9_crosses_41 : decode cX9_crosses 41 = .ok (.istore 6, 2) := by decide +kernel
theorem dX9_crosses_43 : decode cX9_crosses 43 = .ok (.iload_n 3, 1) := by decide +kernel
theorem dX9_crosses_44 : decode cX9_crosses 44 = .ok (.ifCond .ne 8, 3) := by decide +kernel
theorem dX9_crosses_47 : decode cX9_crosses 47 = .ok (.iload 5, 2) := by decide +kernel
theorem dX9_crosses_49 : decode cX9_crosses 49 = .ok (.ifCond .ne 13, 3) := by decide +kernel
theorem dX9_crosses_52 : decode cX9_crosses 52 = .ok (.iload 4, 2) := by decide +kernel
theorem dX9_crosses_54 : decode cX9_crosses 54 = .ok (.ifCond .ne 10, 3) := by decide +kernel
theorem dX9_crosses_57 : decode cX9_crosses 57 = .ok (.iload 6, 2) := by decide +kernel
theorem dX9_crosses_59 : decode cX9_crosses 59 = .ok (.ifCond .eq 5, 3) := by decide +kernel
theorem dX9_crosses_62 : decode cX9_crosses 62 = .ok (.iconst 0, 1) := by decide +kernel
theorem dX9_crosses_63 : decode cX9_crosses 63 = .ok (.ireturn, 1) := by decide +kernel
theorem dX9_crosses_64 : decode cX9_crosses 64 = .ok (.iload_n 3, 1) := by decide +kernel
theorem dX9_crosses_65 : decode cX9_crosses 65 = .ok (.ifCond .ne 7, 3) := by decide +kernel
theorem dX9_crosses_68 : decode cX9_crosses 68 = .ok (.iconst 1, 1) := by decide +kernel
theorem dX9_crosses_69 : decode cX9_crosses 69 = .ok (.goto 7, 3) := by decide +kernel
theorem dX9_crosses_72 : decode cX9_crosses 72 = .ok (.iload_n 3, 1) := by decide +kernel
theorem dX9_crosses_73 : decode cX9_crosses 73 = .ok (.invokestatic 171, 3) := by decide +kernel
theorem dX9_crosses_76 : decode cX9_crosses 76 = .ok (.istore 7, 2) := by decide +kernel
theorem dX9_crosses_78 : decode cX9_crosses 78 = .ok (.iload 4, 2) := by decide +kernel
theorem dX9_crosses_80 : decode cX9_crosses 80 = .ok (.ifCond .ne 7, 3) := by decide +kernel
theorem dX9_crosses_83 : decode cX9_crosses 83 = .ok (.iconst 1, 1) := by decide +kernel
theorem dX9_crosses_84 : decode cX9_crosses 84 = .ok (.goto 8, 3) := by decide +kernel
theorem dX9_crosses_87 : decode cX9_crosses 87 = .ok (.iload 4, 2) := by decide +kernel
theorem dX9_crosses_89 : decode cX9_crosses 89 = .ok (.invokestatic 171, 3) := by decide +kernel
theorem dX9_crosses_92 : decode cX9_crosses 92 = .ok (.istore 8, 2) := by decide +kernel
theorem dX9_crosses_94 : decode cX9_crosses 94 = .ok (.iload_n 3, 1) := by decide +kernel
theorem dX9_crosses_95 : decode cX9_crosses 95 = .ok (.ifCond .ge 9, 3) := by decide +kernel
theorem dX9_crosses_98 : decode cX9_crosses 98 = .ok (.iload 5, 2) := by decide +kernel
theorem dX9_crosses_100 : decode cX9_crosses 100 = .ok (.ineg, 1) := by decide +kernel
theorem dX9_crosses_101 : decode cX9_crosses 101 = .ok (.goto 5, 3) := by decide +kernel
theorem dX9_crosses_104 : decode cX9_crosses 104 = .ok (.iload 5, 2) := by decide +kernel
theorem dX9_crosses_106 : decode cX9_crosses 106 = .ok (.istore 9, 2) := by decide +kernel
theorem dX9_crosses_108 : decode cX9_crosses 108 = .ok (.iload 4, 2) := by decide +kernel
theorem dX9_crosses_110 : decode cX9_crosses 110 = .ok (.ifCond .ge 9, 3) := by decide +kernel
theorem dX9_crosses_113 : decode cX9_crosses 113 = .ok (.iload 6, 2) := by decide +kernel
theorem dX9_crosses_115 : decode cX9_crosses 115 = .ok (.ineg, 1) := by decide +kernel
theorem dX9_crosses_116 : decode cX9_crosses 116 = .ok (.goto 5, 3) := by decide +kernel
theorem dX9_crosses_119 : decode cX9_crosses 119 = .ok (.iload 6, 2) := by decide +kernel
theorem dX9_crosses_121 : decode cX9_crosses 121 = .ok (.istore 10, 2) := by decide +kernel
theorem dX9_crosses_123 : decode cX9_crosses 123 = .ok (.iload_n 3, 1) := by decide +kernel
theorem dX9_crosses_124 : decode cX9_crosses 124 = .ok (.ifCond .ne 7, 3) := by decide +kernel
theorem dX9_crosses_127 : decode cX9_crosses 127 = .ok (.iconst 0, 1) := by decide +kernel
theorem dX9_crosses_128 : decode cX9_crosses 128 = .ok (.goto 12, 3) := by decide +kernel
theorem dX9_crosses_131 : decode cX9_crosses 131 = .ok (.iconst 2, 1) := by decide +kernel
theorem dX9_crosses_132 : decode cX9_crosses 132 = .ok (.iload 9, 2) := by decide +kernel
theorem dX9_crosses_134 : decode cX9_crosses 134 = .ok (.imul, 1) := by decide +kernel
theorem dX9_crosses_135 : decode cX9_crosses 135 = .ok (.iconst 1, 1) := by decide +kernel
theorem dX9_crosses_136 : decode cX9_crosses 136 = .ok (.isub, 1) := by decide +kernel
theorem dX9_crosses_137 : decode cX9_crosses 137 = .ok (.iload 8, 2) := by decide +kernel
theorem dX9_crosses_139 : decode cX9_crosses 139 = .ok (.imul, 1) := by decide +kernel
theorem dX9_crosses_140 : decode cX9_crosses 140 = .ok (.istore 11, 2) := by decide +kernel
theorem dX9_crosses_142 : decode cX9_crosses 142 = .ok (.iload_n 3, 1) := by decide +kernel
theorem dX9_crosses_143 : decode cX9_crosses 143 = .ok (.ifCond .ne 13, 3) := by decide +kernel
theorem dX9_crosses_146 : decode cX9_crosses 146 = .ok (.iconst 2, 1) := by decide +kernel
theorem dX9_crosses_147 : decode cX9_crosses 147 = .ok (.iload 7, 2) := by decide +kernel
theorem dX9_crosses_149 : decode cX9_crosses 149 = .ok (.imul, 1) := by decide +kernel
theorem dX9_crosses_150 : decode cX9_crosses 150 = .ok (.iload 8, 2) := by decide +kernel
theorem dX9_crosses_152 : decode cX9_crosses 152 = .ok (.imul, 1) := by decide +kernel
theorem dX9_crosses_153 : decode cX9_crosses 153 = .ok (.goto 12, 3) := by decide +kernel
theorem dX9_crosses_156 : decode cX9_crosses 156 = .ok (.iconst 2, 1) := by decide +kernel
theorem dX9_crosses_157 : decode cX9_crosses 157 = .ok (.iload 9, 2) := by decide +kernel
theorem dX9_crosses_159 : decode cX9_crosses 159 = .ok (.imul, 1) := by decide +kernel
theorem dX9_crosses_160 : decode cX9_crosses 160 = .ok (.iconst 1, 1) := by decide +kernel
theorem dX9_crosses_161 : decode cX9_crosses 161 = .ok (.iadd, 1) := by decide +kernel
theorem dX9_crosses_162 : decode cX9_crosses 162 = .ok (.iload 8, 2) := by decide +kernel
theorem dX9_crosses_164 : decode cX9_crosses 164 = .ok (.imul, 1) := by decide +kernel
theorem dX9_crosses_165 : decode cX9_crosses 165 = .ok (.istore 12, 2) := by decide +kernel
theorem dX9_crosses_167 : decode cX9_crosses 167 = .ok (.iload 4, 2) := by decide +kernel
theorem dX9_crosses_169 : decode cX9_crosses 169 = .ok (.ifCond .ne 7, 3) := by decide +kernel
theorem dX9_crosses_172 : decode cX9_crosses 172 = .ok (.iconst 0, 1) := by decide +kernel
theorem dX9_crosses_173 : decode cX9_crosses 173 = .ok (.goto 12, 3) := by decide +kernel
theorem dX9_crosses_176 : decode cX9_crosses 176 = .ok (.iconst 2, 1) := by decide +kernel
theorem dX9_crosses_177 : decode cX9_crosses 177 = .ok (.iload 10, 2) := by decide +kernel
theorem dX9_crosses_179 : decode cX9_crosses 179 = .ok (.imul, 1) := by decide +kernel
theorem dX9_crosses_180 : decode cX9_crosses 180 = .ok (.iconst 1, 1) := by decide +kernel
theorem dX9_crosses_181 : decode cX9_crosses 181 = .ok (.isub, 1) := by decide +kernel
theorem dX9_crosses_182 : decode cX9_crosses 182 = .ok (.iload 7, 2) := by decide +kernel
theorem dX9_crosses_184 : decode cX9_crosses 184 = .ok (.imul, 1) := by decide +kernel
theorem dX9_crosses_185 : decode cX9_crosses 185 = .ok (.istore 13, 2) := by decide +kernel
theorem dX9_crosses_187 : decode cX9_crosses 187 = .ok (.iload 4, 2) := by decide +kernel
theorem dX9_crosses_189 : decode cX9_crosses 189 = .ok (.ifCond .ne 13, 3) := by decide +kernel
theorem dX9_crosses_192 : decode cX9_crosses 192 = .ok (.iconst 2, 1) := by decide +kernel
theorem dX9_crosses_193 : decode cX9_crosses 193 = .ok (.iload 7, 2) := by decide +kernel
theorem dX9_crosses_195 : decode cX9_crosses 195 = .ok (.imul, 1) := by decide +kernel
theorem dX9_crosses_196 : decode cX9_crosses 196 = .ok (.iload 8, 2) := by decide +kernel
theorem dX9_crosses_198 : decode cX9_crosses 198 = .ok (.imul, 1) := by decide +kernel
theorem dX9_crosses_199 : decode cX9_crosses 199 = .ok (.goto 12, 3) := by decide +kernel
theorem dX9_crosses_202 : decode cX9_crosses 202 = .ok (.iconst 2, 1) := by decide +kernel
theorem dX9_crosses_203 : decode cX9_crosses 203 = .ok (.iload 10, 2) := by decide +kernel
theorem dX9_crosses_205 : decode cX9_crosses 205 = .ok (.imul, 1) := by decide +kernel
theorem dX9_crosses_206 : decode cX9_crosses 206 = .ok (.iconst 1, 1) := by decide +kernel
theorem dX9_crosses_207 : decode cX9_crosses 207 = .ok (.iadd, 1) := by decide +kernel
theorem dX9_crosses_208 : decode cX9_crosses 208 = .ok (.iload 7, 2) := by decide +kernel
theorem dX9_crosses_210 : decode cX9_crosses 210 = .ok (.imul, 1) := by decide +kernel
theorem dX9_crosses_211 : decode cX9_crosses 211 = .ok (.istore 14, 2) := by decide +kernel
theorem dX9_crosses_213 : decode cX9_crosses 213 = .ok (.iload 11, 2) := by decide +kernel
theorem dX9_crosses_215 : decode cX9_crosses 215 = .ok (.iload 13, 2) := by decide +kernel
theorem dX9_crosses_217 : decode cX9_crosses 217 = .ok (.if_icmp .le 8, 3) := by decide +kernel
theorem dX9_crosses_220 : decode cX9_crosses 220 = .ok (.iload 11, 2) := by decide +kernel
theorem dX9_crosses_222 : decode cX9_crosses 222 = .ok (.goto 5, 3) := by decide +kernel
theorem dX9_crosses_225 : decode cX9_crosses 225 = .ok (.iload 13, 2) := by decide +kernel
theorem dX9_crosses_227 : decode cX9_crosses 227 = .ok (.istore 15, 2) := by decide +kernel
theorem dX9_crosses_229 : decode cX9_crosses 229 = .ok (.iload 12, 2) := by decide +kernel
theorem dX9_crosses_231 : decode cX9_crosses 231 = .ok (.iload 14, 2) := by decide +kernel
theorem dX9_crosses_233 : decode cX9_crosses 233 = .ok (.if_icmp .ge 8, 3) := by decide +kernel
theorem dX9_crosses_236 : decode cX9_crosses 236 = .ok (.iload 12, 2) := by decide +kernel
theorem dX9_crosses_238 : decode cX9_crosses 238 = .ok (.goto 5, 3) := by decide +kernel
theorem dX9_crosses_241 : decode cX9_crosses 241 = .ok (.iload 14, 2) := by decide +kernel
theorem dX9_crosses_243 : decode cX9_crosses 243 = .ok (.istore 16, 2) := by decide +kernel
theorem dX9_crosses_245 : decode cX9_crosses 245 = .ok (.iload 15, 2) := by decide +kernel
theorem dX9_crosses_247 : decode cX9_crosses 247 = .ok (.ifCond .ge 7, 3) := by decide +kernel
theorem dX9_crosses_250 : decode cX9_crosses 250 = .ok (.iconst 0, 1) := by decide +kernel
theorem dX9_crosses_251 : decode cX9_crosses 251 = .ok (.goto 5, 3) := by decide +kernel
theorem dX9_crosses_254 : decode cX9_crosses 254 = .ok (.iload 15, 2) := by decide +kernel
theorem dX9_crosses_256 : decode cX9_crosses 256 = .ok (.istore 15, 2) := by decide +kernel
theorem dX9_crosses_258 : decode cX9_crosses 258 = .ok (.iload 16, 2) := by decide +kernel
theorem dX9_crosses_260 : decode cX9_crosses 260 = .ok (.iconst 2, 1) := by decide +kernel
theorem dX9_crosses_261 : decode cX9_crosses 261 = .ok (.iload 7, 2) := by decide +kernel
theorem dX9_crosses_263 : decode cX9_crosses 263 = .ok (.imul, 1) := by decide +kernel
theorem dX9_crosses_264 : decode cX9_crosses 264 = .ok (.iload 8, 2) := by decide +kernel
theorem dX9_crosses_266 : decode cX9_crosses 266 = .ok (.imul, 1) := by decide +kernel
theorem dX9_crosses_267 : decode cX9_crosses 267 = .ok (.if_icmp .le 13, 3) := by decide +kernel
theorem dX9_crosses_270 : decode cX9_crosses 270 = .ok (.iconst 2, 1) := by decide +kernel
theorem dX9_crosses_271 : decode cX9_crosses 271 = .ok (.iload 7, 2) := by decide +kernel
theorem dX9_crosses_273 : decode cX9_crosses 273 = .ok (.imul, 1) := by decide +kernel
theorem dX9_crosses_274 : decode cX9_crosses 274 = .ok (.iload 8, 2) := by decide +kernel
theorem dX9_crosses_276 : decode cX9_crosses 276 = .ok (.imul, 1) := by decide +kernel
theorem dX9_crosses_277 : decode cX9_crosses 277 = .ok (.goto 5, 3) := by decide +kernel
theorem dX9_crosses_280 : decode cX9_crosses 280 = .ok (.iload 16, 2) := by decide +kernel
theorem dX9_crosses_282 : decode cX9_crosses 282 = .ok (.istore 16, 2) := by decide +kernel
theorem dX9_crosses_284 : decode cX9_crosses 284 = .ok (.iload 15, 2) := by decide +kernel
theorem dX9_crosses_286 : decode cX9_crosses 286 = .ok (.iload 16, 2) := by decide +kernel
theorem dX9_crosses_288 : decode cX9_crosses 288 = .ok (.if_icmp .ge 7, 3) := by decide +kernel
theorem dX9_crosses_291 : decode cX9_crosses 291 = .ok (.iconst 1, 1) := by decide +kernel
theorem dX9_crosses_292 : decode cX9_crosses 292 = .ok (.goto 4, 3) := by decide +kernel
theorem dX9_crosses_295 : decode cX9_crosses 295 = .ok (.iconst 0, 1) := by decide +kernel
theorem dX9_crosses_296 : decode cX9_crosses 296 = .ok (.ireturn, 1) := by decide +kernel
theorem dX9_sees_0 : decode cX9_sees 0 = .ok (.iconst 1, 1) := by decide +kernel
theorem dX9_sees_1 : decode cX9_sees 1 = .ok (.istore_n 3, 1) := by decide +kernel
theorem dX9_sees_2 : decode cX9_sees 2 = .ok (.iconst 0, 1) := by decide +kernel
theorem dX9_sees_3 : decode cX9_sees 3 = .ok (.istore 4, 2) := by decide +kernel
theorem dX9_sees_5 : decode cX9_sees 5 = .ok (.iload 4, 2) := by decide +kernel
theorem dX9_sees_7 : decode cX9_sees 7 = .ok (.sipush 144, 3) := by decide +kernel
theorem dX9_sees_10 : decode cX9_sees 10 = .ok (.if_icmp .ge 50, 3) := by decide +kernel
theorem dX9_sees_13 : decode cX9_sees 13 = .ok (.iload_n 3, 1) := by decide +kernel
theorem dX9_sees_14 : decode cX9_sees 14 = .ok (.ifCond .eq 46, 3) := by decide +kernel
theorem dX9_sees_17 : decode cX9_sees 17 = .ok (.iload 4, 2) := by decide +kernel
theorem dX9_sees_19 : decode cX9_sees 19 = .ok (.iload_n 1, 1) := by decide +kernel
theorem dX9_sees_20 : decode cX9_sees 20 = .ok (.if_icmp .eq 28, 3) := by decide +kernel
theorem dX9_sees_23 : decode cX9_sees 23 = .ok (.iload 4, 2) := by decide +kernel
theorem dX9_sees_25 : decode cX9_sees 25 = .ok (.iload_n 2, 1) := by decide +kernel
theorem dX9_sees_26 : decode cX9_sees 26 = .ok (.if_icmp .eq 22, 3) := by decide +kernel
theorem dX9_sees_29 : decode cX9_sees 29 = .ok (.aload_n 0, 1) := by decide +kernel
theorem dX9_sees_30 : decode cX9_sees 30 = .ok (.iload 4, 2) := by decide +kernel
theorem dX9_sees_32 : decode cX9_sees 32 = .ok (.invokevirtual 174, 3) := by decide +kernel
theorem dX9_sees_35 : decode cX9_sees 35 = .ok (.ifCond .ne 13, 3) := by decide +kernel
theorem dX9_sees_38 : decode cX9_sees 38 = .ok (.iload_n 1, 1) := by decide +kernel
theorem dX9_sees_39 : decode cX9_sees 39 = .ok (.iload_n 2, 1) := by decide +kernel
theorem dX9_sees_40 : decode cX9_sees 40 = .ok (.iload 4, 2) := by decide +kernel
theorem dX9_sees_42 : decode cX9_sees 42 = .ok (.invokestatic 177, 3) := by decide +kernel
theorem dX9_sees_45 : decode cX9_sees 45 = .ok (.ifCond .ne 7, 3) := by decide +kernel
theorem dX9_sees_48 : decode cX9_sees 48 = .ok (.iconst 1, 1) := by decide +kernel
theorem dX9_sees_49 : decode cX9_sees 49 = .ok (.goto 4, 3) := by decide +kernel
theorem dX9_sees_52 : decode cX9_sees 52 = .ok (.iconst 0, 1) := by decide +kernel
theorem dX9_sees_53 : decode cX9_sees 53 = .ok (.istore_n 3, 1) := by decide +kernel
theorem dX9_sees_54 : decode cX9_sees 54 = .ok (.iinc 4 1, 3) := by decide +kernel
theorem dX9_sees_57 : decode cX9_sees 57 = .ok (.goto (-52), 3) := by decide +kernel
theorem dX9_sees_60 : decode cX9_sees 60 = .ok (.iload_n 3, 1) := by decide +kernel
theorem dX9_sees_61 : decode cX9_sees 61 = .ok (.ireturn, 1) := by decide +kernel
theorem dX9_isLit_0 : decode cX9_isLit 0 = .ok (.iconst 0, 1) := by decide +kernel
theorem dX9_isLit_1 : decode cX9_isLit 1 = .ok (.istore_n 2, 1) := by decide +kernel
theorem dX9_isLit_2 : decode cX9_isLit 2 = .ok (.iconst 0, 1) := by decide +kernel
theorem dX9_isLit_3 : decode cX9_isLit 3 = .ok (.istore_n 3, 1) := by decide +kernel
theorem dX9_isLit_4 : decode cX9_isLit 4 = .ok (.iload_n 3, 1) := by decide +kernel
theorem dX9_isLit_5 : decode cX9_isLit 5 = .ok (.aload_n 0, 1) := by decide +kernel
theorem dX9_isLit_6 : decode cX9_isLit 6 = .ok (.getfield 168, 3) := by decide +kernel
theorem dX9_isLit_9 : decode cX9_isLit 9 = .ok (.if_icmp .ge 92, 3) := by decide +kernel
theorem dX9_isLit_12 : decode cX9_isLit 12 = .ok (.iload_n 2, 1) := by decide +kernel
theorem dX9_isLit_13 : decode cX9_isLit 13 = .ok (.ifCond .ne 88, 3) := by decide +kernel
theorem dX9_isLit_16 : decode cX9_isLit 16 = .ok (.iload_n 1, 1) := by decide +kernel
theorem dX9_isLit_17 : decode cX9_isLit 17 = .ok (.invokestatic 114, 3) := by decide +kernel
theorem dX9_isLit_20 : decode cX9_isLit 20 = .ok (.aload_n 0, 1) := by decide +kernel
theorem dX9_isLit_21 : decode cX9_isLit 21 = .ok (.getfield 56, 3) := by decide +kernel
theorem dX9_isLit_24 : decode cX9_isLit 24 = .ok (.iload_n 3, 1) := by decide +kernel
theorem dX9_isLit_25 : decode cX9_isLit 25 = .ok (.iaload, 1) := by decide +kernel
theorem dX9_isLit_26 : decode cX9_isLit 26 = .ok (.invokestatic 114, 3) := by decide +kernel
theorem dX9_isLit_29 : decode cX9_isLit 29 = .ok (.isub, 1) := by decide +kernel
theorem dX9_isLit_30 : decode cX9_isLit 30 = .ok (.istore 4, 2) := by decide +kernel
theorem dX9_isLit_32 : decode cX9_isLit 32 = .ok (.iload_n 1, 1) := by decide +kernel
theorem dX9_isLit_33 : decode cX9_isLit 33 = .ok (.invokestatic 118, 3) := by decide +kernel
theorem dX9_isLit_36 : decode cX9_isLit 36 = .ok (.aload_n 0, 1) := by decide +kernel
theorem dX9_isLit_37 : decode cX9_isLit 37 = .ok (.getfield 56, 3) := by decide +kernel
theorem dX9_isLit_40 : decode cX9_isLit 40 = .ok (.iload_n 3, 1) := by decide +kernel
theorem dX9_isLit_41 : decode cX9_isLit 41 = .ok (.iaload, 1) := by decide +kernel
theorem dX9_isLit_42 : decode cX9_isLit 42 = .ok (.invokestatic 118, 3) := by decide +kernel
theorem dX9_isLit_45 : decode cX9_isLit 45 = .ok (.isub, 1) := by decide +kernel
theorem dX9_isLit_46 : decode cX9_isLit 46 = .ok (.istore 5, 2) := by decide +kernel
theorem dX9_isLit_48 : decode cX9_isLit 48 = .ok (.iload 4, 2) := by decide +kernel
theorem dX9_isLit_50 : decode cX9_isLit 50 = .ok (.iload 4, 2) := by decide +kernel
theorem dX9_isLit_52 : decode cX9_isLit 52 = .ok (.imul, 1) := by decide +kernel
theorem dX9_isLit_53 : decode cX9_isLit 53 = .ok (.iload 5, 2) := by decide +kernel
theorem dX9_isLit_55 : decode cX9_isLit 55 = .ok (.iload 5, 2) := by decide +kernel
theorem dX9_isLit_57 : decode cX9_isLit 57 = .ok (.imul, 1) := by decide +kernel
theorem dX9_isLit_58 : decode cX9_isLit 58 = .ok (.iadd, 1) := by decide +kernel
theorem dX9_isLit_59 : decode cX9_isLit 59 = .ok (.aload_n 0, 1) := by decide +kernel
theorem dX9_isLit_60 : decode cX9_isLit 60 = .ok (.getfield 59, 3) := by decide +kernel
theorem dX9_isLit_63 : decode cX9_isLit 63 = .ok (.iload_n 3, 1) := by decide +kernel
theorem dX9_isLit_64 : decode cX9_isLit 64 = .ok (.iaload, 1) := by decide +kernel
theorem dX9_isLit_65 : decode cX9_isLit 65 = .ok (.aload_n 0, 1) := by decide +kernel
theorem dX9_isLit_66 : decode cX9_isLit 66 = .ok (.getfield 59, 3) := by decide +kernel
theorem dX9_isLit_69 : decode cX9_isLit 69 = .ok (.iload_n 3, 1) := by decide +kernel
theorem dX9_isLit_70 : decode cX9_isLit 70 = .ok (.iaload, 1) := by decide +kernel
theorem dX9_isLit_71 : decode cX9_isLit 71 = .ok (.imul, 1) := by decide +kernel
theorem dX9_isLit_72 : decode cX9_isLit 72 = .ok (.if_icmp .gt 21, 3) := by decide +kernel
theorem dX9_isLit_75 : decode cX9_isLit 75 = .ok (.aload_n 0, 1) := by decide +kernel
theorem dX9_isLit_76 : decode cX9_isLit 76 = .ok (.aload_n 0, 1) := by decide +kernel
theorem dX9_isLit_77 : decode cX9_isLit 77 = .ok (.getfield 56, 3) := by decide +kernel
theorem dX9_isLit_80 : decode cX9_isLit 80 = .ok (.iload_n 3, 1) := by decide +kernel
theorem dX9_isLit_81 : decode cX9_isLit 81 = .ok (.iaload, 1) := by decide +kernel
theorem dX9_isLit_82 : decode cX9_isLit 82 = .ok (.iload_n 1, 1) := by decide +kernel
theorem dX9_isLit_83 : decode cX9_isLit 83 = .ok (.invokevirtual 180, 3) := by decide +kernel
theorem dX9_isLit_86 : decode cX9_isLit 86 = .ok (.ifCond .eq 7, 3) := by decide +kernel
theorem dX9_isLit_89 : decode cX9_isLit 89 = .ok (.iconst 1, 1) := by decide +kernel
theorem dX9_isLit_90 : decode cX9_isLit 90 = .ok (.goto 4, 3) := by decide +kernel
theorem dX9_isLit_93 : decode cX9_isLit 93 = .ok (.iconst 0, 1) := by decide +kernel
theorem dX9_isLit_94 : decode cX9_isLit 94 = .ok (.istore_n 2, 1) := by decide +kernel
theorem dX9_isLit_95 : decode cX9_isLit 95 = .ok (.iinc 3 1, 3) := by decide +kernel
theorem dX9_isLit_98 : decode cX9_isLit 98 = .ok (.goto (-94), 3) := by decide +kernel
theorem dX9_isLit_101 : decode cX9_isLit 101 = .ok (.iload_n 2, 1) := by decide +kernel
theorem dX9_isLit_102 : decode cX9_isLit 102 = .ok (.ireturn, 1) := by decide +kernel
theorem dX9_around_0 : decode cX9_around 0 = .ok (.iload_n 0, 1) := by decide +kernel
theorem dX9_around_1 : decode cX9_around 1 = .ok (.invokestatic 114, 3) := by decide +kernel
theorem dX9_around_4 : decode cX9_around 4 = .ok (.iload_n 1, 1) := by decide +kernel
