theorem dX8_setHero_1 : decode cX8_setHero 1 = .ok (.iload_n 2, 1) := by decide +kernel
theorem dX8_setHero_2 : decode cX8_setHero 2 = .ok (.invokestatic 44, 3) := by decide +kernel
theorem dX8_setHero_5 : decode cX8_setHero 5 = .ok (.iload_n 3, 1) := by decide +kernel
theorem dX8_setHero_6 : decode cX8_setHero 6 = .ok (.iconst 1, 1) := by decide +kernel
theorem dX8_setHero_7 : decode cX8_setHero 7 = .ok (.bipush 24, 2) := by decide +kernel
theorem dX8_setHero_9 : decode cX8_setHero 9 = .ok (.invokestatic 80, 3) := by decide +kernel
theorem dX8_setHero_12 : decode cX8_setHero 12 = .ok (.iload 4, 2) := by decide +kernel
theorem dX8_setHero_14 : decode cX8_setHero 14 = .ok (.iconst 1, 1) := by decide +kernel
theorem dX8_setHero_15 : decode cX8_setHero 15 = .ok (.bipush 99, 2) := by decide +kernel
theorem dX8_setHero_17 : decode cX8_setHero 17 = .ok (.invokestatic 80, 3) := by decide +kernel
theorem dX8_setHero_20 : decode cX8_setHero 20 = .ok (.aload_n 0, 1) := by decide +kernel
theorem dX8_setHero_21 : decode cX8_setHero 21 = .ok (.invokevirtual 59, 3) := by decide +kernel
theorem dX8_setHero_24 : decode cX8_setHero 24 = .ok (.aload_n 0, 1) := by decide +kernel
theorem dX8_setHero_25 : decode cX8_setHero 25 = .ok (.getfield 12, 3) := by decide +kernel
theorem dX8_setHero_28 : decode cX8_setHero 28 = .ok (.getfield 111, 3) := by decide +kernel
theorem dX8_setHero_31 : decode cX8_setHero 31 = .ok (.getfield 115, 3) := by decide +kernel
theorem dX8_setHero_34 : decode cX8_setHero 34 = .ok (.iconst 0, 1) := by decide +kernel
theorem dX8_setHero_35 : decode cX8_setHero 35 = .ok (.invokestatic 94, 3) := by decide +kernel
theorem dX8_setHero_38 : decode cX8_setHero 38 = .ok (.istore 5, 2) := by decide +kernel
theorem dX8_setHero_40 : decode cX8_setHero 40 = .ok (.aload_n 0, 1) := by decide +kernel
theorem dX8_setHero_41 : decode cX8_setHero 41 = .ok (.getfield 12, 3) := by decide +kernel
theorem dX8_setHero_44 : decode cX8_setHero 44 = .ok (.getfield 111, 3) := by decide +kernel
theorem dX8_setHero_47 : decode cX8_setHero 47 = .ok (.iconst 0, 1) := by decide +kernel
theorem dX8_setHero_48 : decode cX8_setHero 48 = .ok (.iload_n 1, 1) := by decide +kernel
theorem dX8_setHero_49 : decode cX8_setHero 49 = .ok (.iload_n 2, 1) := by decide +kernel
theorem dX8_setHero_50 : decode cX8_setHero 50 = .ok (.invokestatic 66, 3) := by decide +kernel
theorem dX8_setHero_53 : decode cX8_setHero 53 = .ok (.iload_n 3, 1) := by decide +kernel
theorem dX8_setHero_54 : decode cX8_setHero 54 = .ok (.iconst 0, 1) := by decide +kernel
theorem dX8_setHero_55 : decode cX8_setHero 55 = .ok (.iload 4, 2) := by decide +kernel
theorem dX8_setHero_57 : decode cX8_setHero 57 = .ok (.invokevirtual 120, 3) := by decide +kernel
theorem dX8_setHero_60 : decode cX8_setHero 60 = .ok (.aload_n 0, 1) := by decide +kernel
theorem dX8_setHero_61 : decode cX8_setHero 61 = .ok (.bipush 110, 2) := by decide +kernel
theorem dX8_setHero_63 : decode cX8_setHero 63 = .ok (.putfield 36, 3) := by decide +kernel
theorem dX8_setHero_66 : decode cX8_setHero 66 = .ok (.iload 5, 2) := by decide +kernel
theorem dX8_setHero_68 : decode cX8_setHero 68 = .ok (.ireturn, 1) := by decide +kernel
theorem dX8_addBeast_0 : decode cX8_addBeast 0 = .ok (.iload_n 1, 1) := by decide +kernel
theorem dX8_addBeast_1 : decode cX8_addBeast 1 = .ok (.iload_n 2, 1) := by decide +kernel
theorem dX8_addBeast_2 : decode cX8_addBeast 2 = .ok (.invokestatic 44, 3) := by decide +kernel
theorem dX8_addBeast_5 : decode cX8_addBeast 5 = .ok (.iload_n 3, 1) := by decide +kernel
theorem dX8_addBeast_6 : decode cX8_addBeast 6 = .ok (.iconst 1, 1) := by decide +kernel
theorem dX8_addBeast_7 : decode cX8_addBeast 7 = .ok (.bipush 24, 2) := by decide +kernel
theorem dX8_addBeast_9 : decode cX8_addBeast 9 = .ok (.invokestatic 80, 3) := by decide +kernel
theorem dX8_addBeast_12 : decode cX8_addBeast 12 = .ok (.iload 4, 2) := by decide +kernel
theorem dX8_addBeast_14 : decode cX8_addBeast 14 = .ok (.iconst 0, 1) := by decide +kernel
theorem dX8_addBeast_15 : decode cX8_addBeast 15 = .ok (.bipush 9, 2) := by decide +kernel
theorem dX8_addBeast_17 : decode cX8_addBeast 17 = .ok (.invokestatic 80, 3) := by decide +kernel
theorem dX8_addBeast_20 : decode cX8_addBeast 20 = .ok (.iload 5, 2) := by decide +kernel
theorem dX8_addBeast_22 : decode cX8_addBeast 22 = .ok (.iconst 1, 1) := by decide +kernel
theorem dX8_addBeast_23 : decode cX8_addBeast 23 = .ok (.bipush 30, 2) := by decide +kernel
theorem dX8_addBeast_25 : decode cX8_addBeast 25 = .ok (.invokestatic 80, 3) := by decide +kernel
theorem dX8_addBeast_28 : decode cX8_addBeast 28 = .ok (.aload_n 0, 1) := by decide +kernel
theorem dX8_addBeast_29 : decode cX8_addBeast 29 = .ok (.invokevirtual 59, 3) := by decide +kernel
theorem dX8_addBeast_32 : decode cX8_addBeast 32 = .ok (.aload_n 0, 1) := by decide +kernel
theorem dX8_addBeast_33 : decode cX8_addBeast 33 = .ok (.getfield 12, 3) := by decide +kernel
theorem dX8_addBeast_36 : decode cX8_addBeast 36 = .ok (.getfield 111, 3) := by decide +kernel
theorem dX8_addBeast_39 : decode cX8_addBeast 39 = .ok (.getfield 123, 3) := by decide +kernel
theorem dX8_addBeast_42 : decode cX8_addBeast 42 = .ok (.bipush 8, 2) := by decide +kernel
theorem dX8_addBeast_44 : decode cX8_addBeast 44 = .ok (.invokestatic 126, 3) := by decide +kernel
theorem dX8_addBeast_47 : decode cX8_addBeast 47 = .ok (.aload_n 0, 1) := by decide +kernel
theorem dX8_addBeast_48 : decode cX8_addBeast 48 = .ok (.getfield 12, 3) := by decide +kernel
theorem dX8_addBeast_51 : decode cX8_addBeast 51 = .ok (.getfield 111, 3) := by decide +kernel
theorem dX8_addBeast_54 : decode cX8_addBeast 54 = .ok (.getfield 123, 3) := by decide +kernel
theorem dX8_addBeast_57 : decode cX8_addBeast 57 = .ok (.istore 6, 2) := by decide +kernel
theorem dX8_addBeast_59 : decode cX8_addBeast 59 = .ok (.aload_n 0, 1) := by decide +kernel
theorem dX8_addBeast_60 : decode cX8_addBeast 60 = .ok (.getfield 12, 3) := by decide +kernel
theorem dX8_addBeast_63 : decode cX8_addBeast 63 = .ok (.getfield 111, 3) := by decide +kernel
theorem dX8_addBeast_66 : decode cX8_addBeast 66 = .ok (.iload 6, 2) := by decide +kernel
theorem dX8_addBeast_68 : decode cX8_addBeast 68 = .ok (.iload_n 1, 1) := by decide +kernel
theorem dX8_addBeast_69 : decode cX8_addBeast 69 = .ok (.iload_n 2, 1) := by decide +kernel
theorem dX8_addBeast_70 : decode cX8_addBeast 70 = .ok (.invokestatic 66, 3) := by decide +kernel
theorem dX8_addBeast_73 : decode cX8_addBeast 73 = .ok (.iload_n 3, 1) := by decide +kernel
theorem dX8_addBeast_74 : decode cX8_addBeast 74 = .ok (.iload 4, 2) := by decide +kernel
theorem dX8_addBeast_76 : decode cX8_addBeast 76 = .ok (.iload 5, 2) := by decide +kernel
theorem dX8_addBeast_78 : decode cX8_addBeast 78 = .ok (.invokevirtual 120, 3) := by decide +kernel
theorem dX8_addBeast_81 : decode cX8_addBeast 81 = .ok (.aload_n 0, 1) := by decide +kernel
theorem dX8_addBeast_82 : decode cX8_addBeast 82 = .ok (.getfield 12, 3) := by decide +kernel
theorem dX8_addBeast_85 : decode cX8_addBeast 85 = .ok (.getfield 111, 3) := by decide +kernel
theorem dX8_addBeast_88 : decode cX8_addBeast 88 = .ok (.iload 6, 2) := by decide +kernel
theorem dX8_addBeast_90 : decode cX8_addBeast 90 = .ok (.iconst 1, 1) := by decide +kernel
theorem dX8_addBeast_91 : decode cX8_addBeast 91 = .ok (.iadd, 1) := by decide +kernel
theorem dX8_addBeast_92 : decode cX8_addBeast 92 = .ok (.putfield 123, 3) := by decide +kernel
theorem dX8_addBeast_95 : decode cX8_addBeast 95 = .ok (.aload_n 0, 1) := by decide +kernel
theorem dX8_addBeast_96 : decode cX8_addBeast 96 = .ok (.bipush 110, 2) := by decide +kernel
theorem dX8_addBeast_98 : decode cX8_addBeast 98 = .ok (.putfield 36, 3) := by decide +kernel
theorem dX8_addBeast_101 : decode cX8_addBeast 101 = .ok (.iload 6, 2) := by decide +kernel
theorem dX8_addBeast_103 : decode cX8_addBeast 103 = .ok (.ireturn, 1) := by decide +kernel
theorem dX8_addThing_0 : decode cX8_addThing 0 = .ok (.iload_n 1, 1) := by decide +kernel
theorem dX8_addThing_1 : decode cX8_addThing 1 = .ok (.iconst 0, 1) := by decide +kernel
theorem dX8_addThing_2 : decode cX8_addThing 2 = .ok (.bipush 7, 2) := by decide +kernel
theorem dX8_addThing_4 : decode cX8_addThing 4 = .ok (.invokestatic 80, 3) := by decide +kernel
theorem dX8_addThing_7 : decode cX8_addThing 7 = .ok (.iload_n 2, 1) := by decide +kernel
theorem dX8_addThing_8 : decode cX8_addThing 8 = .ok (.iload_n 3, 1) := by decide +kernel
theorem dX8_addThing_9 : decode cX8_addThing 9 = .ok (.invokestatic 44, 3) := by decide +kernel
theorem dX8_addThing_12 : decode cX8_addThing 12 = .ok (.iload 4, 2) := by decide +kernel
theorem dX8_addThing_14 : decode cX8_addThing 14 = .ok (.iconst (-1), 1) := by decide +kernel
theorem dX8_addThing_15 : decode cX8_addThing 15 = .ok (.if_icmp .eq 15, 3) := by decide +kernel
theorem dX8_addThing_18 : decode cX8_addThing 18 = .ok (.aload_n 0, 1) := by decide +kernel
theorem dX8_addThing_19 : decode cX8_addThing 19 = .ok (.iload 4, 2) := by decide +kernel
theorem dX8_addThing_21 : decode cX8_addThing 21 = .ok (.invokevirtual 129, 3) := by decide +kernel
theorem dX8_addThing_24 : decode cX8_addThing 24 = .ok (.aload_n 0, 1) := by decide +kernel
theorem dX8_addThing_25 : decode cX8_addThing 25 = .ok (.iload 4, 2) := by decide +kernel
theorem dX8_addThing_27 : decode cX8_addThing 27 = .ok (.invokevirtual 133, 3) := by decide +kernel
theorem dX8_addThing_30 : decode cX8_addThing 30 = .ok (.aload_n 0, 1) := by decide +kernel
theorem dX8_addThing_31 : decode cX8_addThing 31 = .ok (.invokevirtual 59, 3) := by decide +kernel
theorem dX8_addThing_34 : decode cX8_addThing 34 = .ok (.aload_n 0, 1) := by decide +kernel
theorem dX8_addThing_35 : decode cX8_addThing 35 = .ok (.getfield 12, 3) := by decide +kernel
theorem dX8_addThing_38 : decode cX8_addThing 38 = .ok (.getfield 136, 3) := by decide +kernel
theorem dX8_addThing_41 : decode cX8_addThing 41 = .ok (.getfield 140, 3) := by decide +kernel
theorem dX8_addThing_44 : decode cX8_addThing 44 = .ok (.bipush 24, 2) := by decide +kernel
theorem dX8_addThing_46 : decode cX8_addThing 46 = .ok (.invokestatic 126, 3) := by decide +kernel
theorem dX8_addThing_49 : decode cX8_addThing 49 = .ok (.aload_n 0, 1) := by decide +kernel
theorem dX8_addThing_50 : decode cX8_addThing 50 = .ok (.bipush 110, 2) := by decide +kernel
theorem dX8_addThing_52 : decode cX8_addThing 52 = .ok (.putfield 36, 3) := by decide +kernel
theorem dX8_addThing_55 : decode cX8_addThing 55 = .ok (.aload_n 0, 1) := by decide +kernel
theorem dX8_addThing_56 : decode cX8_addThing 56 = .ok (.getfield 12, 3) := by decide +kernel
theorem dX8_addThing_59 : decode cX8_addThing 59 = .ok (.getfield 136, 3) := by decide +kernel
theorem dX8_addThing_62 : decode cX8_addThing 62 = .ok (.iload_n 1, 1) := by decide +kernel
theorem dX8_addThing_63 : decode cX8_addThing 63 = .ok (.iload 4, 2) := by decide +kernel
theorem dX8_addThing_65 : decode cX8_addThing 65 = .ok (.iconst (-1), 1) := by decide +kernel
theorem dX8_addThing_66 : decode cX8_addThing 66 = .ok (.if_icmp .ne 11, 3) := by decide +kernel
theorem dX8_addThing_69 : decode cX8_addThing 69 = .ok (.iload_n 2, 1) := by decide +kernel
theorem dX8_addThing_70 : decode cX8_addThing 70 = .ok (.iload_n 3, 1) := by decide +kernel
theorem dX8_addThing_71 : decode cX8_addThing 71 = .ok (.invokestatic 66, 3) := by decide +kernel
theorem dX8_addThing_74 : decode cX8_addThing 74 = .ok (.goto 8, 3) := by decide +kernel
theorem dX8_addThing_77 : decode cX8_addThing 77 = .ok (.bipush (-3), 2) := by decide +kernel
theorem dX8_addThing_79 : decode cX8_addThing 79 = .ok (.iload 4, 2) := by decide +kernel
theorem dX8_addThing_81 : decode cX8_addThing 81 = .ok (.isub, 1) := by decide +kernel
theorem dX8_addThing_82 : decode cX8_addThing 82 = .ok (.invokevirtual 143, 3) := by decide +kernel
theorem dX8_addThing_85 : decode cX8_addThing 85 = .ok (.ireturn, 1) := by decide +kernel
theorem dX8_addLamp_0 : decode cX8_addLamp 0 = .ok (.iload_n 1, 1) := by decide +kernel
theorem dX8_addLamp_1 : decode cX8_addLamp 1 = .ok (.iload_n 2, 1) := by decide +kernel
theorem dX8_addLamp_2 : decode cX8_addLamp 2 = .ok (.invokestatic 44, 3) := by decide +kernel
theorem dX8_addLamp_5 : decode cX8_addLamp 5 = .ok (.iload_n 3, 1) := by decide +kernel
theorem dX8_addLamp_6 : decode cX8_addLamp 6 = .ok (.iconst 0, 1) := by decide +kernel
theorem dX8_addLamp_7 : decode cX8_addLamp 7 = .ok (.bipush 9, 2) := by decide +kernel
theorem dX8_addLamp_9 : decode cX8_addLamp 9 = .ok (.invokestatic 80, 3) := by decide +kernel
theorem dX8_addLamp_12 : decode cX8_addLamp 12 = .ok (.aload_n 0, 1) := by decide +kernel
theorem dX8_addLamp_13 : decode cX8_addLamp 13 = .ok (.invokevirtual 59, 3) := by decide +kernel
theorem dX8_addLamp_16 : decode cX8_addLamp 16 = .ok (.aload_n 0, 1) := by decide +kernel
theorem dX8_addLamp_17 : decode cX8_addLamp 17 = .ok (.getfield 12, 3) := by decide +kernel
theorem dX8_addLamp_20 : decode cX8_addLamp 20 = .ok (.getfield 146, 3) := by decide +kernel
theorem dX8_addLamp_23 : decode cX8_addLamp 23 = .ok (.getfield 150, 3) := by decide +kernel
theorem dX8_addLamp_26 : decode cX8_addLamp 26 = .ok (.iconst 4, 1) := by decide +kernel
theorem dX8_addLamp_27 : decode cX8_addLamp 27 = .ok (.invokestatic 126, 3) := by decide +kernel
theorem dX8_addLamp_30 : decode cX8_addLamp 30 = .ok (.aload_n 0, 1) := by decide +kernel
theorem dX8_addLamp_31 : decode cX8_addLamp 31 = .ok (.bipush 110, 2) := by decide +kernel
theorem dX8_addLamp_33 : decode cX8_addLamp 33 = .ok (.putfield 36, 3) := by decide +kernel
theorem dX8_addLamp_36 : decode cX8_addLamp 36 = .ok (.aload_n 0, 1) := by decide +kernel
theorem dX8_addLamp_37 : decode cX8_addLamp 37 = .ok (.getfield 12, 3) := by decide +kernel
theorem dX8_addLamp_40 : decode cX8_addLamp 40 = .ok (.getfield 146, 3) := by decide +kernel
theorem dX8_addLamp_43 : decode cX8_addLamp 43 = .ok (.iload_n 1, 1) := by decide +kernel
theorem dX8_addLamp_44 : decode cX8_addLamp 44 = .ok (.iload_n 2, 1) := by decide +kernel
theorem dX8_addLamp_45 : decode cX8_addLamp 45 = .ok (.invokestatic 66, 3) := by decide +kernel
theorem dX8_addLamp_48 : decode cX8_addLamp 48 = .ok (.iload_n 3, 1) := by decide +kernel
theorem dX8_addLamp_49 : decode cX8_addLamp 49 = .ok (.invokevirtual 153, 3) := by decide +kernel
theorem dX8_addLamp_52 : decode cX8_addLamp 52 = .ok (.ireturn, 1) := by decide +kernel
theorem dX8_begin_0 : decode cX8_begin 0 = .ok (.iload_n 1, 1) := by decide +kernel
theorem dX8_begin_1 : decode cX8_begin 1 = .ok (.ifCond .ge 11, 3) := by decide +kernel
theorem dX8_begin_4 : decode cX8_begin 4 = .ok (.new 56, 3) := by decide +kernel
theorem dX8_begin_7 : decode cX8_begin 7 = .ok (.dup, 1) := by decide +kernel
theorem dX8_begin_8 : decode cX8_begin 8 = .ok (.invokespecial 58, 3) := by decide +kernel
theorem dX8_begin_11 : decode cX8_begin 11 = .ok (.athrow, 1) := by decide +kernel
theorem dX8_begin_12 : decode cX8_begin 12 = .ok (.aload_n 0, 1) := by decide +kernel
theorem dX8_begin_13 : decode cX8_begin 13 = .ok (.invokevirtual 59, 3) := by decide +kernel
theorem dX8_begin_16 : decode cX8_begin 16 = .ok (.aload_n 0, 1) := by decide +kernel
theorem dX8_begin_17 : decode cX8_begin 17 = .ok (.getfield 12, 3) := by decide +kernel
theorem dX8_begin_20 : decode cX8_begin 20 = .ok (.getfield 111, 3) := by decide +kernel
theorem dX8_begin_23 : decode cX8_begin 23 = .ok (.invokevirtual 154, 3) := by decide +kernel
theorem dX8_begin_26 : decode cX8_begin 26 = .ok (.ifCond .eq 13, 3) := by decide +kernel
theorem dX8_begin_29 : decode cX8_begin 29 = .ok (.aload_n 0, 1) := by decide +kernel
theorem dX8_begin_30 : decode cX8_begin 30 = .ok (.getfield 12, 3) := by decide +kernel
theorem dX8_begin_33 : decode cX8_begin 33 = .ok (.invokevirtual 158, 3) := by decide +kernel
theorem dX8_begin_36 : decode cX8_begin 36 = .ok (.ifCond .ne 11, 3) := by decide +kernel
theorem dX8_begin_39 : decode cX8_begin 39 = .ok (.new 161, 3) := by decide +kernel
theorem dX8_begin_42 : decode cX8_begin 42 = .ok (.dup, 1) := by decide +kernel
theorem dX8_begin_43 : decode cX8_begin 43 = .ok (.invokespecial 163, 3) := by decide +kernel
theorem dX8_begin_46 : decode cX8_begin 46 = .ok (.athrow, 1) := by decide +kernel
theorem dX8_begin_47 : decode cX8_begin 47 = .ok (.aload_n 0, 1) := by decide +kernel
theorem dX8_begin_48 : decode cX8_begin 48 = .ok (.aload_n 0, 1) := by decide +kernel
theorem dX8_begin_49 : decode cX8_begin 49 = .ok (.getfield 16, 3) := by decide +kernel
theorem dX8_begin_52 : decode cX8_begin 52 = .ok (.iload_n 1, 1) := by decide +kernel
theorem dX8_begin_53 : decode cX8_begin 53 = .ok (.invokevirtual 164, 3) := by decide +kernel
theorem dX8_begin_56 : decode cX8_begin 56 = .ok (.aload_n 0, 1) := by decide +kernel
theorem dX8_begin_57 : decode cX8_begin 57 = .ok (.aload_n 0, 1) := by decide +kernel
theorem dX8_begin_58 : decode cX8_begin 58 = .ok (.getfield 19, 3) := by decide +kernel
theorem dX8_begin_61 : decode cX8_begin 61 = .ok (.iload_n 1, 1) := by decide +kernel
theorem dX8_begin_62 : decode cX8_begin 62 = .ok (.invokevirtual 164, 3) := by decide +kernel
theorem dX8_begin_65 : decode cX8_begin 65 = .ok (.aload_n 0, 1) := by decide +kernel
theorem dX8_begin_66 : decode cX8_begin 66 = .ok (.getfield 25, 3) := by decide +kernel
theorem dX8_begin_69 : decode cX8_begin 69 = .ok (.iconst 0, 1) := by decide +kernel
theorem dX8_begin_70 : decode cX8_begin 70 = .ok (.putfield 168, 3) := by decide +kernel
theorem dX8_begin_73 : decode cX8_begin 73 = .ok (.aload_n 0, 1) := by decide +kernel
theorem dX8_begin_74 : decode cX8_begin 74 = .ok (.iconst 0, 1) := by decide +kernel
theorem dX8_begin_75 : decode cX8_begin 75 = .ok (.putfield 40, 3) := by decide +kernel
theorem dX8_begin_78 : decode cX8_begin 78 = .ok (.aload_n 0, 1) := by decide +kernel
theorem dX8_begin_79 : decode cX8_begin 79 = .ok (.bipush 111, 2) := by decide +kernel
theorem dX8_begin_81 : decode cX8_begin 81 = .ok (.putfield 36, 3) := by decide +kernel
theorem dX8_begin_84 : decode cX8_begin 84 = .ok (.aload_n 0, 1) := by decide +kernel
theorem dX8_begin_85 : decode cX8_begin 85 = .ok (.getfield 16, 3) := by decide +kernel
theorem dX8_begin_88 : decode cX8_begin 88 = .ok (.invokevirtual 169, 3) := by decide +kernel
theorem dX8_begin_91 : decode cX8_begin 91 = .ok (.aload_n 0, 1) := by decide +kernel
theorem dX8_begin_92 : decode cX8_begin 92 = .ok (.invokevirtual 172, 3) := by decide +kernel
theorem dX8_begin_95 : decode cX8_begin 95 = .ok (.aload_n 0, 1) := by decide +kernel
theorem dX8_begin_96 : decode cX8_begin 96 = .ok (.getfield 16, 3) := by decide +kernel
theorem dX8_begin_99 : decode cX8_begin 99 = .ok (.getfield 175, 3) := by decide +kernel
theorem dX8_begin_102 : decode cX8_begin 102 = .ok (.ireturn, 1) := by decide +kernel
theorem dX8_go_0 : decode cX8_go 0 = .ok (.iload_n 1, 1) := by decide +kernel
theorem dX8_go_1 : decode cX8_go 1 = .ok (.invokestatic 181, 3) := by decide +kernel
theorem dX8_go_4 : decode cX8_go 4 = .ok (.aload_n 0, 1) := by decide +kernel
theorem dX8_go_5 : decode cX8_go 5 = .ok (.invokevirtual 178, 3) := by decide +kernel
theorem dX8_go_8 : decode cX8_go 8 = .ok (.aload_n 0, 1) := by decide +kernel
theorem dX8_go_9 : decode cX8_go 9 = .ok (.iconst 0, 1) := by decide +kernel
theorem dX8_go_10 : decode cX8_go 10 = .ok (.iload_n 1, 1) := by decide +kernel
theorem dX8_go_11 : decode cX8_go 11 = .ok (.iconst 0, 1) := by decide +kernel
theorem dX8_go_12 : decode cX8_go 12 = .ok (.invokevirtual 184, 3) := by decide +kernel
theorem dX8_go_15 : decode cX8_go 15 = .ok (.istore_n 2, 1) := by decide +kernel
theorem dX8_go_16 : decode cX8_go 16 = .ok (.iload_n 2, 1) := by decide +kernel
theorem dX8_go_17 : decode cX8_go 17 = .ok (.ldc 188, 2) := by decide +kernel
theorem dX8_go_19 : decode cX8_go 19 = .ok (.if_icmp .ne 8, 3) := by decide +kernel
theorem dX8_go_22 : decode cX8_go 22 = .ok (.bipush 98, 2) := by decide +kernel
theorem dX8_go_24 : decode cX8_go 24 = .ok (.goto 5, 3) := by decide +kernel
theorem dX8_go_27 : decode cX8_go 27 = .ok (.iload_n 2, 1) := by decide +kernel
theorem dX8_go_28 : decode cX8_go 28 = .ok (.i2c, 1) := by decide +kernel
theorem dX8_go_29 : decode cX8_go 29 = .ok (.ireturn, 1) := by decide +kernel
theorem dX8_rest_0 : decode cX8_rest 0 = .ok (.aload_n 0, 1) := by decide +kernel
theorem dX8_rest_1 : decode cX8_rest 1 = .ok (.invokevirtual 178, 3) := by decide +kernel
theorem dX8_rest_4 : decode cX8_rest 4 = .ok (.aload_n 0, 1) := by decide +kernel
theorem dX8_rest_5 : decode cX8_rest 5 = .ok (.iconst 1, 1) := by decide +kernel
theorem dX8_rest_6 : decode cX8_rest 6 = .ok (.iconst 0, 1) := by decide +kernel
theorem dX8_rest_7 : decode cX8_rest 7 = .ok (.iconst 0, 1) := by decide +kernel
theorem dX8_rest_8 : decode cX8_rest 8 = .ok (.invokevirtual 184, 3) := by decide +kernel
theorem dX8_rest_11 : decode cX8_rest 11 = .ok (.pop, 1) := by decide +kernel
theorem dX8_rest_12 : decode cX8_rest 12 = .ok (.aload_n 0, 1) := by decide +kernel
theorem dX8_rest_13 : decode cX8_rest 13 = .ok (.getfield 16, 3) := by decide +kernel
theorem dX8_rest_16 : decode cX8_rest 16 = .ok (.getfield 175, 3) := by decide +kernel
theorem dX8_rest_19 : decode cX8_rest 19 = .ok (.ireturn, 1) := by decide +kernel
theorem dX8_take_0 : decode cX8_take 0 = .ok (.aload_n 0, 1) := by decide +kernel
theorem dX8_take_1 : decode cX8_take 1 = .ok (.iload_n 1, 1) := by decide +kernel
theorem dX8_take_2 : decode cX8_take 2 = .ok (.invokevirtual 129, 3) := by decide +kernel
theorem dX8_take_5 : decode cX8_take 5 = .ok (.aload_n 0, 1) := by decide +kernel
theorem dX8_take_6 : decode cX8_take 6 = .ok (.invokevirtual 178, 3) := by decide +kernel
theorem dX8_take_9 : decode cX8_take 9 = .ok (.aload_n 0, 1) := by decide +kernel
theorem dX8_take_10 : decode cX8_take 10 = .ok (.getfield 16, 3) := by decide +kernel
theorem dX8_take_13 : decode cX8_take 13 = .ok (.getfield 136, 3) := by decide +kernel
theorem dX8_take_16 : decode cX8_take 16 = .ok (.getfield 189, 3) := by decide +kernel
theorem dX8_take_19 : decode cX8_take 19 = .ok (.iload_n 1, 1) := by decide +kernel
theorem dX8_take_20 : decode cX8_take 20 = .ok (.invokestatic 94, 3) := by decide +kernel
theorem dX8_take_23 : decode cX8_take 23 = .ok (.aload_n 0, 1) := by decide +kernel
theorem dX8_take_24 : decode cX8_take 24 = .ok (.getfield 16, 3) := by decide +kernel
theorem dX8_take_27 : decode cX8_take 27 = .ok (.invokevirtual 192, 3) := by decide +kernel
theorem dX8_take_30 : decode cX8_take 30 = .ok (.if_icmp .eq 11, 3) := by decide +kernel
theorem dX8_take_33 : decode cX8_take 33 = .ok (.new 196, 3) := by decide +kernel
theorem dX8_take_36 : decode cX8_take 36 = .ok (.dup, 1) := by decide +kernel
theorem dX8_take_37 : decode cX8_take 37 = .ok (.invokespecial 198, 3) := by decide +kernel
theorem dX8_take_40 : decode cX8_take 40 = .ok (.athrow, 1) := by decide +kernel
theorem dX8_take_41 : decode cX8_take 41 = .ok (.aload_n 0, 1) := by decide +kernel
theorem dX8_take_42 : decode cX8_take 42 = .ok (.getfield 16, 3) := by decide +kernel
theorem dX8_take_45 : decode cX8_take 45 = .ok (.getfield 136, 3) := by decide +kernel
theorem dX8_take_48 : decode cX8_take 48 = .ok (.aload_n 0, 1) := by decide +kernel
theorem dX8_take_49 : decode cX8_take 49 = .ok (.getfield 16, 3) := by decide +kernel
theorem dX8_take_52 : decode cX8_take 52 = .ok (.getfield 84, 3) := by decide +kernel
theorem dX8_take_55 : decode cX8_take 55 = .ok (.invokevirtual 199, 3) := by decide +kernel
theorem dX8_take_58 : decode cX8_take 58 = .ok (.aload_n 0, 1) := by decide +kernel
theorem dX8_take_59 : decode cX8_take 59 = .ok (.getfield 16, 3) := by decide +kernel
theorem dX8_take_62 : decode cX8_take 62 = .ok (.getfield 136, 3) := by decide +kernel
theorem dX8_take_65 : decode cX8_take 65 = .ok (.iload_n 1, 1) := by decide +kernel
theorem dX8_take_66 : decode cX8_take 66 = .ok (.aload_n 0, 1) := by decide +kernel
theorem dX8_take_67 : decode cX8_take 67 = .ok (.getfield 16, 3) := by decide +kernel
theorem dX8_take_70 : decode cX8_take 70 = .ok (.getfield 84, 3) := by decide +kernel
theorem dX8_take_73 : decode cX8_take 73 = .ok (.invokevirtual 203, 3) := by decide +kernel
theorem dX8_take_76 : decode cX8_take 76 = .ok (.iadd, 1) := by decide +kernel
theorem dX8_take_77 : decode cX8_take 77 = .ok (.bipush 30, 2) := by decide +kernel
theorem dX8_take_79 : decode cX8_take 79 = .ok (.if_icmp .le 11, 3) := by decide +kernel
theorem dX8_take_82 : decode cX8_take 82 = .ok (.new 207, 3) := by decide +kernel
theorem dX8_take_85 : decode cX8_take 85 = .ok (.dup, 1) := by decide +kernel
theorem dX8_take_86 : decode cX8_take 86 = .ok (.invokespecial 209, 3) := by decide +kernel
theorem dX8_take_89 : decode cX8_take 89 = .ok (.athrow, 1) := by decide +kernel
theorem dX8_take_90 : decode cX8_take 90 = .ok (.aload_n 0, 1) := by decide +kernel
theorem dX8_take_91 : decode cX8_take 91 = .ok (.iconst 2, 1) := by decide +kernel
theorem dX8_take_92 : decode cX8_take 92 = .ok (.iload_n 1, 1) := by decide +kernel
theorem dX8_take_93 : decode cX8_take 93 = .ok (.iconst 0, 1) := by decide +kernel
theorem dX8_take_94 : decode cX8_take 94 = .ok (.invokevirtual 184, 3) := by decide +kernel
theorem dX8_take_97 : decode cX8_take 97 = .ok (.ireturn, 1) := by decide +kernel
theorem dX8_drop_0 : decode cX8_drop 0 = .ok (.aload_n 0, 1) := by decide +kernel
theorem dX8_drop_1 : decode cX8_drop 1 = .ok (.iload_n 1, 1) := by decide +kernel
theorem dX8_drop_2 : decode cX8_drop 2 = .ok (.invokevirtual 129, 3) := by decide +kernel
theorem dX8_drop_5 : decode cX8_drop 5 = .ok (.aload_n 0, 1) := by decide +kernel
theorem dX8_drop_6 : decode cX8_drop 6 = .ok (.invokevirtual 178, 3) := by decide +kernel
theorem dX8_drop_9 : decode cX8_drop 9 = .ok (.aload_n 0, 1) := by decide +kernel
theorem dX8_drop_10 : decode cX8_drop 10 = .ok (.iload_n 1, 1) := by decide +kernel
theorem dX8_drop_11 : decode cX8_drop 11 = .ok (.invokevirtual 210, 3) := by decide +kernel
theorem dX8_drop_14 : decode cX8_drop 14 = .ok (.aload_n 0, 1) := by decide +kernel
theorem dX8_drop_15 : decode cX8_drop 15 = .ok (.iconst 3, 1) := by decide +kernel
theorem dX8_drop_16 : decode cX8_drop 16 = .ok (.iload_n 1, 1) := by decide +kernel
theorem dX8_drop_17 : decode cX8_drop 17 = .ok (.iconst 0, 1) := by decide +kernel
theorem dX8_drop_18 : decode cX8_drop 18 = .ok (.invokevirtual 184, 3) := by decide +kernel
theorem dX8_drop_21 : decode cX8_drop 21 = .ok (.ireturn, 1) := by decide +kernel
theorem dX8_pack_0 : decode cX8_pack 0 = .ok (.aload_n 0, 1) := by decide +kernel
theorem dX8_pack_1 : decode cX8_pack 1 = .ok (.iload_n 1, 1) := by decide +kernel
theorem dX8_pack_2 : decode cX8_pack 2 = .ok (.invokevirtual 129, 3) := by decide +kernel
theorem dX8_pack_5 : decode cX8_pack 5 = .ok (.iload_n 2, 1) := by decide +kernel
theorem dX8_pack_6 : decode cX8_pack 6 = .ok (.iconst (-1), 1) := by decide +kernel
theorem dX8_pack_7 : decode cX8_pack 7 = .ok (.if_icmp .eq 8, 3) := by decide +kernel
theorem dX8_pack_10 : decode cX8_pack 10 = .ok (.aload_n 0, 1) := by decide +kernel
theorem dX8_pack_11 : decode cX8_pack 11 = .ok (.iload_n 2, 1) := by decide +kernel
theorem dX8_pack_12 : decode cX8_pack 12 = .ok (.invokevirtual 129, 3) := by decide +kernel
theorem dX8_pack_15 : decode cX8_pack 15 = .ok (.aload_n 0, 1) := by decide +kernel
theorem dX8_pack_16 : decode cX8_pack 16 = .ok (.invokevirtual 178, 3) := by decide +kernel
theorem dX8_pack_19 : decode cX8_pack 19 = .ok (.aload_n 0, 1) := by decide +kernel
theorem dX8_pack_20 : decode cX8_pack 20 = .ok (.iload_n 1, 1) := by decide +kernel
theorem dX8_pack_21 : decode cX8_pack 21 = .ok (.invokevirtual 213, 3) := by decide +kernel
theorem dX8_pack_24 : decode cX8_pack 24 = .ok (.iload_n 2, 1) := by decide +kernel
theorem dX8_pack_25 : decode cX8_pack 25 = .ok (.iconst (-1), 1) := by decide +kernel
theorem dX8_pack_26 : decode cX8_pack 26 = .ok (.if_icmp .eq 36, 3) := by decide +kernel
theorem dX8_pack_29 : decode cX8_pack 29 = .ok (.aload_n 0, 1) := by decide +kernel
theorem dX8_pack_30 : decode cX8_pack 30 = .ok (.iload_n 2, 1) := by decide +kernel
theorem dX8_pack_31 : decode cX8_pack 31 = .ok (.invokevirtual 213, 3) := by decide +kernel
theorem dX8_pack_34 : decode cX8_pack 34 = .ok (.aload_n 0, 1) := by decide +kernel
theorem dX8_pack_35 : decode cX8_pack 35 = .ok (.iload_n 2, 1) := by decide +kernel
theorem dX8_pack_36 : decode cX8_pack 36 = .ok (.invokevirtual 133, 3) := by decide +kernel
theorem dX8_pack_39 : decode cX8_pack 39 = .ok (.aload_n 0, 1) := by decide +kernel
theorem dX8_pack_40 : decode cX8_pack 40 = .ok (.getfield 16, 3) := by decide +kernel
theorem dX8_pack_43 : decode cX8_pack 43 = .ok (.getfield 136, 3) := by decide +kernel
theorem dX8_pack_46 : decode cX8_pack 46 = .ok (.iload_n 2, 1) := by decide +kernel
theorem dX8_pack_47 : decode cX8_pack 47 = .ok (.iload_n 1, 1) := by decide +kernel
theorem dX8_pack_48 : decode cX8_pack 48 = .ok (.invokevirtual 216, 3) := by decide +kernel
theorem dX8_pack_51 : decode cX8_pack 51 = .ok (.ifCond .eq 11, 3) := by decide +kernel
theorem dX8_pack_54 : decode cX8_pack 54 = .ok (.new 207, 3) := by decide +kernel
theorem dX8_pack_57 : decode cX8_pack 57 = .ok (.dup, 1) := by decide +kernel
theorem dX8_pack_58 : decode cX8_pack 58 = .ok (.invokespecial 209, 3) := by decide +kernel
theorem dX8_pack_61 : decode cX8_pack 61 = .ok (.athrow, 1) := by decide +kernel
theorem dX8_pack_62 : decode cX8_pack 62 = .ok (.aload_n 0, 1) := by decide +kernel
theorem dX8_pack_63 : decode cX8_pack 63 = .ok (.iconst 4, 1) := by decide +kernel
theorem dX8_pack_64 : decode cX8_pack 64 = .ok (.iload_n 1, 1) := by decide +kernel
theorem dX8_pack_65 : decode cX8_pack 65 = .ok (.iload_n 2, 1) := by decide +kernel
theorem dX8_pack_66 : decode cX8_pack 66 = .ok (.invokevirtual 184, 3) := by decide +kernel
theorem dX8_pack_69 : decode cX8_pack 69 = .ok (.ireturn, 1) := by decide +kernel
theorem dX8_drink_0 : decode cX8_drink 0 = .ok (.aload_n 0, 1) := by decide +kernel
theorem dX8_drink_1 : decode cX8_drink 1 = .ok (.iload_n 1, 1) := by decide +kernel
theorem dX8_drink_2 : decode cX8_drink 2 = .ok (.invokevirtual 129, 3) := by decide +kernel
theorem dX8_drink_5 : decode cX8_drink 5 = .ok (.aload_n 0, 1) := by decide +kernel
theorem dX8_drink_6 : decode cX8_drink 6 = .ok (.invokevirtual 178, 3) := by decide +kernel
theorem dX8_drink_9 : decode cX8_drink 9 = .ok (.aload_n 0, 1) := by decide +kernel
theorem dX8_drink_10 : decode cX8_drink 10 = .ok (.iload_n 1, 1) := by decide +kernel
theorem dX8_drink_11 : decode cX8_drink 11 = .ok (.invokevirtual 210, 3) := by decide +kernel
theorem dX8_drink_14 : decode cX8_drink 14 = .ok (.aload_n 0, 1) := by decide +kernel
theorem dX8_drink_15 : decode cX8_drink 15 = .ok (.getfield 16, 3) := by decide +kernel
theorem dX8_drink_18 : decode cX8_drink 18 = .ok (.getfield 136, 3) := by decide +kernel
theorem dX8_drink_21 : decode cX8_drink 21 = .ok (.getfield 220, 3) := by decide +kernel
theorem dX8_drink_24 : decode cX8_drink 24 = .ok (.iload_n 1, 1) := by decide +kernel
theorem dX8_drink_25 : decode cX8_drink 25 = .ok (.invokestatic 94, 3) := by decide +kernel
theorem dX8_drink_28 : decode cX8_drink 28 = .ok (.invokestatic 223, 3) := by decide +kernel
theorem dX8_drink_31 : decode cX8_drink 31 = .ok (.ifCond .ne 11, 3) := by decide +kernel
theorem dX8_drink_34 : decode cX8_drink 34 = .ok (.new 207, 3) := by decide +kernel
theorem dX8_drink_37 : decode cX8_drink 37 = .ok (.dup, 1) := by decide +kernel
theorem dX8_drink_38 : decode cX8_drink 38 = .ok (.invokespecial 209, 3) := by decide +kernel
theorem dX8_drink_41 : decode cX8_drink 41 = .ok (.athrow, 1) := by decide +kernel
theorem dX8_drink_42 : decode cX8_drink 42 = .ok (.aload_n 0, 1) := by decide +kernel
theorem dX8_drink_43 : decode cX8_drink 43 = .ok (.iconst 5, 1) := by decide +kernel
theorem dX8_drink_44 : decode cX8_drink 44 = .ok (.iload_n 1, 1) := by decide +kernel
theorem dX8_drink_45 : decode cX8_drink 45 = .ok (.iconst 0, 1) := by decide +kernel
theorem dX8_drink_46 : decode cX8_drink 46 = .ok (.invokevirtual 184, 3) := by decide +kernel
theorem dX8_drink_49 : decode cX8_drink 49 = .ok (.ireturn, 1) := by decide +kernel
theorem dX8_hurl_0 : decode cX8_hurl 0 = .ok (.aload_n 0, 1) := by decide +kernel
theorem dX8_hurl_1 : decode cX8_hurl 1 = .ok (.iload_n 1, 1) := by decide +kernel
theorem dX8_hurl_2 : decode cX8_hurl 2 = .ok (.invokevirtual 129, 3) := by decide +kernel
theorem dX8_hurl_5 : decode cX8_hurl 5 = .ok (.iload_n 2, 1) := by decide +kernel
theorem dX8_hurl_6 : decode cX8_hurl 6 = .ok (.invokestatic 181, 3) := by decide +kernel
theorem dX8_hurl_9 : decode cX8_hurl 9 = .ok (.aload_n 0, 1) := by decide +kernel
theorem dX8_hurl_10 : decode cX8_hurl 10 = .ok (.invokevirtual 178, 3) := by decide +kernel
theorem dX8_hurl_13 : decode cX8_hurl 13 = .ok (.aload_n 0, 1) := by decide +kernel
theorem dX8_hurl_14 : decode cX8_hurl 14 = .ok (.iload_n 1, 1) := by decide +kernel
theorem dX8_hurl_15 : decode cX8_hurl 15 = .ok (.invokevirtual 210, 3) := by decide +kernel
theorem dX8_hurl_18 : decode cX8_hurl 18 = .ok (.aload_n 0, 1) := by decide +kernel
theorem dX8_hurl_19 : decode cX8_hurl 19 = .ok (.bipush 6, 2) := by decide +kernel
theorem dX8_hurl_21 : decode cX8_hurl 21 = .ok (.iload_n 1, 1) := by decide +kernel
theorem dX8_hurl_22 : decode cX8_hurl 22 = .ok (.iload_n 2, 1) := by decide +kernel
theorem dX8_hurl_23 : decode cX8_hurl 23 = .ok (.invokevirtual 184, 3) := by decide +kernel
theorem dX8_hurl_26 : decode cX8_hurl 26 = .ok (.ireturn, 1) := by decide +kernel
theorem dX8_shout_0 : decode cX8_shout 0 = .ok (.iload_n 1, 1) := by decide +kernel
theorem dX8_shout_1 : decode cX8_shout 1 = .ok (.iconst 1, 1) := by decide +kernel
theorem dX8_shout_2 : decode cX8_shout 2 = .ok (.bipush 30, 2) := by decide +kernel
theorem dX8_shout_4 : decode cX8_shout 4 = .ok (.invokestatic 80, 3) := by decide +kernel
theorem dX8_shout_7 : decode cX8_shout 7 = .ok (.aload_n 0, 1) := by decide +kernel
theorem dX8_shout_8 : decode cX8_shout 8 = .ok (.invokevirtual 178, 3) := by decide +kernel
theorem dX8_shout_11 : decode cX8_shout 11 = .ok (.aload_n 0, 1) := by decide +kernel
theorem dX8_shout_12 : decode cX8_shout 12 = .ok (.bipush 7, 2) := by decide +kernel
theorem dX8_shout_14 : decode cX8_shout 14 = .ok (.iload_n 1, 1) := by decide +kernel
theorem dX8_shout_15 : decode cX8_shout 15 = .ok (.iconst 0, 1) := by decide +kernel
theorem dX8_shout_16 : decode cX8_shout 16 = .ok (.invokevirtual 184, 3) := by decide +kernel
theorem dX8_shout_19 : decode cX8_shout 19 = .ok (.ireturn, 1) := by decide +kernel
theorem dX8_pray_0 : decode cX8_pray 0 = .ok (.aload_n 0, 1) := by decide +kernel
theorem dX8_pray_1 : decode cX8_pray 1 = .ok (.invokevirtual 178, 3) := by decide +kernel
theorem dX8_pray_4 : decode cX8_pray 4 = .ok (.aload_n 0, 1) := by decide +kernel
theorem dX8_pray_5 : decode cX8_pray 5 = .ok (.bipush 8, 2) := by decide +kernel
theorem dX8_pray_7 : decode cX8_pray 7 = .ok (.iconst 0, 1) := by decide +kernel
theorem dX8_pray_8 : decode cX8_pray 8 = .ok (.iconst 0, 1) := by decide +kernel
theorem dX8_pray_9 : decode cX8_pray 9 = .ok (.invokevirtual 184, 3) := by decide +kernel
theorem dX8_pray_12 : decode cX8_pray 12 = .ok (.ireturn, 1) := by decide +kernel
theorem dX8_state_0 : decode cX8_state 0 = .ok (.aload_n 0, 1) := by decide +kernel
theorem dX8_state_1 : decode cX8_state 1 = .ok (.getfield 36, 3) := by decide +kernel
theorem dX8_state_4 : decode cX8_state 4 = .ok (.ireturn, 1) := by decide +kernel
theorem dX8_tick_0 : decode cX8_tick 0 = .ok (.aload_n 0, 1) := by decide +kernel
theorem dX8_tick_1 : decode cX8_tick 1 = .ok (.invokevirtual 227, 3) := by decide +kernel
theorem dX8_tick_4 : decode cX8_tick 4 = .ok (.getfield 175, 3) := by decide +kernel
theorem dX8_tick_7 : decode cX8_tick 7 = .ok (.ireturn, 1) := by decide +kernel
theorem dX8_cell_0 : decode cX8_cell 0 = .ok (.iload_n 1, 1) := by decide +kernel
theorem dX8_cell_1 : decode cX8_cell 1 = .ok (.iload_n 2, 1) := by decide +kernel
theorem dX8_cell_2 : decode cX8_cell 2 = .ok (.invokestatic 44, 3) := by decide +kernel
theorem dX8_cell_5 : decode cX8_cell 5 = .ok (.aload_n 0, 1) := by decide +kernel
theorem dX8_cell_6 : decode cX8_cell 6 = .ok (.invokevirtual 227, 3) := by decide +kernel
theorem dX8_cell_9 : decode cX8_cell 9 = .ok (.getfield 62, 3) := by decide +kernel
theorem dX8_cell_12 : decode cX8_cell 12 = .ok (.iload_n 1, 1) := by decide +kernel
theorem dX8_cell_13 : decode cX8_cell 13 = .ok (.iload_n 2, 1) := by decide +kernel
theorem dX8_cell_14 : decode cX8_cell 14 = .ok (.invokestatic 66, 3) := by decide +kernel
theorem dX8_cell_17 : decode cX8_cell 17 = .ok (.invokevirtual 70, 3) := by decide +kernel
theorem dX8_cell_20 : decode cX8_cell 20 = .ok (.ireturn, 1) := by decide +kernel
theorem dX8_placeOf_0 : decode cX8_placeOf 0 = .ok (.aload_n 0, 1) := by decide +kernel
theorem dX8_placeOf_1 : decode cX8_placeOf 1 = .ok (.iload_n 1, 1) := by decide +kernel
theorem dX8_placeOf_2 : decode cX8_placeOf 2 = .ok (.iconst 0, 1) := by decide +kernel
theorem dX8_placeOf_3 : decode cX8_placeOf 3 = .ok (.invokevirtual 237, 3) := by decide +kernel
theorem dX8_placeOf_6 : decode cX8_placeOf 6 = .ok (.aload_n 0, 1) := by decide +kernel
theorem dX8_placeOf_7 : decode cX8_placeOf 7 = .ok (.invokevirtual 227, 3) := by decide +kernel
theorem dX8_placeOf_10 : decode cX8_placeOf 10 = .ok (.getfield 111, 3) := by decide +kernel
theorem dX8_placeOf_13 : decode cX8_placeOf 13 = .ok (.getfield 240, 3) := by decide +kernel
theorem dX8_placeOf_16 : decode cX8_placeOf 16 = .ok (.iload_n 1, 1) := by decide +kernel
theorem dX8_placeOf_17 : decode cX8_placeOf 17 = .ok (.invokestatic 94, 3) := by decide +kernel
theorem dX8_placeOf_20 : decode cX8_placeOf 20 = .ok (.invokestatic 241, 3) := by decide +kernel
theorem dX8_placeOf_23 : decode cX8_placeOf 23 = .ok (.ireturn, 1) := by decide +kernel
theorem dX8_healthOf_0 : decode cX8_healthOf 0 = .ok (.aload_n 0, 1) := by decide +kernel
theorem dX8_healthOf_1 : decode cX8_healthOf 1 = .ok (.iload_n 1, 1) := by decide +kernel
theorem dX8_healthOf_2 : decode cX8_healthOf 2 = .ok (.iconst 0, 1) := by decide +kernel
theorem dX8_healthOf_3 : decode cX8_healthOf 3 = .ok (.invokevirtual 237, 3) := by decide +kernel
theorem dX8_healthOf_6 : decode cX8_healthOf 6 = .ok (.aload_n 0, 1) := by decide +kernel
theorem dX8_healthOf_7 : decode cX8_healthOf 7 = .ok (.invokevirtual 227, 3) := by decide +kernel
theorem dX8_healthOf_10 : decode cX8_healthOf 10 = .ok (.getfield 111, 3) := by decide +kernel
theorem dX8_healthOf_13 : decode cX8_healthOf 13 = .ok (.getfield 115, 3) := by decide +kernel
theorem dX8_healthOf_16 : decode cX8_healthOf 16 = .ok (.iload_n 1, 1) := by decide +kernel
theorem dX8_healthOf_17 : decode cX8_healthOf 17 = .ok (.invokestatic 94, 3) := by decide +kernel
theorem dX8_healthOf_20 : decode cX8_healthOf 20 = .ok (.ireturn, 1) := by decide +kernel
theorem dX8_whereIs_0 : decode cX8_whereIs 0 = .ok (.aload_n 0, 1) := by decide +kernel
theorem dX8_whereIs_1 : decode cX8_whereIs 1 = .ok (.iload_n 1, 1) := by decide +kernel
theorem dX8_whereIs_2 : decode cX8_whereIs 2 = .ok (.invokevirtual 129, 3) := by decide +kernel
theorem dX8_whereIs_5 : decode cX8_whereIs 5 = .ok (.aload_n 0, 1) := by decide +kernel
theorem dX8_whereIs_6 : decode cX8_whereIs 6 = .ok (.invokevirtual 227, 3) := by decide +kernel
theorem dX8_whereIs_9 : decode cX8_whereIs 9 = .ok (.getfield 136, 3) := by decide +kernel
theorem dX8_whereIs_12 : decode cX8_whereIs 12 = .ok (.getfield 189, 3) := by decide +kernel
theorem dX8_whereIs_15 : decode cX8_whereIs 15 = .ok (.iload_n 1, 1) := by decide +kernel
theorem dX8_whereIs_16 : decode cX8_whereIs 16 = .ok (.invokestatic 94, 3) := by decide +kernel
theorem dX8_whereIs_19 : decode cX8_whereIs 19 = .ok (.istore_n 2, 1) := by decide +kernel
theorem dX8_whereIs_20 : decode cX8_whereIs 20 = .ok (.iload_n 2, 1) := by decide +kernel
theorem dX8_whereIs_21 : decode cX8_whereIs 21 = .ok (.ifCond .ge 7, 3) := by decide +kernel
theorem dX8_whereIs_24 : decode cX8_whereIs 24 = .ok (.iload_n 2, 1) := by decide +kernel
theorem dX8_whereIs_25 : decode cX8_whereIs 25 = .ok (.goto 7, 3) := by decide +kernel
theorem dX8_whereIs_28 : decode cX8_whereIs 28 = .ok (.iload_n 2, 1) := by decide +kernel
theorem dX8_whereIs_29 : decode cX8_whereIs 29 = .ok (.invokestatic 241, 3) := by decide +kernel
theorem dX8_whereIs_32 : decode cX8_whereIs 32 = .ok (.ireturn, 1) := by decide +kernel
theorem dX8_weightOf_0 : decode cX8_weightOf 0 = .ok (.aload_n 0, 1) := by decide +kernel
theorem dX8_weightOf_1 : decode cX8_weightOf 1 = .ok (.iload_n 1, 1) := by decide +kernel
theorem dX8_weightOf_2 : decode cX8_weightOf 2 = .ok (.invokevirtual 129, 3) := by decide +kernel
theorem dX8_weightOf_5 : decode cX8_weightOf 5 = .ok (.aload_n 0, 1) := by decide +kernel
theorem dX8_weightOf_6 : decode cX8_weightOf 6 = .ok (.invokevirtual 227, 3) := by decide +kernel
theorem dX8_weightOf_9 : decode cX8_weightOf 9 = .ok (.astore_n 2, 1) := by decide +kernel
theorem dX8_weightOf_10 : decode cX8_weightOf 10 = .ok (.aload_n 2, 1) := by decide +kernel
theorem dX8_weightOf_11 : decode cX8_weightOf 11 = .ok (.getfield 136, 3) := by decide +kernel
theorem dX8_weightOf_14 : decode cX8_weightOf 14 = .ok (.iload_n 1, 1) := by decide +kernel
theorem dX8_weightOf_15 : decode cX8_weightOf 15 = .ok (.aload_n 2, 1) := by decide +kernel
theorem dX8_weightOf_16 : decode cX8_weightOf 16 = .ok (.getfield 84, 3) := by decide +kernel
theorem dX8_weightOf_19 : decode cX8_weightOf 19 = .ok (.invokevirtual 203, 3) := by decide +kernel
theorem dX8_weightOf_22 : decode cX8_weightOf 22 = .ok (.ireturn, 1) := by decide +kernel
theorem dX8_isSame_0 : decode cX8_isSame 0 = .ok (.aload_n 0, 1) := by decide +kernel
theorem dX8_isSame_1 : decode cX8_isSame 1 = .ok (.getfield 36, 3) := by decide +kernel
theorem dX8_isSame_4 : decode cX8_isSame 4 = .ok (.bipush 110, 2) := by decide +kernel
theorem dX8_isSame_6 : decode cX8_isSame 6 = .ok (.if_icmp .ne 11, 3) := by decide +kernel
theorem dX8_isSame_9 : decode cX8_isSame 9 = .ok (.new 161, 3) := by decide +kernel
theorem dX8_isSame_12 : decode cX8_isSame 12 = .ok (.dup, 1) := by decide +kernel
theorem dX8_isSame_13 : decode cX8_isSame 13 = .ok (.invokespecial 163, 3) := by decide +kernel
theorem dX8_isSame_16 : decode cX8_isSame 16 = .ok (.athrow, 1) := by decide +kernel
theorem dX8_isSame_17 : decode cX8_isSame 17 = .ok (.aload_n 0, 1) := by decide +kernel
theorem dX8_isSame_18 : decode cX8_isSame 18 = .ok (.invokevirtual 253, 3) := by decide +kernel
theorem dX8_isSame_21 : decode cX8_isSame 21 = .ok (.aload_n 0, 1) := by decide +kernel
theorem dX8_isSame_22 : decode cX8_isSame 22 = .ok (.getfield 16, 3) := by decide +kernel
theorem dX8_isSame_25 : decode cX8_isSame 25 = .ok (.aload_n 0, 1) := by decide +kernel
theorem dX8_isSame_26 : decode cX8_isSame 26 = .ok (.getfield 19, 3) := by decide +kernel
theorem dX8_isSame_29 : decode cX8_isSame 29 = .ok (.invokevirtual 256, 3) := by decide +kernel
theorem dX8_isSame_32 : decode cX8_isSame 32 = .ok (.ireturn, 1) := by decide +kernel
theorem dX8_shown_0 : decode cX8_shown 0 = .ok (.aload_n 0, 1) := by decide +kernel
theorem dX8_shown_1 : decode cX8_shown 1 = .ok (.getfield 36, 3) := by decide +kernel
theorem dX8_shown_4 : decode cX8_shown 4 = .ok (.bipush 110, 2) := by decide +kernel
theorem dX8_shown_6 : decode cX8_shown 6 = .ok (.if_icmp .ne 10, 3) := by decide +kernel
theorem dX8_shown_9 : decode cX8_shown 9 = .ok (.aload_n 0, 1) := by decide +kernel
theorem dX8_shown_10 : decode cX8_shown 10 = .ok (.getfield 12, 3) := by decide +kernel
theorem dX8_shown_13 : decode cX8_shown 13 = .ok (.goto 7, 3) := by decide +kernel
theorem dX8_shown_16 : decode cX8_shown 16 = .ok (.aload_n 0, 1) := by decide +kernel
theorem dX8_shown_17 : decode cX8_shown 17 = .ok (.getfield 16, 3) := by decide +kernel
theorem dX8_shown_20 : decode cX8_shown 20 = .ok (.areturn, 1) := by decide +kernel
theorem dX8_make_0 : decode cX8_make 0 = .ok (.aload_n 1, 1) := by decide +kernel
theorem dX8_make_1 : decode cX8_make 1 = .ok (.aload_n 0, 1) := by decide +kernel
theorem dX8_make_2 : decode cX8_make 2 = .ok (.getfield 12, 3) := by decide +kernel
theorem dX8_make_5 : decode cX8_make 5 = .ok (.invokevirtual 269, 3) := by decide +kernel
theorem dX8_make_8 : decode cX8_make 8 = .ok (.aload_n 1, 1) := by decide +kernel
theorem dX8_make_9 : decode cX8_make 9 = .ok (.iload_n 2, 1) := by decide +kernel
theorem dX8_make_10 : decode cX8_make 10 = .ok (.bipush 6, 2) := by decide +kernel
theorem dX8_make_12 : decode cX8_make 12 = .ok (.irem, 1) := by decide +kernel
theorem dX8_make_13 : decode cX8_make 13 = .ok (.putfield 273, 3) := by decide +kernel
theorem dX8_make_16 : decode cX8_make 16 = .ok (.aload_n 0, 1) := by decide +kernel
theorem dX8_make_17 : decode cX8_make 17 = .ok (.getfield 32, 3) := by decide +kernel
theorem dX8_make_20 : decode cX8_make 20 = .ok (.aload_n 1, 1) := by decide +kernel
theorem dX8_make_21 : decode cX8_make 21 = .ok (.invokevirtual 276, 3) := by decide +kernel
theorem dX8_make_24 : decode cX8_make 24 = .ok (.return_, 1) := by decide +kernel
theorem dX8_act_0 : decode cX8_act 0 = .ok (.aload_n 0, 1) := by decide +kernel
theorem dX8_act_1 : decode cX8_act 1 = .ok (.getfield 16, 3) := by decide +kernel
theorem dX8_act_4 : decode cX8_act 4 = .ok (.iload_n 1, 1) := by decide +kernel
theorem dX8_act_5 : decode cX8_act 5 = .ok (.iload_n 2, 1) := by decide +kernel
theorem dX8_act_6 : decode cX8_act 6 = .ok (.iload_n 3, 1) := by decide +kernel
theorem dX8_act_7 : decode cX8_act 7 = .ok (.invokevirtual 279, 3) := by decide +kernel
theorem dX8_act_10 : decode cX8_act 10 = .ok (.istore 4, 2) := by decide +kernel
theorem dX8_act_12 : decode cX8_act 12 = .ok (.iload 4, 2) := by decide +kernel
theorem dX8_act_14 : decode cX8_act 14 = .ok (.ldc 188, 2) := by decide +kernel
theorem dX8_act_16 : decode cX8_act 16 = .ok (.if_icmp .eq 24, 3) := by decide +kernel
theorem dX8_act_19 : decode cX8_act 19 = .ok (.aload_n 0, 1) := by decide +kernel
theorem dX8_act_20 : decode cX8_act 20 = .ok (.getfield 25, 3) := by decide +kernel
theorem dX8_act_23 : decode cX8_act 23 = .ok (.iload_n 1, 1) := by decide +kernel
theorem dX8_act_24 : decode cX8_act 24 = .ok (.iload_n 2, 1) := by decide +kernel
theorem dX8_act_25 : decode cX8_act 25 = .ok (.iload_n 3, 1) := by decide +kernel
theorem dX8_act_26 : decode cX8_act 26 = .ok (.invokevirtual 282, 3) := by decide +kernel
theorem dX8_act_29 : decode cX8_act 29 = .ok (.aload_n 0, 1) := by decide +kernel
theorem dX8_act_30 : decode cX8_act 30 = .ok (.getfield 16, 3) := by decide +kernel
theorem dX8_act_33 : decode cX8_act 33 = .ok (.invokevirtual 169, 3) := by decide +kernel
theorem dX8_act_36 : decode cX8_act 36 = .ok (.aload_n 0, 1) := by decide +kernel
theorem dX8_act_37 : decode cX8_act 37 = .ok (.invokevirtual 172, 3) := by decide +kernel
theorem dX8_act_40 : decode cX8_act 40 = .ok (.iload 4, 2) := by decide +kernel
theorem dX8_act_42 : decode cX8_act 42 = .ok (.ireturn, 1) := by decide +kernel
theorem dX8_settle_0 : decode cX8_settle 0 = .ok (.aload_n 0, 1) := by decide +kernel
theorem dX8_settle_1 : decode cX8_settle 1 = .ok (.getfield 16, 3) := by decide +kernel
theorem dX8_settle_4 : decode cX8_settle 4 = .ok (.getfield 111, 3) := by decide +kernel
theorem dX8_settle_7 : decode cX8_settle 7 = .ok (.iconst 0, 1) := by decide +kernel
theorem dX8_settle_8 : decode cX8_settle 8 = .ok (.invokevirtual 284, 3) := by decide +kernel
theorem dX8_settle_11 : decode cX8_settle 11 = .ok (.ifCond .ne 27, 3) := by decide +kernel
theorem dX8_settle_14 : decode cX8_settle 14 = .ok (.aload_n 0, 1) := by decide +kernel
theorem dX8_settle_15 : decode cX8_settle 15 = .ok (.getfield 32, 3) := by decide +kernel
theorem dX8_settle_18 : decode cX8_settle 18 = .ok (.aload_n 0, 1) := by decide +kernel
theorem dX8_settle_19 : decode cX8_settle 19 = .ok (.getfield 16, 3) := by decide +kernel
theorem dX8_settle_22 : decode cX8_settle 22 = .ok (.invokevirtual 287, 3) := by decide +kernel
theorem dX8_settle_25 : decode cX8_settle 25 = .ok (.aload_n 0, 1) := by decide +kernel
theorem dX8_settle_26 : decode cX8_settle 26 = .ok (.getfield 16, 3) := by decide +kernel
theorem dX8_settle_29 : decode cX8_settle 29 = .ok (.invokevirtual 290, 3) := by decide +kernel
theorem dX8_settle_32 : decode cX8_settle 32 = .ok (.aload_n 0, 1) := by decide +kernel
theorem dX8_settle_33 : decode cX8_settle 33 = .ok (.bipush 100, 2) := by decide +kernel
theorem dX8_settle_35 : decode cX8_settle 35 = .ok (.putfield 36, 3) := by decide +kernel
theorem dX8_settle_38 : decode cX8_settle 38 = .ok (.return_, 1) := by decide +kernel
theorem dX8_redo_0 : decode cX8_redo 0 = .ok (.aload_n 0, 1) := by decide +kernel
theorem dX8_redo_1 : decode cX8_redo 1 = .ok (.getfield 19, 3) := by decide +kernel
theorem dX8_redo_4 : decode cX8_redo 4 = .ok (.invokevirtual 169, 3) := by decide +kernel
theorem dX8_redo_7 : decode cX8_redo 7 = .ok (.aload_n 0, 1) := by decide +kernel
theorem dX8_redo_8 : decode cX8_redo 8 = .ok (.getfield 40, 3) := by decide +kernel
theorem dX8_redo_11 : decode cX8_redo 11 = .ok (.aload_n 0, 1) := by decide +kernel
theorem dX8_redo_12 : decode cX8_redo 12 = .ok (.getfield 25, 3) := by decide +kernel
theorem dX8_redo_15 : decode cX8_redo 15 = .ok (.getfield 168, 3) := by decide +kernel
theorem dX8_redo_18 : decode cX8_redo 18 = .ok (.if_icmp .ge 73, 3) := by decide +kernel
theorem dX8_redo_21 : decode cX8_redo 21 = .ok (.aload_n 0, 1) := by decide +kernel
theorem dX8_redo_22 : decode cX8_redo 22 = .ok (.getfield 19, 3) := by decide +kernel
theorem dX8_redo_25 : decode cX8_redo 25 = .ok (.aload_n 0, 1) := by decide +kernel
theorem dX8_redo_26 : decode cX8_redo 26 = .ok (.getfield 25, 3) := by decide +kernel
theorem dX8_redo_29 : decode cX8_redo 29 = .ok (.getfield 293, 3) := by decide +kernel
theorem dX8_redo_32 : decode cX8_redo 32 = .ok (.aload_n 0, 1) := by decide +kernel
theorem dX8_redo_33 : decode cX8_redo 33 = .ok (.getfield 40, 3) := by decide +kernel
theorem dX8_redo_36 : decode cX8_redo 36 = .ok (.invokestatic 94, 3) := by decide +kernel
theorem dX8_redo_39 : decode cX8_redo 39 = .ok (.aload_n 0, 1) := by decide +kernel
theorem dX8_redo_40 : decode cX8_redo 40 = .ok (.getfield 25, 3) := by decide +kernel
theorem dX8_redo_43 : decode cX8_redo 43 = .ok (.getfield 296, 3) := by decide +kernel
theorem dX8_redo_46 : decode cX8_redo 46 = .ok (.aload_n 0, 1) := by decide +kernel
theorem dX8_redo_47 : decode cX8_redo 47 = .ok (.getfield 40, 3) := by decide +kernel
theorem dX8_redo_50 : decode cX8_redo 50 = .ok (.invokestatic 94, 3) := by decide +kernel
theorem dX8_redo_53 : decode cX8_redo 53 = .ok (.aload_n 0, 1) := by decide +kernel
theorem dX8_redo_54 : decode cX8_redo 54 = .ok (.getfield 25, 3) := by decide +kernel
theorem dX8_redo_57 : decode cX8_redo 57 = .ok (.getfield 299, 3) := by decide +kernel
theorem dX8_redo_60 : decode cX8_redo 60 = .ok (.aload_n 0, 1) := by decide +kernel
theorem dX8_redo_61 : decode cX8_redo 61 = .ok (.getfield 40, 3) := by decide +kernel
theorem dX8_redo_64 : decode cX8_redo 64 = .ok (.invokestatic 94, 3) := by decide +kernel
theorem dX8_redo_67 : decode cX8_redo 67 = .ok (.invokevirtual 279, 3) := by decide +kernel
theorem dX8_redo_70 : decode cX8_redo 70 = .ok (.pop, 1) := by decide +kernel
theorem dX8_redo_71 : decode cX8_redo 71 = .ok (.aload_n 0, 1) := by decide +kernel
theorem dX8_redo_72 : decode cX8_redo 72 = .ok (.getfield 19, 3) := by decide +kernel
theorem dX8_redo_75 : decode cX8_redo 75 = .ok (.invokevirtual 169, 3) := by decide +kernel
theorem dX8_redo_78 : decode cX8_redo 78 = .ok (.aload_n 0, 1) := by decide +kernel
theorem dX8_redo_79 : decode cX8_redo 79 = .ok (.dup, 1) := by decide +kernel
theorem dX8_redo_80 : decode cX8_redo 80 = .ok (.getfield 40, 3) := by decide +kernel
theorem dX8_redo_83 : decode cX8_redo 83 = .ok (.iconst 1, 1) := by decide +kernel
theorem dX8_redo_84 : decode cX8_redo 84 = .ok (.iadd, 1) := by decide +kernel
theorem dX8_redo_85 : decode cX8_redo 85 = .ok (.putfield 40, 3) := by decide +kernel
theorem dX8_redo_88 : decode cX8_redo 88 = .ok (.goto (-81), 3) := by decide +kernel
theorem dX8_redo_91 : decode cX8_redo 91 = .ok (.aload_n 0, 1) := by decide +kernel
theorem dX8_redo_92 : decode cX8_redo 92 = .ok (.getfield 19, 3) := by decide +kernel
theorem dX8_redo_95 : decode cX8_redo 95 = .ok (.getfield 111, 3) := by decide +kernel
theorem dX8_redo_98 : decode cX8_redo 98 = .ok (.iconst 0, 1) := by decide +kernel
theorem dX8_redo_99 : decode cX8_redo 99 = .ok (.invokevirtual 284, 3) := by decide +kernel
theorem dX8_redo_102 : decode cX8_redo 102 = .ok (.ifCond .ne 10, 3) := by decide +kernel
theorem dX8_redo_105 : decode cX8_redo 105 = .ok (.aload_n 0, 1) := by decide +kernel
theorem dX8_redo_106 : decode cX8_redo 106 = .ok (.getfield 19, 3) := by decide +kernel
theorem dX8_redo_109 : decode cX8_redo 109 = .ok (.invokevirtual 290, 3) := by decide +kernel
theorem dX8_redo_112 : decode cX8_redo 112 = .ok (.return_, 1) := by decide +kernel
theorem dX8_checkNoWorld_0 : decode cX8_checkNoWorld 0 = .ok (.aload_n 0, 1) := by decide +kernel
theorem dX8_checkNoWorld_1 : decode cX8_checkNoWorld 1 = .ok (.getfield 36, 3) := by decide +kernel
theorem dX8_checkNoWorld_4 : decode cX8_checkNoWorld 4 = .ok (.bipush 111, 2) := by decide +kernel
theorem dX8_checkNoWorld_6 : decode cX8_checkNoWorld 6 = .ok (.if_icmp .ne 11, 3) := by decide +kernel
theorem dX8_checkNoWorld_9 : decode cX8_checkNoWorld 9 = .ok (.new 161, 3) := by decide +kernel
theorem dX8_checkNoWorld_12 : decode cX8_checkNoWorld 12 = .ok (.dup, 1) := by decide +kernel
theorem dX8_checkNoWorld_13 : decode cX8_checkNoWorld 13 = .ok (.invokespecial 163, 3) := by decide +kernel
theorem dX8_checkNoWorld_16 : decode cX8_checkNoWorld 16 = .ok (.athrow, 1) := by decide +kernel
theorem dX8_checkNoWorld_17 : decode cX8_checkNoWorld 17 = .ok (.return_, 1) := by decide +kernel
theorem dX8_checkWorld_0 : decode cX8_checkWorld 0 = .ok (.aload_n 0, 1) := by decide +kernel
theorem dX8_checkWorld_1 : decode cX8_checkWorld 1 = .ok (.getfield 36, 3) := by decide +kernel
theorem dX8_checkWorld_4 : decode cX8_checkWorld 4 = .ok (.bipush 111, 2) := by decide +kernel
theorem dX8_checkWorld_6 : decode cX8_checkWorld 6 = .ok (.if_icmp .eq 11, 3) := by decide +kernel
theorem dX8_checkWorld_9 : decode cX8_checkWorld 9 = .ok (.new 161, 3) := by decide +kernel
theorem dX8_checkWorld_12 : decode cX8_checkWorld 12 = .ok (.dup, 1) := by decide +kernel
theorem dX8_checkWorld_13 : decode cX8_checkWorld 13 = .ok (.invokespecial 163, 3) := by decide +kernel
theorem dX8_checkWorld_16 : decode cX8_checkWorld 16 = .ok (.athrow, 1) := by decide +kernel
theorem dX8_checkWorld_17 : decode cX8_checkWorld 17 = .ok (.return_, 1) := by decide +kernel
theorem dX8_checkThing_0 : decode cX8_checkThing 0 = .ok (.iload_n 1, 1) := by decide +kernel
theorem dX8_checkThing_1 : decode cX8_checkThing 1 = .ok (.ifCond .lt 17, 3) := by decide +kernel
theorem dX8_checkThing_4 : decode cX8_checkThing 4 = .ok (.iload_n 1, 1) := by decide +kernel
theorem dX8_checkThing_5 : decode cX8_checkThing 5 = .ok (.aload_n 0, 1) := by decide +kernel
theorem dX8_checkThing_6 : decode cX8_checkThing 6 = .ok (.getfield 12, 3) := by decide +kernel
theorem dX8_checkThing_9 : decode cX8_checkThing 9 = .ok (.getfield 136, 3) := by decide +kernel
theorem dX8_checkThing_12 : decode cX8_checkThing 12 = .ok (.getfield 140, 3) := by decide +kernel
theorem dX8_checkThing_15 : decode cX8_checkThing 15 = .ok (.if_icmp .lt 11, 3) := by decide +kernel
theorem dX8_checkThing_18 : decode cX8_checkThing 18 = .ok (.new 302, 3) := by decide +kernel
theorem dX8_checkThing_21 : decode cX8_checkThing 21 = .ok (.dup, 1) := by decide +kernel
theorem dX8_checkThing_22 : decode cX8_checkThing 22 = .ok (.invokespecial 304, 3) := by decide +kernel
theorem dX8_checkThing_25 : decode cX8_checkThing 25 = .ok (.athrow, 1) := by decide +kernel
theorem dX8_checkThing_26 : decode cX8_checkThing 26 = .ok (.return_, 1) := by decide +kernel
theorem dX8_checkBag_0 : decode cX8_checkBag 0 = .ok (.aload_n 0, 1) := by decide +kernel
theorem dX8_checkBag_1 : decode cX8_checkBag 1 = .ok (.getfield 12, 3) := by decide +kernel
theorem dX8_checkBag_4 : decode cX8_checkBag 4 = .ok (.getfield 136, 3) := by decide +kernel
theorem dX8_checkBag_7 : decode cX8_checkBag 7 = .ok (.getfield 220, 3) := by decide +kernel
theorem dX8_checkBag_10 : decode cX8_checkBag 10 = .ok (.iload_n 1, 1) := by decide +kernel
theorem dX8_checkBag_11 : decode cX8_checkBag 11 = .ok (.invokestatic 94, 3) := by decide +kernel
theorem dX8_checkBag_14 : decode cX8_checkBag 14 = .ok (.bipush 6, 2) := by decide +kernel
theorem dX8_checkBag_16 : decode cX8_checkBag 16 = .ok (.if_icmp .eq 11, 3) := by decide +kernel
theorem dX8_checkBag_19 : decode cX8_checkBag 19 = .ok (.new 207, 3) := by decide +kernel
theorem dX8_checkBag_22 : decode cX8_checkBag 22 = .ok (.dup, 1) := by decide +kernel
theorem dX8_checkBag_23 : decode cX8_checkBag 23 = .ok (.invokespecial 209, 3) := by decide +kernel
theorem dX8_checkBag_26 : decode cX8_checkBag 26 = .ok (.athrow, 1) := by decide +kernel
theorem dX8_checkBag_27 : decode cX8_checkBag 27 = .ok (.return_, 1) := by decide +kernel
theorem dX8_checkInHands_0 : decode cX8_checkInHands 0 = .ok (.aload_n 0, 1) := by decide +kernel
theorem dX8_checkInHands_1 : decode cX8_checkInHands 1 = .ok (.getfield 16, 3) := by decide +kernel
theorem dX8_checkInHands_4 : decode cX8_checkInHands 4 = .ok (.getfield 136, 3) := by decide +kernel
theorem dX8_checkInHands_7 : decode cX8_checkInHands 7 = .ok (.getfield 189, 3) := by decide +kernel
theorem dX8_checkInHands_10 : decode cX8_checkInHands 10 = .ok (.iload_n 1, 1) := by decide +kernel
theorem dX8_checkInHands_11 : decode cX8_checkInHands 11 = .ok (.invokestatic 94, 3) := by decide +kernel
theorem dX8_checkInHands_14 : decode cX8_checkInHands 14 = .ok (.iconst (-1), 1) := by decide +kernel
theorem dX8_checkInHands_15 : decode cX8_checkInHands 15 = .ok (.if_icmp .eq 11, 3) := by decide +kernel
theorem dX8_checkInHands_18 : decode cX8_checkInHands 18 = .ok (.new 196, 3) := by decide +kernel
theorem dX8_checkInHands_21 : decode cX8_checkInHands 21 = .ok (.dup, 1) := by decide +kernel
theorem dX8_checkInHands_22 : decode cX8_checkInHands 22 = .ok (.invokespecial 198, 3) := by decide +kernel
theorem dX8_checkInHands_25 : decode cX8_checkInHands 25 = .ok (.athrow, 1) := by decide +kernel
theorem dX8_checkInHands_26 : decode cX8_checkInHands 26 = .ok (.return_, 1) := by decide +kernel
theorem dX8_checkCarried_0 : decode cX8_checkCarried 0 = .ok (.aload_n 0, 1) := by decide +kernel
theorem dX8_checkCarried_1 : decode cX8_checkCarried 1 = .ok (.getfield 16, 3) := by decide +kernel
theorem dX8_checkCarried_4 : decode cX8_checkCarried 4 = .ok (.getfield 136, 3) := by decide +kernel
theorem dX8_checkCarried_7 : decode cX8_checkCarried 7 = .ok (.iload_n 1, 1) := by decide +kernel
theorem dX8_checkCarried_8 : decode cX8_checkCarried 8 = .ok (.invokevirtual 305, 3) := by decide +kernel
theorem dX8_checkCarried_11 : decode cX8_checkCarried 11 = .ok (.iconst (-1), 1) := by decide +kernel
theorem dX8_checkCarried_12 : decode cX8_checkCarried 12 = .ok (.if_icmp .eq 11, 3) := by decide +kernel
theorem dX8_checkCarried_15 : decode cX8_checkCarried 15 = .ok (.new 196, 3) := by decide +kernel
theorem dX8_checkCarried_18 : decode cX8_checkCarried 18 = .ok (.dup, 1) := by decide +kernel
theorem dX8_checkCarried_19 : decode cX8_checkCarried 19 = .ok (.invokespecial 198, 3) := by decide +kernel
theorem dX8_checkCarried_22 : decode cX8_checkCarried 22 = .ok (.athrow, 1) := by decide +kernel
theorem dX8_checkCarried_23 : decode cX8_checkCarried 23 = .ok (.return_, 1) := by decide +kernel
theorem dX8_checkCreature_0 : decode cX8_checkCreature 0 = .ok (.iload_n 1, 1) := by decide +kernel
theorem dX8_checkCreature_1 : decode cX8_checkCreature 1 = .ok (.iload_n 2, 1) := by decide +kernel
theorem dX8_checkCreature_2 : decode cX8_checkCreature 2 = .ok (.if_icmp .lt 17, 3) := by decide +kernel
theorem dX8_checkCreature_5 : decode cX8_checkCreature 5 = .ok (.iload_n 1, 1) := by decide +kernel
theorem dX8_checkCreature_6 : decode cX8_checkCreature 6 = .ok (.aload_n 0, 1) := by decide +kernel
theorem dX8_checkCreature_7 : decode cX8_checkCreature 7 = .ok (.getfield 12, 3) := by decide +kernel
theorem dX8_checkCreature_10 : decode cX8_checkCreature 10 = .ok (.getfield 111, 3) := by decide +kernel
theorem dX8_checkCreature_13 : decode cX8_checkCreature 13 = .ok (.getfield 123, 3) := by decide +kernel
theorem dX8_checkCreature_16 : decode cX8_checkCreature 16 = .ok (.if_icmp .lt 11, 3) := by decide +kernel
theorem dX8_checkCreature_19 : decode cX8_checkCreature 19 = .ok (.new 302, 3) := by decide +kernel
theorem dX8_checkCreature_22 : decode cX8_checkCreature 22 = .ok (.dup, 1) := by decide +kernel
theorem dX8_checkCreature_23 : decode cX8_checkCreature 23 = .ok (.invokespecial 304, 3) := by decide +kernel
theorem dX8_checkCreature_26 : decode cX8_checkCreature 26 = .ok (.athrow, 1) := by decide +kernel
theorem dX8_checkCreature_27 : decode cX8_checkCreature 27 = .ok (.return_, 1) := by decide +kernel
theorem dX8_checkRoom_0 : decode cX8_checkRoom 0 = .ok (.iload_n 0, 1) := by decide +kernel
theorem dX8_checkRoom_1 : decode cX8_checkRoom 1 = .ok (.iload_n 1, 1) := by decide +kernel
theorem dX8_checkRoom_2 : decode cX8_checkRoom 2 = .ok (.if_icmp .lt 11, 3) := by decide +kernel
theorem dX8_checkRoom_5 : decode cX8_checkRoom 5 = .ok (.new 161, 3) := by decide +kernel
theorem dX8_checkRoom_8 : decode cX8_checkRoom 8 = .ok (.dup, 1) := by decide +kernel
theorem dX8_checkRoom_9 : decode cX8_checkRoom 9 = .ok (.invokespecial 163, 3) := by decide +kernel
theorem dX8_checkRoom_12 : decode cX8_checkRoom 12 = .ok (.athrow, 1) := by decide +kernel
theorem dX8_checkRoom_13 : decode cX8_checkRoom 13 = .ok (.return_, 1) := by decide +kernel
theorem dX8_checkPlace_0 : decode cX8_checkPlace 0 = .ok (.iload_n 0, 1) := by decide +kernel
theorem dX8_checkPlace_1 : decode cX8_checkPlace 1 = .ok (.ifCond .lt 19, 3) := by decide +kernel
theorem dX8_checkPlace_4 : decode cX8_checkPlace 4 = .ok (.iload_n 0, 1) := by decide +kernel
theorem dX8_checkPlace_5 : decode cX8_checkPlace 5 = .ok (.bipush 12, 2) := by decide +kernel
theorem dX8_checkPlace_7 : decode cX8_checkPlace 7 = .ok (.if_icmp .ge 13, 3) := by decide +kernel
theorem dX8_checkPlace_10 : decode cX8_checkPlace 10 = .ok (.iload_n 1, 1) := by decide +kernel
theorem dX8_checkPlace_11 : decode cX8_checkPlace 11 = .ok (.ifCond .lt 9, 3) := by decide +kernel
theorem dX8_checkPlace_14 : decode cX8_checkPlace 14 = .ok (.iload_n 1, 1) := by decide +kernel
theorem dX8_checkPlace_15 : decode cX8_checkPlace 15 = .ok (.bipush 12, 2) := by decide +kernel
theorem dX8_checkPlace_17 : decode cX8_checkPlace 17 = .ok (.if_icmp .lt 11, 3) := by decide +kernel
theorem dX8_checkPlace_20 : decode cX8_checkPlace 20 = .ok (.new 302, 3) := by decide +kernel
theorem dX8_checkPlace_23 : decode cX8_checkPlace 23 = .ok (.dup, 1) := by decide +kernel
theorem dX8_checkPlace_24 : decode cX8_checkPlace 24 = .ok (.invokespecial 304, 3) := by decide +kernel
theorem dX8_checkPlace_27 : decode cX8_checkPlace 27 = .ok (.athrow, 1) := by decide +kernel
theorem dX8_checkPlace_28 : decode cX8_checkPlace 28 = .ok (.return_, 1) := by decide +kernel
theorem dX8_checkWay_0 : decode cX8_checkWay 0 = .ok (.iload_n 0, 1) := by decide +kernel
theorem dX8_checkWay_1 : decode cX8_checkWay 1 = .ok (.iconst 0, 1) := by decide +kernel
theorem dX8_checkWay_2 : decode cX8_checkWay 2 = .ok (.iconst 3, 1) := by decide +kernel
theorem dX8_checkWay_3 : decode cX8_checkWay 3 = .ok (.invokestatic 80, 3) := by decide +kernel
theorem dX8_checkWay_6 : decode cX8_checkWay 6 = .ok (.return_, 1) := by decide +kernel
theorem dX8_checkRange_0 : decode cX8_checkRange 0 = .ok (.iload_n 0, 1) := by decide +kernel
theorem dX8_checkRange_1 : decode cX8_checkRange 1 = .ok (.iload_n 1, 1) := by decide +kernel
theorem dX8_checkRange_2 : decode cX8_checkRange 2 = .ok (.if_icmp .lt 8, 3) := by decide +kernel
theorem dX8_checkRange_5 : decode cX8_checkRange 5 = .ok (.iload_n 0, 1) := by decide +kernel
theorem dX8_checkRange_6 : decode cX8_checkRange 6 = .ok (.iload_n 2, 1) := by decide +kernel
theorem dX8_checkRange_7 : decode cX8_checkRange 7 = .ok (.if_icmp .le 11, 3) := by decide +kernel
theorem dX8_checkRange_10 : decode cX8_checkRange 10 = .ok (.new 56, 3) := by decide +kernel
theorem dX8_checkRange_13 : decode cX8_checkRange 13 = .ok (.dup, 1) := by decide +kernel
theorem dX8_checkRange_14 : decode cX8_checkRange 14 = .ok (.invokespecial 58, 3) := by decide +kernel
theorem dX8_checkRange_17 : decode cX8_checkRange 17 = .ok (.athrow, 1) := by decide +kernel
theorem dX8_checkRange_18 : decode cX8_checkRange 18 = .ok (.return_, 1) := by decide +kernel
theorem dX8_spot_0 : decode cX8_spot 0 = .ok (.bipush 12, 2) := by decide +kernel
theorem dX8_spot_2 : decode cX8_spot 2 = .ok (.iload_n 0, 1) := by decide +kernel
theorem dX8_spot_3 : decode cX8_spot 3 = .ok (.imul, 1) := by decide +kernel
theorem dX8_spot_4 : decode cX8_spot 4 = .ok (.iload_n 1, 1) := by decide +kernel
theorem dX8_spot_5 : decode cX8_spot 5 = .ok (.iadd, 1) := by decide +kernel
theorem dX8_spot_6 : decode cX8_spot 6 = .ok (.ireturn, 1) := by decide +kernel
theorem dX8_shownPlace_0 : decode cX8_shownPlace 0 = .ok (.bipush 100, 2) := by decide +kernel
theorem dX8_shownPlace_2 : decode cX8_shownPlace 2 = .ok (.iload_n 0, 1) := by decide +kernel
theorem dX8_shownPlace_3 : decode cX8_shownPlace 3 = .ok (.bipush 12, 2) := by decide +kernel
theorem dX8_shownPlace_5 : decode cX8_shownPlace 5 = .ok (.idiv, 1) := by decide +kernel
theorem dX8_shownPlace_6 : decode cX8_shownPlace 6 = .ok (.imul, 1) := by decide +kernel
theorem dX8_shownPlace_7 : decode cX8_shownPlace 7 = .ok (.iload_n 0, 1) := by decide +kernel
theorem dX8_shownPlace_8 : decode cX8_shownPlace 8 = .ok (.bipush 12, 2) := by decide +kernel
theorem dX8_shownPlace_10 : decode cX8_shownPlace 10 = .ok (.irem, 1) := by decide +kernel
theorem dX8_shownPlace_11 : decode cX8_shownPlace 11 = .ok (.iadd, 1) := by decide +kernel
theorem dX8_shownPlace_12 : decode cX8_shownPlace 12 = .ok (.ireturn, 1) := by decide +kernel
theorem dX8_beside_0 : decode cX8_beside 0 = .ok (.iload_n 1, 1) := by decide +kernel
theorem dX8_beside_1 : decode cX8_beside 1 = .ok (.tableswitch 97 0 3 #[31, 46, 65, 82], 31) := by decide +kernel
theorem dX8_beside_32 : decode cX8_beside 32 = .ok (.iload_n 0, 1) := by decide +kernel
theorem dX8_beside_33 : decode cX8_beside 33 = .ok (.bipush 12, 2) := by decide +kernel
theorem dX8_beside_35 : decode cX8_beside 35 = .ok (.irem, 1) := by decide +kernel
theorem dX8_beside_36 : decode cX8_beside 36 = .ok (.ifCond .ne 7, 3) := by decide +kernel
theorem dX8_beside_39 : decode cX8_beside 39 = .ok (.iconst (-1), 1) := by decide +kernel
theorem dX8_beside_40 : decode cX8_beside 40 = .ok (.goto 6, 3) := by decide +kernel
theorem dX8_beside_43 : decode cX8_beside 43 = .ok (.iload_n 0, 1) := by decide +kernel
theorem dX8_beside_44 : decode cX8_beside 44 = .ok (.iconst 1, 1) := by decide +kernel
theorem dX8_beside_45 : decode cX8_beside 45 = .ok (.isub, 1) := by decide +kernel
theorem dX8_beside_46 : decode cX8_beside 46 = .ok (.ireturn, 1) := by decide +kernel
theorem dX8_beside_47 : decode cX8_beside 47 = .ok (.iload_n 0, 1) := by decide +kernel
theorem dX8_beside_48 : decode cX8_beside 48 = .ok (.bipush 12, 2) := by decide +kernel
theorem dX8_beside_50 : decode cX8_beside 50 = .ok (.iadd, 1) := by decide +kernel
theorem dX8_beside_51 : decode cX8_beside 51 = .ok (.sipush 144, 3) := by decide +kernel
theorem dX8_beside_54 : decode cX8_beside 54 = .ok (.if_icmp .ge 10, 3) := by decide +kernel
theorem dX8_beside_57 : decode cX8_beside 57 = .ok (.iload_n 0, 1) := by decide +kernel
theorem dX8_beside_58 : decode cX8_beside 58 = .ok (.bipush 12, 2) := by decide +kernel
theorem dX8_beside_60 : decode cX8_beside 60 = .ok (.iadd, 1) := by decide +kernel
theorem dX8_beside_61 : decode cX8_beside 61 = .ok (.goto 4, 3) := by decide +kernel
theorem dX8_beside_64 : decode cX8_beside 64 = .ok (.iconst (-1), 1) := by decide +kernel
theorem dX8_beside_65 : decode cX8_beside 65 = .ok (.ireturn, 1) := by decide +kernel
theorem dX8_beside_66 : decode cX8_beside 66 = .ok (.iload_n 0, 1) := by decide +kernel
theorem dX8_beside_67 : decode cX8_beside 67 = .ok (.bipush 12, 2) := by decide +kernel
theorem dX8_beside_69 : decode cX8_beside 69 = .ok (.irem, 1) := by decide +kernel
theorem dX8_beside_70 : decode cX8_beside 70 = .ok (.bipush 11, 2) := by decide +kernel
theorem dX8_beside_72 : decode cX8_beside 72 = .ok (.if_icmp .ne 7, 3) := by decide +kernel
theorem dX8_beside_75 : decode cX8_beside 75 = .ok (.iconst (-1), 1) := by decide +kernel
theorem dX8_beside_76 : decode cX8_beside 76 = .ok (.goto 6, 3) := by decide +kernel
theorem dX8_beside_79 : decode cX8_beside 79 = .ok (.iload_n 0, 1) := by decide +kernel
theorem dX8_beside_80 : decode cX8_beside 80 = .ok (.iconst 1, 1) := by decide +kernel
theorem dX8_beside_81 : decode cX8_beside 81 = .ok (.iadd, 1) := by decide +kernel
theorem dX8_beside_82 : decode cX8_beside 82 = .ok (.ireturn, 1) := by decide +kernel
theorem dX8_beside_83 : decode cX8_beside 83 = .ok (.iload_n 0, 1) := by decide +kernel
theorem dX8_beside_84 : decode cX8_beside 84 = .ok (.bipush 12, 2) := by decide +kernel
theorem dX8_beside_86 : decode cX8_beside 86 = .ok (.if_icmp .lt 10, 3) := by decide +kernel
theorem dX8_beside_89 : decode cX8_beside 89 = .ok (.iload_n 0, 1) := by decide +kernel
theorem dX8_beside_90 : decode cX8_beside 90 = .ok (.bipush 12, 2) := by decide +kernel
theorem dX8_beside_92 : decode cX8_beside 92 = .ok (.isub, 1) := by decide +kernel
theorem dX8_beside_93 : decode cX8_beside 93 = .ok (.goto 4, 3) := by decide +kernel
theorem dX8_beside_96 : decode cX8_beside 96 = .ok (.iconst (-1), 1) := by decide +kernel
theorem dX8_beside_97 : decode cX8_beside 97 = .ok (.ireturn, 1) := by decide +kernel
theorem dX8_beside_98 : decode cX8_beside 98 = .ok (.iconst (-1), 1) := by decide +kernel
theorem dX8_beside_99 : decode cX8_beside 99 = .ok (.ireturn, 1) := by decide +kernel
theorem dX8_areNeighbours_0 : decode cX8_areNeighbours 0 = .ok (.iload_n 0, 1) := by decide +kernel
theorem dX8_areNeighbours_1 : decode cX8_areNeighbours 1 = .ok (.bipush 12, 2) := by decide +kernel
theorem dX8_areNeighbours_3 : decode cX8_areNeighbours 3 = .ok (.idiv, 1) := by decide +kernel
theorem dX8_areNeighbours_4 : decode cX8_areNeighbours 4 = .ok (.iload_n 1, 1) := by decide +kernel
theorem dX8_areNeighbours_5 : decode cX8_areNeighbours 5 = .ok (.bipush 12, 2) := by decide +kernel
theorem dX8_areNeighbours_7 : decode cX8_areNeighbours 7 = .ok (.idiv, 1) := by decide +kernel
theorem dX8_areNeighbours_8 : decode cX8_areNeighbours 8 = .ok (.isub, 1) := by decide +kernel
theorem dX8_areNeighbours_9 : decode cX8_areNeighbours 9 = .ok (.istore_n 2, 1) := by decide +kernel
theorem dX8_areNeighbours_10 : decode cX8_areNeighbours 10 = .ok (.iload_n 0, 1) := by decide +kernel
theorem dX8_areNeighbours_11 : decode cX8_areNeighbours 11 = .ok (.bipush 12, 2) := by decide +kernel
theorem dX8_areNeighbours_13 : decode cX8_areNeighbours 13 = .ok (.irem, 1) := by decide +kernel
theorem dX8_areNeighbours_14 : decode cX8_areNeighbours 14 = .ok (.iload_n 1, 1) := by decide +kernel
theorem dX8_areNeighbours_15 : decode cX8_areNeighbours 15 = .ok (.bipush 12, 2) := by decide +kernel
theorem dX8_areNeighbours_17 : decode cX8_areNeighbours 17 = .ok (.irem, 1) := by decide +kernel
theorem dX8_areNeighbours_18 : decode cX8_areNeighbours 18 = .ok (.isub, 1) := by decide +kernel
theorem dX8_areNeighbours_19 : decode cX8_areNeighbours 19 = .ok (.istore_n 3, 1) := by decide +kernel
theorem dX8_areNeighbours_20 : decode cX8_areNeighbours 20 = .ok (.iload_n 2, 1) := by decide +kernel
theorem dX8_areNeighbours_21 : decode cX8_areNeighbours 21 = .ok (.iload_n 2, 1) := by decide +kernel
theorem dX8_areNeighbours_22 : decode cX8_areNeighbours 22 = .ok (.imul, 1) := by decide +kernel
theorem dX8_areNeighbours_23 : decode cX8_areNeighbours 23 = .ok (.iload_n 3, 1) := by decide +kernel
theorem dX8_areNeighbours_24 : decode cX8_areNeighbours 24 = .ok (.iload_n 3, 1) := by decide +kernel
theorem dX8_areNeighbours_25 : decode cX8_areNeighbours 25 = .ok (.imul, 1) := by decide +kernel
theorem dX8_areNeighbours_26 : decode cX8_areNeighbours 26 = .ok (.iadd, 1) := by decide +kernel
theorem dX8_areNeighbours_27 : decode cX8_areNeighbours 27 = .ok (.iconst 1, 1) := by decide +kernel
theorem dX8_areNeighbours_28 : decode cX8_areNeighbours 28 = .ok (.if_icmp .ne 7, 3) := by decide +kernel
theorem dX8_areNeighbours_31 : decode cX8_areNeighbours 31 = .ok (.iconst 1, 1) := by decide +kernel
theorem dX8_areNeighbours_32 : decode cX8_areNeighbours 32 = .ok (.goto 4, 3) := by decide +kernel
theorem dX8_areNeighbours_35 : decode cX8_areNeighbours 35 = .ok (.iconst 0, 1) := by decide +kernel
theorem dX8_areNeighbours_36 : decode cX8_areNeighbours 36 = .ok (.ireturn, 1) := by decide +kernel
theorem dX8_gap_0 : decode cX8_gap 0 = .ok (.iload_n 0, 1) := by decide +kernel
theorem dX8_gap_1 : decode cX8_gap 1 = .ok (.bipush 12, 2) := by decide +kernel
theorem dX8_gap_3 : decode cX8_gap 3 = .ok (.idiv, 1) := by decide +kernel
theorem dX8_gap_4 : decode cX8_gap 4 = .ok (.iload_n 1, 1) := by decide +kernel
theorem dX8_gap_5 : decode cX8_gap 5 = .ok (.bipush 12, 2) := by decide +kernel
theorem dX8_gap_7 : decode cX8_gap 7 = .ok (.idiv, 1) := by decide +kernel
theorem dX8_gap_8 : decode cX8_gap 8 = .ok (.isub, 1) := by decide +kernel
theorem dX8_gap_9 : decode cX8_gap 9 = .ok (.invokestatic 308, 3) := by decide +kernel
theorem dX8_gap_12 : decode cX8_gap 12 = .ok (.istore_n 2, 1) := by decide +kernel
theorem dX8_gap_13 : decode cX8_gap 13 = .ok (.iload_n 0, 1) := by decide +kernel
theorem dX8_gap_14 : decode cX8_gap 14 = .ok (.bipush 12, 2) := by decide +kernel
theorem dX8_gap_16 : decode cX8_gap 16 = .ok (.irem, 1) := by decide +kernel
theorem dX8_gap_17 : decode cX8_gap 17 = .ok (.iload_n 1, 1) := by decide +kernel
theorem dX8_gap_18 : decode cX8_gap 18 = .ok (.bipush 12, 2) := by decide +kernel
theorem dX8_gap_20 : decode cX8_gap 20 = .ok (.irem, 1) := by decide +kernel
theorem dX8_gap_21 : decode cX8_gap 21 = .ok (.isub, 1) := by decide +kernel
theorem dX8_gap_22 : decode cX8_gap 22 = .ok (.invokestatic 308, 3) := by decide +kernel
theorem dX8_gap_25 : decode cX8_gap 25 = .ok (.istore_n 3, 1) := by decide +kernel
theorem dX8_gap_26 : decode cX8_gap 26 = .ok (.iload_n 2, 1) := by decide +kernel
theorem dX8_gap_27 : decode cX8_gap 27 = .ok (.iload_n 3, 1) := by decide +kernel
theorem dX8_gap_28 : decode cX8_gap 28 = .ok (.invokestatic 313, 3) := by decide +kernel
theorem dX8_gap_31 : decode cX8_gap 31 = .ok (.ireturn, 1) := by decide +kernel
theorem dX8_isPotion_0 : decode cX8_isPotion 0 = .ok (.iload_n 0, 1) := by decide +kernel
theorem dX8_isPotion_1 : decode cX8_isPotion 1 = .ok (.iconst 3, 1) := by decide +kernel
theorem dX8_isPotion_2 : decode cX8_isPotion 2 = .ok (.if_icmp .lt 12, 3) := by decide +kernel
theorem dX8_isPotion_5 : decode cX8_isPotion 5 = .ok (.iload_n 0, 1) := by decide +kernel
theorem dX8_isPotion_6 : decode cX8_isPotion 6 = .ok (.iconst 5, 1) := by decide +kernel
theorem dX8_isPotion_7 : decode cX8_isPotion 7 = .ok (.if_icmp .gt 7, 3) := by decide +kernel
theorem dX8_isPotion_10 : decode cX8_isPotion 10 = .ok (.iconst 1, 1) := by decide +kernel
theorem dX8_isPotion_11 : decode cX8_isPotion 11 = .ok (.goto 4, 3) := by decide +kernel
theorem dX8_isPotion_14 : decode cX8_isPotion 14 = .ok (.iconst 0, 1) := by decide +kernel
theorem dX8_isPotion_15 : decode cX8_isPotion 15 = .ok (.ireturn, 1) := by decide +kernel
theorem dX8_isFree_0 : decode cX8_isFree 0 = .ok (.iload_n 0, 1) := by decide +kernel
theorem dX8_isFree_1 : decode cX8_isFree 1 = .ok (.bipush 46, 2) := by decide +kernel
theorem dX8_isFree_3 : decode cX8_isFree 3 = .ok (.if_icmp .eq 15, 3) := by decide +kernel
theorem dX8_isFree_6 : decode cX8_isFree 6 = .ok (.iload_n 0, 1) := by decide +kernel
theorem dX8_isFree_7 : decode cX8_isFree 7 = .ok (.bipush 126, 2) := by decide +kernel
theorem dX8_isFree_9 : decode cX8_isFree 9 = .ok (.if_icmp .eq 9, 3) := by decide +kernel
theorem dX8_isFree_12 : decode cX8_isFree 12 = .ok (.iload_n 0, 1) := by decide +kernel
theorem dX8_isFree_13 : decode cX8_isFree 13 = .ok (.bipush 47, 2) := by decide +kernel
theorem dX8_isFree_15 : decode cX8_isFree 15 = .ok (.if_icmp .ne 7, 3) := by decide +kernel
theorem dX8_isFree_18 : decode cX8_isFree 18 = .ok (.iconst 1, 1) := by decide +kernel
theorem dX8_isFree_19 : decode cX8_isFree 19 = .ok (.goto 4, 3) := by decide +kernel
theorem dX8_isFree_22 : decode cX8_isFree 22 = .ok (.iconst 0, 1) := by decide +kernel
theorem dX8_isFree_23 : decode cX8_isFree 23 = .ok (.ireturn, 1) := by decide +kernel
theorem dX8_at_0 : decode cX8_at 0 = .ok (.iload_n 1, 1) := by decide +kernel
theorem dX8_at_1 : decode cX8_at 1 = .ok (.ifCond .lt 15, 3) := by decide +kernel
theorem dX8_at_4 : decode cX8_at 4 = .ok (.iload_n 1, 1) := by decide +kernel
theorem dX8_at_5 : decode cX8_at 5 = .ok (.aload_n 0, 1) := by decide +kernel
theorem dX8_at_6 : decode cX8_at 6 = .ok (.arraylength, 1) := by decide +kernel
theorem dX8_at_7 : decode cX8_at 7 = .ok (.if_icmp .ge 9, 3) := by decide +kernel
theorem dX8_at_10 : decode cX8_at 10 = .ok (.aload_n 0, 1) := by decide +kernel
theorem dX8_at_11 : decode cX8_at 11 = .ok (.iload_n 1, 1) := by decide +kernel
theorem dX8_at_12 : decode cX8_at 12 = .ok (.iaload, 1) := by decide +kernel
theorem dX8_at_13 : decode cX8_at 13 = .ok (.goto 4, 3) := by decide +kernel
theorem dX8_at_16 : decode cX8_at 16 = .ok (.iconst 0, 1) := by decide +kernel
theorem dX8_at_17 : decode cX8_at 17 = .ok (.ireturn, 1) := by decide +kernel
theorem dX8_put_0 : decode cX8_put 0 = .ok (.iload_n 1, 1) := by decide +kernel
theorem dX8_put_1 : decode cX8_put 1 = .ok (.ifCond .lt 13, 3) := by decide +kernel
theorem dX8_put_4 : decode cX8_put 4 = .ok (.iload_n 1, 1) := by decide +kernel
theorem dX8_put_5 : decode cX8_put 5 = .ok (.aload_n 0, 1) := by decide +kernel
theorem dX8_put_6 : decode cX8_put 6 = .ok (.arraylength, 1) := by decide +kernel
theorem dX8_put_7 : decode cX8_put 7 = .ok (.if_icmp .ge 7, 3) := by decide +kernel
theorem dX8_put_10 : decode cX8_put 10 = .ok (.aload_n 0, 1) := by decide +kernel
theorem dX8_put_11 : decode cX8_put 11 = .ok (.iload_n 1, 1) := by decide +kernel
theorem dX8_put_12 : decode cX8_put 12 = .ok (.iload_n 2, 1) := by decide +kernel
theorem dX8_put_13 : decode cX8_put 13 = .ok (.iastore, 1) := by decide +kernel
theorem dX8_put_14 : decode cX8_put 14 = .ok (.return_, 1) := by decide +kernel
theorem dX8_copyRow_0 : decode cX8_copyRow 0 = .ok (.aload_n 0, 1) := by decide +kernel
theorem dX8_copyRow_1 : decode cX8_copyRow 1 = .ok (.iconst 0, 1) := by decide +kernel
theorem dX8_copyRow_2 : decode cX8_copyRow 2 = .ok (.aload_n 1, 1) := by decide +kernel
theorem dX8_copyRow_3 : decode cX8_copyRow 3 = .ok (.iconst 0, 1) := by decide +kernel
theorem dX8_copyRow_4 : decode cX8_copyRow 4 = .ok (.aload_n 0, 1) := by decide +kernel
theorem dX8_copyRow_5 : decode cX8_copyRow 5 = .ok (.arraylength, 1) := by decide +kernel
theorem dX8_copyRow_6 : decode cX8_copyRow 6 = .ok (.aload_n 1, 1) := by decide +kernel
theorem dX8_copyRow_7 : decode cX8_copyRow 7 = .ok (.arraylength, 1) := by decide +kernel
theorem dX8_copyRow_8 : decode cX8_copyRow 8 = .ok (.invokestatic 316, 3) := by decide +kernel
theorem dX8_copyRow_11 : decode cX8_copyRow 11 = .ok (.invokestatic 319, 3) := by decide +kernel
theorem dX8_copyRow_14 : decode cX8_copyRow 14 = .ok (.return_, 1) := by decide +kernel
theorem dJ11_isValidCodePoint_9a6ad_0 : decode cJ11_isValidCodePoint_9a6ad 0 = .ok (.iload_n 0, 1) := by decide +kernel
theorem dJ11_isValidCodePoint_9a6ad_1 : decode cJ11_isValidCodePoint_9a6ad 1 = .ok (.bipush 16, 2) := by decide +kernel
theorem dJ11_isValidCodePoint_9a6ad_3 : decode cJ11_isValidCodePoint_9a6ad 3 = .ok (.iushr, 1) := by decide +kernel
theorem dJ11_isValidCodePoint_9a6ad_4 : decode cJ11_isValidCodePoint_9a6ad 4 = .ok (.istore_n 1, 1) := by decide +kernel
theorem dJ11_isValidCodePoint_9a6ad_5 : decode cJ11_isValidCodePoint_9a6ad 5 = .ok (.iload_n 1, 1) := by decide +kernel
theorem dJ11_isValidCodePoint_9a6ad_6 : decode cJ11_isValidCodePoint_9a6ad 6 = .ok (.bipush 17, 2) := by decide +kernel
theorem dJ11_isValidCodePoint_9a6ad_8 : decode cJ11_isValidCodePoint_9a6ad 8 = .ok (.if_icmp .ge 7, 3) := by decide +kernel
theorem dJ11_isValidCodePoint_9a6ad_11 : decode cJ11_isValidCodePoint_9a6ad 11 = .ok (.iconst 1, 1) := by decide +kernel
theorem dJ11_isValidCodePoint_9a6ad_12 : decode cJ11_isValidCodePoint_9a6ad 12 = .ok (.goto 4, 3) := by decide +kernel
theorem dJ11_isValidCodePoint_9a6ad_15 : decode cJ11_isValidCodePoint_9a6ad 15 = .ok (.iconst 0, 1) := by decide +kernel
theorem dJ11_isValidCodePoint_9a6ad_16 : decode cJ11_isValidCodePoint_9a6ad 16 = .ok (.ireturn, 1) := by decide +kernel
theorem dJ11_highSurrogate_5068e_0 : decode cJ11_highSurrogate_5068e 0 = .ok (.iload_n 0, 1) := by decide +kernel
theorem dJ11_highSurrogate_5068e_1 : decode cJ11_highSurrogate_5068e 1 = .ok (.bipush 10, 2) := by decide +kernel
theorem dJ11_highSurrogate_5068e_3 : decode cJ11_highSurrogate_5068e 3 = .ok (.iushr, 1) := by decide +kernel
theorem dJ11_highSurrogate_5068e_4 : decode cJ11_highSurrogate_5068e 4 = .ok (.ldc 110, 2) := by decide +kernel
theorem dJ11_highSurrogate_5068e_6 : decode cJ11_highSurrogate_5068e 6 = .ok (.iadd, 1) := by decide +kernel
theorem dJ11_highSurrogate_5068e_7 : decode cJ11_highSurrogate_5068e 7 = .ok (.i2c, 1) := by decide +kernel
theorem dJ11_highSurrogate_5068e_8 : decode cJ11_highSurrogate_5068e 8 = .ok (.ireturn, 1) := by decide +kernel
theorem dJ11_lowSurrogate_5068e_0 : decode cJ11_lowSurrogate_5068e 0 = .ok (.iload_n 0, 1) := by decide +kernel
theorem dJ11_lowSurrogate_5068e_1 : decode cJ11_lowSurrogate_5068e 1 = .ok (.sipush 1023, 3) := by decide +kernel
theorem dJ11_lowSurrogate_5068e_4 : decode cJ11_lowSurrogate_5068e 4 = .ok (.iand, 1) := by decide +kernel
theorem dJ11_lowSurrogate_5068e_5 : decode cJ11_lowSurrogate_5068e 5 = .ok (.ldc 76, 2) := by decide +kernel
theorem dJ11_lowSurrogate_5068e_7 : decode cJ11_lowSurrogate_5068e 7 = .ok (.iadd, 1) := by decide +kernel
theorem dJ11_lowSurrogate_5068e_8 : decode cJ11_lowSurrogate_5068e 8 = .ok (.i2c, 1) := by decide +kernel
theorem dJ11_lowSurrogate_5068e_9 : decode cJ11_lowSurrogate_5068e 9 = .ok (.ireturn, 1) := by decide +kernel
theorem dJ9_abs_0f7a4_0 : decode cJ9_abs_0f7a4 0 = .ok (.iload_n 0, 1) := by decide +kernel
theorem dJ9_abs_0f7a4_1 : decode cJ9_abs_0f7a4 1 = .ok (.ifCond .ge 8, 3) := by decide +kernel
theorem dJ9_abs_0f7a4_4 : decode cJ9_abs_0f7a4 4 = .ok (.iload_n 0, 1) := by decide +kernel
theorem dJ9_abs_0f7a4_5 : decode cJ9_abs_0f7a4 5 = .ok (.ineg, 1) := by decide +kernel
theorem dJ9_abs_0f7a4_6 : decode cJ9_abs_0f7a4 6 = .ok (.goto 4, 3) := by decide +kernel
theorem dJ9_abs_0f7a4_9 : decode cJ9_abs_0f7a4 9 = .ok (.iload_n 0, 1) := by decide +kernel
theorem dJ9_abs_0f7a4_10 : decode cJ9_abs_0f7a4 10 = .ok (.ireturn, 1) := by decide +kernel
theorem dJ9_max_7cf53_0 : decode cJ9_max_7cf53 0 = .ok (.iload_n 0, 1) := by decide +kernel
theorem dJ9_max_7cf53_1 : decode cJ9_max_7cf53 1 = .ok (.iload_n 1, 1) := by decide +kernel
theorem dJ9_max_7cf53_2 : decode cJ9_max_7cf53 2 = .ok (.if_icmp .lt 7, 3) := by decide +kernel
theorem dJ9_max_7cf53_5 : decode cJ9_max_7cf53 5 = .ok (.iload_n 0, 1) := by decide +kernel
theorem dJ9_max_7cf53_6 : decode cJ9_max_7cf53 6 = .ok (.goto 4, 3) := by decide +kernel
theorem dJ9_max_7cf53_9 : decode cJ9_max_7cf53 9 = .ok (.iload_n 1, 1) := by decide +kernel
theorem dJ9_max_7cf53_10 : decode cJ9_max_7cf53 10 = .ok (.ireturn, 1) := by decide +kernel
theorem dJ9_min_7cf53_0 : decode cJ9_min_7cf53 0 = .ok (.iload_n 0, 1) := by decide +kernel
theorem dJ9_min_7cf53_1 : decode cJ9_min_7cf53 1 = .ok (.iload_n 1, 1) := by decide +kernel
theorem dJ9_min_7cf53_2 : decode cJ9_min_7cf53 2 = .ok (.if_icmp .gt 7, 3) := by decide +kernel
theorem dJ9_min_7cf53_5 : decode cJ9_min_7cf53 5 = .ok (.iload_n 0, 1) := by decide +kernel
theorem dJ9_min_7cf53_6 : decode cJ9_min_7cf53 6 = .ok (.goto 4, 3) := by decide +kernel
theorem dJ9_min_7cf53_9 : decode cJ9_min_7cf53 9 = .ok (.iload_n 1, 1) := by decide +kernel
theorem dJ9_min_7cf53_10 : decode cJ9_min_7cf53 10 = .ok (.ireturn, 1) := by decide +kernel
theorem dJ0_length_8abf5_0 : decode cJ0_length_8abf5 0 = .ok (.aload_n 0, 1) := by decide +kernel
theorem dJ0_length_8abf5_1 : decode cJ0_length_8abf5 1 = .ok (.getfield 9, 3) := by decide +kernel
theorem dJ0_length_8abf5_4 : decode cJ0_length_8abf5 4 = .ok (.arraylength, 1) := by decide +kernel
theorem dJ0_length_8abf5_5 : decode cJ0_length_8abf5 5 = .ok (.aload_n 0, 1) := by decide +kernel
theorem dJ0_length_8abf5_6 : decode cJ0_length_8abf5 6 = .ok (.invokevirtual 335, 3) := by decide +kernel
theorem dJ0_length_8abf5_9 : decode cJ0_length_8abf5 9 = .ok (.ishr, 1) := by decide +kernel
theorem dJ0_length_8abf5_10 : decode cJ0_length_8abf5 10 = .ok (.ireturn, 1) := by decide +kernel
theorem dJ0_charAt_5068e_0 : decode cJ0_charAt_5068e 0 = .ok (.aload_n 0, 1) := by decide +kernel
theorem dJ0_charAt_5068e_1 : decode cJ0_charAt_5068e 1 = .ok (.invokevirtual 492, 3) := by decide +kernel
theorem dJ0_charAt_5068e_4 : decode cJ0_charAt_5068e 4 = .ok (.ifCond .eq 12, 3) := by decide +kernel
theorem dJ0_charAt_5068e_7 : decode cJ0_charAt_5068e 7 = .ok (.aload_n 0, 1) := by decide +kernel
theorem dJ0_charAt_5068e_8 : decode cJ0_charAt_5068e 8 = .ok (.getfield 9, 3) := by decide +kernel
theorem dJ0_charAt_5068e_11 : decode cJ0_charAt_5068e 11 = .ok (.iload_n 1, 1) := by decide +kernel
theorem dJ0_charAt_5068e_12 : decode cJ0_charAt_5068e 12 = .ok (.invokestatic 495, 3) := by decide +kernel
theorem dJ0_charAt_5068e_15 : decode cJ0_charAt_5068e 15 = .ok (.ireturn, 1) := by decide +kernel
theorem dJ0_charAt_5068e_16 : decode cJ0_charAt_5068e 16 = .ok (.aload_n 0, 1) := by decide +kernel
theorem dJ0_charAt_5068e_17 : decode cJ0_charAt_5068e 17 = .ok (.getfield 9, 3) := by decide +kernel
theorem dJ0_charAt_5068e_20 : decode cJ0_charAt_5068e 20 = .ok (.iload_n 1, 1) := by decide +kernel
theorem dJ0_charAt_5068e_21 : decode cJ0_charAt_5068e 21 = .ok (.invokestatic 498, 3) := by decide +kernel
theorem dJ0_charAt_5068e_24 : decode cJ0_charAt_5068e 24 = .ok (.ireturn, 1) := by decide +kernel
theorem dJ0_indexOf_0f7a4_0 : decode cJ0_indexOf_0f7a4 0 = .ok (.aload_n 0, 1) := by decide +kernel
theorem dJ0_indexOf_0f7a4_1 : decode cJ0_indexOf_0f7a4 1 = .ok (.iload_n 1, 1) := by decide +kernel
theorem dJ0_indexOf_0f7a4_2 : decode cJ0_indexOf_0f7a4 2 = .ok (.iconst 0, 1) := by decide +kernel
theorem dJ0_indexOf_0f7a4_3 : decode cJ0_indexOf_0f7a4 3 = .ok (.invokevirtual 633, 3) := by decide +kernel
theorem dJ0_indexOf_0f7a4_6 : decode cJ0_indexOf_0f7a4 6 = .ok (.ireturn, 1) := by decide +kernel
theorem dJ0_indexOf_7cf53_0 : decode cJ0_indexOf_7cf53 0 = .ok (.aload_n 0, 1) := by decide +kernel
theorem dJ0_indexOf_7cf53_1 : decode cJ0_indexOf_7cf53 1 = .ok (.invokevirtual 492, 3) := by decide +kernel
theorem dJ0_indexOf_7cf53_4 : decode cJ0_indexOf_7cf53 4 = .ok (.ifCond .eq 19, 3) := by decide +kernel
theorem dJ0_indexOf_7cf53_7 : decode cJ0_indexOf_7cf53 7 = .ok (.aload_n 0, 1) := by decide +kernel
theorem dJ0_indexOf_7cf53_8 : decode cJ0_indexOf_7cf53 8 = .ok (.getfield 9, 3) := by decide +kernel
theorem dJ0_indexOf_7cf53_11 : decode cJ0_indexOf_7cf53 11 = .ok (.iload_n 1, 1) := by decide +kernel
theorem dJ0_indexOf_7cf53_12 : decode cJ0_indexOf_7cf53 12 = .ok (.iload_n 2, 1) := by decide +kernel
theorem dJ0_indexOf_7cf53_13 : decode cJ0_indexOf_7cf53 13 = .ok (.aload_n 0, 1) := by decide +kernel
theorem dJ0_indexOf_7cf53_14 : decode cJ0_indexOf_7cf53 14 = .ok (.invokevirtual 505, 3) := by decide +kernel
theorem dJ0_indexOf_7cf53_17 : decode cJ0_indexOf_7cf53 17 = .ok (.invokestatic 637, 3) := by decide +kernel
theorem dJ0_indexOf_7cf53_20 : decode cJ0_indexOf_7cf53 20 = .ok (.goto 16, 3) := by decide +kernel
theorem dJ0_indexOf_7cf53_23 : decode cJ0_indexOf_7cf53 23 = .ok (.aload_n 0, 1) := by decide +kernel
theorem dJ0_indexOf_7cf53_24 : decode cJ0_indexOf_7cf53 24 = .ok (.getfield 9, 3) := by decide +kernel
theorem dJ0_indexOf_7cf53_27 : decode cJ0_indexOf_7cf53 27 = .ok (.iload_n 1, 1) := by decide +kernel
theorem dJ0_indexOf_7cf53_28 : decode cJ0_indexOf_7cf53 28 = .ok (.iload_n 2, 1) := by decide +kernel
theorem dJ0_indexOf_7cf53_29 : decode cJ0_indexOf_7cf53 29 = .ok (.aload_n 0, 1) := by decide +kernel
theorem dJ0_indexOf_7cf53_30 : decode cJ0_indexOf_7cf53 30 = .ok (.invokevirtual 505, 3) := by decide +kernel
theorem dJ0_indexOf_7cf53_33 : decode cJ0_indexOf_7cf53 33 = .ok (.invokestatic 640, 3) := by decide +kernel
theorem dJ0_indexOf_7cf53_36 : decode cJ0_indexOf_7cf53 36 = .ok (.ireturn, 1) := by decide +kernel
theorem dJ0_coder_7d493_0 : decode cJ0_coder_7d493 0 = .ok (.getstatic 38, 3) := by decide +kernel
theorem dJ0_coder_7d493_3 : decode cJ0_coder_7d493 3 = .ok (.ifCond .eq 10, 3) := by decide +kernel
theorem dJ0_coder_7d493_6 : decode cJ0_coder_7d493 6 = .ok (.aload_n 0, 1) := by decide +kernel
theorem dJ0_coder_7d493_7 : decode cJ0_coder_7d493 7 = .ok (.getfield 15, 3) := by decide +kernel
theorem dJ0_coder_7d493_10 : decode cJ0_coder_7d493 10 = .ok (.goto 4, 3) := by decide +kernel
theorem dJ0_coder_7d493_13 : decode cJ0_coder_7d493 13 = .ok (.iconst 1, 1) := by decide +kernel
theorem dJ0_coder_7d493_14 : decode cJ0_coder_7d493 14 = .ok (.ireturn, 1) := by decide +kernel
theorem dJ0_isLatin1_aae02_0 : decode cJ0_isLatin1_aae02 0 = .ok (.getstatic 38, 3) := by decide +kernel
theorem dJ0_isLatin1_aae02_3 : decode cJ0_isLatin1_aae02 3 = .ok (.ifCond .eq 14, 3) := by decide +kernel
theorem dJ0_isLatin1_aae02_6 : decode cJ0_isLatin1_aae02 6 = .ok (.aload_n 0, 1) := by decide +kernel
theorem dJ0_isLatin1_aae02_7 : decode cJ0_isLatin1_aae02 7 = .ok (.getfield 15, 3) := by decide +kernel
theorem dJ0_isLatin1_aae02_10 : decode cJ0_isLatin1_aae02 10 = .ok (.ifCond .ne 7, 3) := by decide +kernel
theorem dJ0_isLatin1_aae02_13 : decode cJ0_isLatin1_aae02 13 = .ok (.iconst 1, 1) := by decide +kernel
theorem dJ0_isLatin1_aae02_14 : decode cJ0_isLatin1_aae02 14 = .ok (.goto 4, 3) := by decide +kernel
theorem dJ0_isLatin1_aae02_17 : decode cJ0_isLatin1_aae02 17 = .ok (.iconst 0, 1) := by decide +kernel
theorem dJ0_isLatin1_aae02_18 : decode cJ0_isLatin1_aae02 18 = .ok (.ireturn, 1) := by decide +kernel
theorem dJ0_checkIndex_df160_0 : decode cJ0_checkIndex_df160 0 = .ok (.iload_n 0, 1) := by decide +kernel
theorem dJ0_checkIndex_df160_1 : decode cJ0_checkIndex_df160 1 = .ok (.iload_n 1, 1) := by decide +kernel
theorem dJ0_checkIndex_df160_2 : decode cJ0_checkIndex_df160 2 = .ok (.getstatic 1053, 3) := by decide +kernel
theorem dJ0_checkIndex_df160_5 : decode cJ0_checkIndex_df160 5 = .ok (.invokestatic 1059, 3) := by decide +kernel
theorem dJ0_checkIndex_df160_8 : decode cJ0_checkIndex_df160 8 = .ok (.pop, 1) := by decide +kernel
theorem dJ0_checkIndex_df160_9 : decode cJ0_checkIndex_df160 9 = .ok (.return_, 1) := by decide +kernel
theorem dJ0_checkBoundsBeginEnd_23922_0 : decode cJ0_checkBoundsBeginEnd_23922 0 = .ok (.iload_n 0, 1) := by decide +kernel
theorem dJ0_checkBoundsBeginEnd_23922_1 : decode cJ0_checkBoundsBeginEnd_23922 1 = .ok (.iload_n 1, 1) := by decide +kernel
theorem dJ0_checkBoundsBeginEnd_23922_2 : decode cJ0_checkBoundsBeginEnd_23922 2 = .ok (.iload_n 2, 1) := by decide +kernel
theorem dJ0_checkBoundsBeginEnd_23922_3 : decode cJ0_checkBoundsBeginEnd_23922 3 = .ok (.getstatic 1053, 3) := by decide +kernel
theorem dJ0_checkBoundsBeginEnd_23922_6 : decode cJ0_checkBoundsBeginEnd_23922 6 = .ok (.invokestatic 1062, 3) := by decide +kernel
theorem dJ0_checkBoundsBeginEnd_23922_9 : decode cJ0_checkBoundsBeginEnd_23922 9 = .ok (.pop, 1) := by decide +kernel
theorem dJ0_checkBoundsBeginEnd_23922_10 : decode cJ0_checkBoundsBeginEnd_23922 10 = .ok (.return_, 1) := by decide +kernel
theorem dJ1_charAt_3b067_0 : decode cJ1_charAt_3b067 0 = .ok (.iload_n 1, 1) := by decide +kernel
theorem dJ1_charAt_3b067_1 : decode cJ1_charAt_3b067 1 = .ok (.aload_n 0, 1) := by decide +kernel
theorem dJ1_charAt_3b067_2 : decode cJ1_charAt_3b067 2 = .ok (.arraylength, 1) := by decide +kernel
theorem dJ1_charAt_3b067_3 : decode cJ1_charAt_3b067 3 = .ok (.invokestatic 9, 3) := by decide +kernel
theorem dJ1_charAt_3b067_6 : decode cJ1_charAt_3b067 6 = .ok (.aload_n 0, 1) := by decide +kernel
theorem dJ1_charAt_3b067_7 : decode cJ1_charAt_3b067 7 = .ok (.iload_n 1, 1) := by decide +kernel
theorem dJ1_charAt_3b067_8 : decode cJ1_charAt_3b067 8 = .ok (.baload, 1) := by decide +kernel
theorem dJ1_charAt_3b067_9 : decode cJ1_charAt_3b067 9 = .ok (.sipush 255, 3) := by decide +kernel
theorem dJ1_charAt_3b067_12 : decode cJ1_charAt_3b067 12 = .ok (.iand, 1) := by decide +kernel
theorem dJ1_charAt_3b067_13 : decode cJ1_charAt_3b067 13 = .ok (.i2c, 1) := by decide +kernel
theorem dJ1_charAt_3b067_14 : decode cJ1_charAt_3b067 14 = .ok (.ireturn, 1) := by decide +kernel
theorem dJ1_canEncode_9a6ad_0 : decode cJ1_canEncode_9a6ad 0 = .ok (.iload_n 0, 1) := by decide +kernel
theorem dJ1_canEncode_9a6ad_1 : decode cJ1_canEncode_9a6ad 1 = .ok (.ifCond .lt 14, 3) := by decide +kernel
theorem dJ1_canEncode_9a6ad_4 : decode cJ1_canEncode_9a6ad 4 = .ok (.iload_n 0, 1) := by decide +kernel
theorem dJ1_canEncode_9a6ad_5 : decode cJ1_canEncode_9a6ad 5 = .ok (.sipush 255, 3) := by decide +kernel
theorem dJ1_canEncode_9a6ad_8 : decode cJ1_canEncode_9a6ad 8 = .ok (.if_icmp .gt 7, 3) := by decide +kernel
theorem dJ1_canEncode_9a6ad_11 : decode cJ1_canEncode_9a6ad 11 = .ok (.iconst 1, 1) := by decide +kernel
theorem dJ1_canEncode_9a6ad_12 : decode cJ1_canEncode_9a6ad 12 = .ok (.goto 4, 3) := by decide +kernel
theorem dJ1_canEncode_9a6ad_15 : decode cJ1_canEncode_9a6ad 15 = .ok (.iconst 0, 1) := by decide +kernel
theorem dJ1_canEncode_9a6ad_16 : decode cJ1_canEncode_9a6ad 16 = .ok (.ireturn, 1) := by decide +kernel
theorem dJ1_indexOf_4cfef_0 : decode cJ1_indexOf_4cfef 0 = .ok (.iload_n 1, 1) := by decide +kernel
theorem dJ1_indexOf_4cfef_1 : decode cJ1_indexOf_4cfef 1 = .ok (.invokestatic 88, 3) := by decide +kernel
theorem dJ1_indexOf_4cfef_4 : decode cJ1_indexOf_4cfef 4 = .ok (.ifCond .ne 5, 3) := by decide +kernel
theorem dJ1_indexOf_4cfef_7 : decode cJ1_indexOf_4cfef 7 = .ok (.iconst (-1), 1) := by decide +kernel
theorem dJ1_indexOf_4cfef_8 : decode cJ1_indexOf_4cfef 8 = .ok (.ireturn, 1) := by decide +kernel
theorem dJ1_indexOf_4cfef_9 : decode cJ1_indexOf_4cfef 9 = .ok (.iload_n 2, 1) := by decide +kernel
theorem dJ1_indexOf_4cfef_10 : decode cJ1_indexOf_4cfef 10 = .ok (.iconst 0, 1) := by decide +kernel
theorem dJ1_indexOf_4cfef_11 : decode cJ1_indexOf_4cfef 11 = .ok (.invokestatic 92, 3) := by decide +kernel
theorem dJ1_indexOf_4cfef_14 : decode cJ1_indexOf_4cfef 14 = .ok (.istore_n 2, 1) := by decide +kernel
theorem dJ1_indexOf_4cfef_15 : decode cJ1_indexOf_4cfef 15 = .ok (.iload_n 3, 1) := by decide +kernel
theorem dJ1_indexOf_4cfef_16 : decode cJ1_indexOf_4cfef 16 = .ok (.aload_n 0, 1) := by decide +kernel
theorem dJ1_indexOf_4cfef_17 : decode cJ1_indexOf_4cfef 17 = .ok (.arraylength, 1) := by decide +kernel
theorem dJ1_indexOf_4cfef_18 : decode cJ1_indexOf_4cfef 18 = .ok (.invokestatic 38, 3) := by decide +kernel
theorem dJ1_indexOf_4cfef_21 : decode cJ1_indexOf_4cfef 21 = .ok (.istore_n 3, 1) := by decide +kernel
theorem dJ1_indexOf_4cfef_22 : decode cJ1_indexOf_4cfef 22 = .ok (.iload_n 2, 1) := by decide +kernel
theorem dJ1_indexOf_4cfef_23 : decode cJ1_indexOf_4cfef 23 = .ok (.iload_n 3, 1) := by decide +kernel
theorem dJ1_indexOf_4cfef_24 : decode cJ1_indexOf_4cfef 24 = .ok (.if_icmp .lt 5, 3) := by decide +kernel
theorem dJ1_indexOf_4cfef_27 : decode cJ1_indexOf_4cfef 27 = .ok (.iconst (-1), 1) := by decide +kernel
theorem dJ1_indexOf_4cfef_28 : decode cJ1_indexOf_4cfef 28 = .ok (.ireturn, 1) := by decide +kernel
theorem dJ1_indexOf_4cfef_29 : decode cJ1_indexOf_4cfef 29 = .ok (.aload_n 0, 1) := by decide +kernel
theorem dJ1_indexOf_4cfef_30 : decode cJ1_indexOf_4cfef 30 = .ok (.iload_n 1, 1) := by decide +kernel
theorem dJ1_indexOf_4cfef_31 : decode cJ1_indexOf_4cfef 31 = .ok (.iload_n 2, 1) := by decide +kernel
theorem dJ1_indexOf_4cfef_32 : decode cJ1_indexOf_4cfef 32 = .ok (.iload_n 3, 1) := by decide +kernel
theorem dJ1_indexOf_4cfef_33 : decode cJ1_indexOf_4cfef 33 = .ok (.invokestatic 95, 3) := by decide +kernel
theorem dJ1_indexOf_4cfef_36 : decode cJ1_indexOf_4cfef 36 = .ok (.ireturn, 1) := by decide +kernel
theorem dJ1_indexOfChar_4cfef_0 : decode cJ1_indexOfChar_4cfef 0 = .ok (.iload_n 1, 1) := by decide +kernel
theorem dJ1_indexOfChar_4cfef_1 : decode cJ1_indexOfChar_4cfef 1 = .ok (.i2b, 1) := by decide +kernel
theorem dJ1_indexOfChar_4cfef_2 : decode cJ1_indexOfChar_4cfef 2 = .ok (.istore 4, 2) := by decide +kernel
theorem dJ1_indexOfChar_4cfef_4 : decode cJ1_indexOfChar_4cfef 4 = .ok (.iload_n 2, 1) := by decide +kernel
theorem dJ1_indexOfChar_4cfef_5 : decode cJ1_indexOfChar_4cfef 5 = .ok (.istore 5, 2) := by decide +kernel
theorem dJ1_indexOfChar_4cfef_7 : decode cJ1_indexOfChar_4cfef 7 = .ok (.iload 5, 2) := by decide +kernel
theorem dJ1_indexOfChar_4cfef_9 : decode cJ1_indexOfChar_4cfef 9 = .ok (.iload_n 3, 1) := by decide +kernel
theorem dJ1_indexOfChar_4cfef_10 : decode cJ1_indexOfChar_4cfef 10 = .ok (.if_icmp .ge 21, 3) := by decide +kernel
theorem dJ1_indexOfChar_4cfef_13 : decode cJ1_indexOfChar_4cfef 13 = .ok (.aload_n 0, 1) := by decide +kernel
theorem dJ1_indexOfChar_4cfef_14 : decode cJ1_indexOfChar_4cfef 14 = .ok (.iload 5, 2) := by decide +kernel
theorem dJ1_indexOfChar_4cfef_16 : decode cJ1_indexOfChar_4cfef 16 = .ok (.baload, 1) := by decide +kernel
theorem dJ1_indexOfChar_4cfef_17 : decode cJ1_indexOfChar_4cfef 17 = .ok (.iload 4, 2) := by decide +kernel
theorem dJ1_indexOfChar_4cfef_19 : decode cJ1_indexOfChar_4cfef 19 = .ok (.if_icmp .ne 6, 3) := by decide +kernel
theorem dJ1_indexOfChar_4cfef_22 : decode cJ1_indexOfChar_4cfef 22 = .ok (.iload 5, 2) := by decide +kernel
theorem dJ1_indexOfChar_4cfef_24 : decode cJ1_indexOfChar_4cfef 24 = .ok (.ireturn, 1) := by decide +kernel
theorem dJ1_indexOfChar_4cfef_25 : decode cJ1_indexOfChar_4cfef 25 = .ok (.iinc 5 1, 3) := by decide +kernel
theorem dJ1_indexOfChar_4cfef_28 : decode cJ1_indexOfChar_4cfef 28 = .ok (.goto (-21), 3) := by decide +kernel
theorem dJ1_indexOfChar_4cfef_31 : decode cJ1_indexOfChar_4cfef 31 = .ok (.iconst (-1), 1) := by decide +kernel
theorem dJ1_indexOfChar_4cfef_32 : decode cJ1_indexOfChar_4cfef 32 = .ok (.ireturn, 1) := by decide +kernel
theorem dJ2_getChar_3b067_0 : decode cJ2_getChar_3b067 0 = .ok (.getstatic 44, 3) := by decide +kernel
theorem dJ2_getChar_3b067_3 : decode cJ2_getChar_3b067 3 = .ok (.ifCond .ne 25, 3) := by decide +kernel
theorem dJ2_getChar_3b067_6 : decode cJ2_getChar_3b067 6 = .ok (.iload_n 1, 1) := by decide +kernel
theorem dJ2_getChar_3b067_7 : decode cJ2_getChar_3b067 7 = .ok (.ifCond .lt 11, 3) := by decide +kernel
theorem dJ2_getChar_3b067_10 : decode cJ2_getChar_3b067 10 = .ok (.iload_n 1, 1) := by decide +kernel
theorem dJ2_getChar_3b067_11 : decode cJ2_getChar_3b067 11 = .ok (.aload_n 0, 1) := by decide +kernel
theorem dJ2_getChar_3b067_12 : decode cJ2_getChar_3b067 12 = .ok (.invokestatic 48, 3) := by decide +kernel
theorem dJ2_getChar_3b067_15 : decode cJ2_getChar_3b067 15 = .ok (.if_icmp .lt 13, 3) := by decide +kernel
theorem dJ2_getChar_3b067_18 : decode cJ2_getChar_3b067 18 = .ok (.new 52, 3) := by decide +kernel
theorem dJ2_getChar_3b067_21 : decode cJ2_getChar_3b067 21 = .ok (.dup, 1) := by decide +kernel
theorem dJ2_getChar_3b067_22 : decode cJ2_getChar_3b067 22 = .ok (.ldc 54, 2) := by decide +kernel
theorem dJ2_getChar_3b067_24 : decode cJ2_getChar_3b067 24 = .ok (.invokespecial 56, 3) := by decide +kernel
theorem dJ2_getChar_3b067_27 : decode cJ2_getChar_3b067 27 = .ok (.athrow, 1) := by decide +kernel
theorem dJ2_getChar_3b067_28 : decode cJ2_getChar_3b067 28 = .ok (.iload_n 1, 1) := by decide +kernel
theorem dJ2_getChar_3b067_29 : decode cJ2_getChar_3b067 29 = .ok (.iconst 1, 1) := by decide +kernel
theorem dJ2_getChar_3b067_30 : decode cJ2_getChar_3b067 30 = .ok (.ishl, 1) := by decide +kernel
theorem dJ2_getChar_3b067_31 : decode cJ2_getChar_3b067 31 = .ok (.istore_n 1, 1) := by decide +kernel
theorem dJ2_getChar_3b067_32 : decode cJ2_getChar_3b067 32 = .ok (.aload_n 0, 1) := by decide +kernel
theorem dJ2_getChar_3b067_33 : decode cJ2_getChar_3b067 33 = .ok (.iload_n 1, 1) := by decide +kernel
theorem dJ2_getChar_3b067_34 : decode cJ2_getChar_3b067 34 = .ok (.iinc 1 1, 3) := by decide +kernel
theorem dJ2_getChar_3b067_37 : decode cJ2_getChar_3b067 37 = .ok (.baload, 1) := by decide +kernel
theorem dJ2_getChar_3b067_38 : decode cJ2_getChar_3b067 38 = .ok (.sipush 255, 3) := by decide +kernel
theorem dJ2_getChar_3b067_41 : decode cJ2_getChar_3b067 41 = .ok (.iand, 1) := by decide +kernel
theorem dJ2_getChar_3b067_42 : decode cJ2_getChar_3b067 42 = .ok (.getstatic 59, 3) := by decide +kernel
theorem dJ2_getChar_3b067_45 : decode cJ2_getChar_3b067 45 = .ok (.ishl, 1) := by decide +kernel
theorem dJ2_getChar_3b067_46 : decode cJ2_getChar_3b067 46 = .ok (.aload_n 0, 1) := by decide +kernel
theorem dJ2_getChar_3b067_47 : decode cJ2_getChar_3b067 47 = .ok (.iload_n 1, 1) := by decide +kernel
theorem dJ2_getChar_3b067_48 : decode cJ2_getChar_3b067 48 = .ok (.baload, 1) := by decide +kernel
theorem dJ2_getChar_3b067_49 : decode cJ2_getChar_3b067 49 = .ok (.sipush 255, 3) := by decide +kernel
theorem dJ2_getChar_3b067_52 : decode cJ2_getChar_3b067 52 = .ok (.iand, 1) := by decide +kernel
theorem dJ2_getChar_3b067_53 : decode cJ2_getChar_3b067 53 = .ok (.getstatic 63, 3) := by decide +kernel
theorem dJ2_getChar_3b067_56 : decode cJ2_getChar_3b067 56 = .ok (.ishl, 1) := by decide +kernel
theorem dJ2_getChar_3b067_57 : decode cJ2_getChar_3b067 57 = .ok (.ior, 1) := by decide +kernel
theorem dJ2_getChar_3b067_58 : decode cJ2_getChar_3b067 58 = .ok (.i2c, 1) := by decide +kernel
theorem dJ2_getChar_3b067_59 : decode cJ2_getChar_3b067 59 = .ok (.ireturn, 1) := by decide +kernel
theorem dJ2_length_9d52b_0 : decode cJ2_length_9d52b 0 = .ok (.aload_n 0, 1) := by decide +kernel
theorem dJ2_length_9d52b_1 : decode cJ2_length_9d52b 1 = .ok (.arraylength, 1) := by decide +kernel
theorem dJ2_length_9d52b_2 : decode cJ2_length_9d52b 2 = .ok (.iconst 1, 1) := by decide +kernel
theorem dJ2_length_9d52b_3 : decode cJ2_length_9d52b 3 = .ok (.ishr, 1) := by decide +kernel
theorem dJ2_length_9d52b_4 : decode cJ2_length_9d52b 4 = .ok (.ireturn, 1) := by decide +kernel
theorem dJ2_indexOf_4cfef_0 : decode cJ2_indexOf_4cfef 0 = .ok (.iload_n 2, 1) := by decide +kernel
theorem dJ2_indexOf_4cfef_1 : decode cJ2_indexOf_4cfef 1 = .ok (.iconst 0, 1) := by decide +kernel
theorem dJ2_indexOf_4cfef_2 : decode cJ2_indexOf_4cfef 2 = .ok (.invokestatic 224, 3) := by decide +kernel
theorem dJ2_indexOf_4cfef_5 : decode cJ2_indexOf_4cfef 5 = .ok (.istore_n 2, 1) := by decide +kernel
theorem dJ2_indexOf_4cfef_6 : decode cJ2_indexOf_4cfef 6 = .ok (.iload_n 3, 1) := by decide +kernel
theorem dJ2_indexOf_4cfef_7 : decode cJ2_indexOf_4cfef 7 = .ok (.aload_n 0, 1) := by decide +kernel
theorem dJ2_indexOf_4cfef_8 : decode cJ2_indexOf_4cfef 8 = .ok (.arraylength, 1) := by decide +kernel
theorem dJ2_indexOf_4cfef_9 : decode cJ2_indexOf_4cfef 9 = .ok (.iconst 1, 1) := by decide +kernel
theorem dJ2_indexOf_4cfef_10 : decode cJ2_indexOf_4cfef 10 = .ok (.ishr, 1) := by decide +kernel
theorem dJ2_indexOf_4cfef_11 : decode cJ2_indexOf_4cfef 11 = .ok (.invokestatic 183, 3) := by decide +kernel
theorem dJ2_indexOf_4cfef_14 : decode cJ2_indexOf_4cfef 14 = .ok (.istore_n 3, 1) := by decide +kernel
theorem dJ2_indexOf_4cfef_15 : decode cJ2_indexOf_4cfef 15 = .ok (.iload_n 2, 1) := by decide +kernel
theorem dJ2_indexOf_4cfef_16 : decode cJ2_indexOf_4cfef 16 = .ok (.iload_n 3, 1) := by decide +kernel
theorem dJ2_indexOf_4cfef_17 : decode cJ2_indexOf_4cfef 17 = .ok (.if_icmp .lt 5, 3) := by decide +kernel
theorem dJ2_indexOf_4cfef_20 : decode cJ2_indexOf_4cfef 20 = .ok (.iconst (-1), 1) := by decide +kernel
theorem dJ2_indexOf_4cfef_21 : decode cJ2_indexOf_4cfef 21 = .ok (.ireturn, 1) := by decide +kernel
theorem dJ2_indexOf_4cfef_22 : decode cJ2_indexOf_4cfef 22 = .ok (.iload_n 1, 1) := by decide +kernel
theorem dJ2_indexOf_4cfef_23 : decode cJ2_indexOf_4cfef 23 = .ok (.ldc 227, 2) := by decide +kernel
theorem dJ2_indexOf_4cfef_25 : decode cJ2_indexOf_4cfef 25 = .ok (.if_icmp .ge 11, 3) := by decide +kernel
theorem dJ2_indexOf_4cfef_28 : decode cJ2_indexOf_4cfef 28 = .ok (.aload_n 0, 1) := by decide +kernel
theorem dJ2_indexOf_4cfef_29 : decode cJ2_indexOf_4cfef 29 = .ok (.iload_n 1, 1) := by decide +kernel
theorem dJ2_indexOf_4cfef_30 : decode cJ2_indexOf_4cfef 30 = .ok (.iload_n 2, 1) := by decide +kernel
theorem dJ2_indexOf_4cfef_31 : decode cJ2_indexOf_4cfef 31 = .ok (.iload_n 3, 1) := by decide +kernel
theorem dJ2_indexOf_4cfef_32 : decode cJ2_indexOf_4cfef 32 = .ok (.invokestatic 228, 3) := by decide +kernel
theorem dJ2_indexOf_4cfef_35 : decode cJ2_indexOf_4cfef 35 = .ok (.ireturn, 1) := by decide +kernel
theorem dJ2_indexOf_4cfef_36 : decode cJ2_indexOf_4cfef 36 = .ok (.aload_n 0, 1) := by decide +kernel
theorem dJ2_indexOf_4cfef_37 : decode cJ2_indexOf_4cfef 37 = .ok (.iload_n 1, 1) := by decide +kernel
theorem dJ2_indexOf_4cfef_38 : decode cJ2_indexOf_4cfef 38 = .ok (.iload_n 2, 1) := by decide +kernel
theorem dJ2_indexOf_4cfef_39 : decode cJ2_indexOf_4cfef 39 = .ok (.iload_n 3, 1) := by decide +kernel
theorem dJ2_indexOf_4cfef_40 : decode cJ2_indexOf_4cfef 40 = .ok (.invokestatic 232, 3) := by decide +kernel
theorem dJ2_indexOf_4cfef_43 : decode cJ2_indexOf_4cfef 43 = .ok (.ireturn, 1) := by decide +kernel
theorem dJ2_indexOfChar_4cfef_0 : decode cJ2_indexOfChar_4cfef 0 = .ok (.iload_n 2, 1) := by decide +kernel
theorem dJ2_indexOfChar_4cfef_1 : decode cJ2_indexOfChar_4cfef 1 = .ok (.iload_n 3, 1) := by decide +kernel
theorem dJ2_indexOfChar_4cfef_2 : decode cJ2_indexOfChar_4cfef 2 = .ok (.aload_n 0, 1) := by decide +kernel
theorem dJ2_indexOfChar_4cfef_3 : decode cJ2_indexOfChar_4cfef 3 = .ok (.invokestatic 96, 3) := by decide +kernel
theorem dJ2_indexOfChar_4cfef_6 : decode cJ2_indexOfChar_4cfef 6 = .ok (.aload_n 0, 1) := by decide +kernel
theorem dJ2_indexOfChar_4cfef_7 : decode cJ2_indexOfChar_4cfef 7 = .ok (.iload_n 1, 1) := by decide +kernel
theorem dJ2_indexOfChar_4cfef_8 : decode cJ2_indexOfChar_4cfef 8 = .ok (.iload_n 2, 1) := by decide +kernel
theorem dJ2_indexOfChar_4cfef_9 : decode cJ2_indexOfChar_4cfef 9 = .ok (.iload_n 3, 1) := by decide +kernel
theorem dJ2_indexOfChar_4cfef_10 : decode cJ2_indexOfChar_4cfef 10 = .ok (.invokestatic 244, 3) := by decide +kernel
theorem dJ2_indexOfChar_4cfef_13 : decode cJ2_indexOfChar_4cfef 13 = .ok (.ireturn, 1) := by decide +kernel
theorem dJ2_indexOfCharUnsafe_4cfef_0 : decode cJ2_indexOfCharUnsafe_4cfef 0 = .ok (.iload_n 2, 1) := by decide +kernel
theorem dJ2_indexOfCharUnsafe_4cfef_1 : decode cJ2_indexOfCharUnsafe_4cfef 1 = .ok (.istore 4, 2) := by decide +kernel
theorem dJ2_indexOfCharUnsafe_4cfef_3 : decode cJ2_indexOfCharUnsafe_4cfef 3 = .ok (.iload 4, 2) := by decide +kernel
theorem dJ2_indexOfCharUnsafe_4cfef_5 : decode cJ2_indexOfCharUnsafe_4cfef 5 = .ok (.iload_n 3, 1) := by decide +kernel
theorem dJ2_indexOfCharUnsafe_4cfef_6 : decode cJ2_indexOfCharUnsafe_4cfef 6 = .ok (.if_icmp .ge 22, 3) := by decide +kernel
theorem dJ2_indexOfCharUnsafe_4cfef_9 : decode cJ2_indexOfCharUnsafe_4cfef 9 = .ok (.aload_n 0, 1) := by decide +kernel
theorem dJ2_indexOfCharUnsafe_4cfef_10 : decode cJ2_indexOfCharUnsafe_4cfef 10 = .ok (.iload 4, 2) := by decide +kernel
theorem dJ2_indexOfCharUnsafe_4cfef_12 : decode cJ2_indexOfCharUnsafe_4cfef 12 = .ok (.invokestatic 71, 3) := by decide +kernel
theorem dJ2_indexOfCharUnsafe_4cfef_15 : decode cJ2_indexOfCharUnsafe_4cfef 15 = .ok (.iload_n 1, 1) := by decide +kernel
theorem dJ2_indexOfCharUnsafe_4cfef_16 : decode cJ2_indexOfCharUnsafe_4cfef 16 = .ok (.if_icmp .ne 6, 3) := by decide +kernel
theorem dJ2_indexOfCharUnsafe_4cfef_19 : decode cJ2_indexOfCharUnsafe_4cfef 19 = .ok (.iload 4, 2) := by decide +kernel
theorem dJ2_indexOfCharUnsafe_4cfef_21 : decode cJ2_indexOfCharUnsafe_4cfef 21 = .ok (.ireturn, 1) := by decide +kernel
theorem dJ2_indexOfCharUnsafe_4cfef_22 : decode cJ2_indexOfCharUnsafe_4cfef 22 = .ok (.iinc 4 1, 3) := by decide +kernel
theorem dJ2_indexOfCharUnsafe_4cfef_25 : decode cJ2_indexOfCharUnsafe_4cfef 25 = .ok (.goto (-22), 3) := by decide +kernel
theorem dJ2_indexOfCharUnsafe_4cfef_28 : decode cJ2_indexOfCharUnsafe_4cfef 28 = .ok (.iconst (-1), 1) := by decide +kernel
theorem dJ2_indexOfCharUnsafe_4cfef_29 : decode cJ2_indexOfCharUnsafe_4cfef 29 = .ok (.ireturn, 1) := by decide +kernel
theorem dJ2_indexOfSupplementary_4cfef_0 : decode cJ2_indexOfSupplementary_4cfef 0 = .ok (.iload_n 1, 1) := by decide +kernel
theorem dJ2_indexOfSupplementary_4cfef_1 : decode cJ2_indexOfSupplementary_4cfef 1 = .ok (.invokestatic 164, 3) := by decide +kernel
theorem dJ2_indexOfSupplementary_4cfef_4 : decode cJ2_indexOfSupplementary_4cfef 4 = .ok (.ifCond .eq 65, 3) := by decide +kernel
theorem dJ2_indexOfSupplementary_4cfef_7 : decode cJ2_indexOfSupplementary_4cfef 7 = .ok (.iload_n 1, 1) := by decide +kernel
theorem dJ2_indexOfSupplementary_4cfef_8 : decode cJ2_indexOfSupplementary_4cfef 8 = .ok (.invokestatic 157, 3) := by decide +kernel
theorem dJ2_indexOfSupplementary_4cfef_11 : decode cJ2_indexOfSupplementary_4cfef 11 = .ok (.istore 4, 2) := by decide +kernel
theorem dJ2_indexOfSupplementary_4cfef_13 : decode cJ2_indexOfSupplementary_4cfef 13 = .ok (.iload_n 1, 1) := by decide +kernel
theorem dJ2_indexOfSupplementary_4cfef_14 : decode cJ2_indexOfSupplementary_4cfef 14 = .ok (.invokestatic 161, 3) := by decide +kernel
theorem dJ2_indexOfSupplementary_4cfef_17 : decode cJ2_indexOfSupplementary_4cfef 17 = .ok (.istore 5, 2) := by decide +kernel
theorem dJ2_indexOfSupplementary_4cfef_19 : decode cJ2_indexOfSupplementary_4cfef 19 = .ok (.iload_n 2, 1) := by decide +kernel
theorem dJ2_indexOfSupplementary_4cfef_20 : decode cJ2_indexOfSupplementary_4cfef 20 = .ok (.iload_n 3, 1) := by decide +kernel
theorem dJ2_indexOfSupplementary_4cfef_21 : decode cJ2_indexOfSupplementary_4cfef 21 = .ok (.aload_n 0, 1) := by decide +kernel
theorem dJ2_indexOfSupplementary_4cfef_22 : decode cJ2_indexOfSupplementary_4cfef 22 = .ok (.invokestatic 96, 3) := by decide +kernel
theorem dJ2_indexOfSupplementary_4cfef_25 : decode cJ2_indexOfSupplementary_4cfef 25 = .ok (.iload_n 2, 1) := by decide +kernel
theorem dJ2_indexOfSupplementary_4cfef_26 : decode cJ2_indexOfSupplementary_4cfef 26 = .ok (.istore 6, 2) := by decide +kernel
theorem dJ2_indexOfSupplementary_4cfef_28 : decode cJ2_indexOfSupplementary_4cfef 28 = .ok (.iload 6, 2) := by decide +kernel
theorem dJ2_indexOfSupplementary_4cfef_30 : decode cJ2_indexOfSupplementary_4cfef 30 = .ok (.iload_n 3, 1) := by decide +kernel
theorem dJ2_indexOfSupplementary_4cfef_31 : decode cJ2_indexOfSupplementary_4cfef 31 = .ok (.iconst 1, 1) := by decide +kernel
theorem dJ2_indexOfSupplementary_4cfef_32 : decode cJ2_indexOfSupplementary_4cfef 32 = .ok (.isub, 1) := by decide +kernel
theorem dJ2_indexOfSupplementary_4cfef_33 : decode cJ2_indexOfSupplementary_4cfef 33 = .ok (.if_icmp .ge 36, 3) := by decide +kernel
theorem dJ2_indexOfSupplementary_4cfef_36 : decode cJ2_indexOfSupplementary_4cfef 36 = .ok (.aload_n 0, 1) := by decide +kernel
theorem dJ2_indexOfSupplementary_4cfef_37 : decode cJ2_indexOfSupplementary_4cfef 37 = .ok (.iload 6, 2) := by decide +kernel
theorem dJ2_indexOfSupplementary_4cfef_39 : decode cJ2_indexOfSupplementary_4cfef 39 = .ok (.invokestatic 71, 3) := by decide +kernel
theorem dJ2_indexOfSupplementary_4cfef_42 : decode cJ2_indexOfSupplementary_4cfef 42 = .ok (.iload 4, 2) := by decide +kernel
theorem dJ2_indexOfSupplementary_4cfef_44 : decode cJ2_indexOfSupplementary_4cfef 44 = .ok (.if_icmp .ne 19, 3) := by decide +kernel
theorem dJ2_indexOfSupplementary_4cfef_47 : decode cJ2_indexOfSupplementary_4cfef 47 = .ok (.aload_n 0, 1) := by decide +kernel
theorem dJ2_indexOfSupplementary_4cfef_48 : decode cJ2_indexOfSupplementary_4cfef 48 = .ok (.iload 6, 2) := by decide +kernel
theorem dJ2_indexOfSupplementary_4cfef_50 : decode cJ2_indexOfSupplementary_4cfef 50 = .ok (.iconst 1, 1) := by decide +kernel
theorem dJ2_indexOfSupplementary_4cfef_51 : decode cJ2_indexOfSupplementary_4cfef 51 = .ok (.iadd, 1) := by decide +kernel
theorem dJ2_indexOfSupplementary_4cfef_52 : decode cJ2_indexOfSupplementary_4cfef 52 = .ok (.invokestatic 71, 3) := by decide +kernel
theorem dJ2_indexOfSupplementary_4cfef_55 : decode cJ2_indexOfSupplementary_4cfef 55 = .ok (.iload 5, 2) := by decide +kernel
theorem dJ2_indexOfSupplementary_4cfef_57 : decode cJ2_indexOfSupplementary_4cfef 57 = .ok (.if_icmp .ne 6, 3) := by decide +kernel
theorem dJ2_indexOfSupplementary_4cfef_60 : decode cJ2_indexOfSupplementary_4cfef 60 = .ok (.iload 6, 2) := by decide +kernel
theorem dJ2_indexOfSupplementary_4cfef_62 : decode cJ2_indexOfSupplementary_4cfef 62 = .ok (.ireturn, 1) := by decide +kernel
theorem dJ2_indexOfSupplementary_4cfef_63 : decode cJ2_indexOfSupplementary_4cfef 63 = .ok (.iinc 6 1, 3) := by decide +kernel
theorem dJ2_indexOfSupplementary_4cfef_66 : decode cJ2_indexOfSupplementary_4cfef 66 = .ok (.goto (-38), 3) := by decide +kernel
theorem dJ2_indexOfSupplementary_4cfef_69 : decode cJ2_indexOfSupplementary_4cfef 69 = .ok (.iconst (-1), 1) := by decide +kernel
theorem dJ2_indexOfSupplementary_4cfef_70 : decode cJ2_indexOfSupplementary_4cfef 70 = .ok (.ireturn, 1) := by decide +kernel
theorem dJ2_charAt_3b067_0 : decode cJ2_charAt_3b067 0 = .ok (.iload_n 1, 1) := by decide +kernel
theorem dJ2_charAt_3b067_1 : decode cJ2_charAt_3b067 1 = .ok (.aload_n 0, 1) := by decide +kernel
theorem dJ2_charAt_3b067_2 : decode cJ2_charAt_3b067 2 = .ok (.invokestatic 67, 3) := by decide +kernel
theorem dJ2_charAt_3b067_5 : decode cJ2_charAt_3b067 5 = .ok (.aload_n 0, 1) := by decide +kernel
theorem dJ2_charAt_3b067_6 : decode cJ2_charAt_3b067 6 = .ok (.iload_n 1, 1) := by decide +kernel
theorem dJ2_charAt_3b067_7 : decode cJ2_charAt_3b067 7 = .ok (.invokestatic 71, 3) := by decide +kernel
theorem dJ2_charAt_3b067_10 : decode cJ2_charAt_3b067 10 = .ok (.ireturn, 1) := by decide +kernel
theorem dJ2_checkIndex_2214a_0 : decode cJ2_checkIndex_2214a 0 = .ok (.iload_n 0, 1) := by decide +kernel
theorem dJ2_checkIndex_2214a_1 : decode cJ2_checkIndex_2214a 1 = .ok (.aload_n 1, 1) := by decide +kernel
theorem dJ2_checkIndex_2214a_2 : decode cJ2_checkIndex_2214a 2 = .ok (.invokestatic 48, 3) := by decide +kernel
theorem dJ2_checkIndex_2214a_5 : decode cJ2_checkIndex_2214a 5 = .ok (.invokestatic 414, 3) := by decide +kernel
theorem dJ2_checkIndex_2214a_8 : decode cJ2_checkIndex_2214a 8 = .ok (.return_, 1) := by decide +kernel
theorem dJ2_checkBoundsBeginEnd_d044e_0 : decode cJ2_checkBoundsBeginEnd_d044e 0 = .ok (.iload_n 0, 1) := by decide +kernel
theorem dJ2_checkBoundsBeginEnd_d044e_1 : decode cJ2_checkBoundsBeginEnd_d044e 1 = .ok (.iload_n 1, 1) := by decide +kernel
theorem dJ2_checkBoundsBeginEnd_d044e_2 : decode cJ2_checkBoundsBeginEnd_d044e 2 = .ok (.aload_n 2, 1) := by decide +kernel
theorem dJ2_checkBoundsBeginEnd_d044e_3 : decode cJ2_checkBoundsBeginEnd_d044e 3 = .ok (.invokestatic 48, 3) := by decide +kernel
theorem dJ2_checkBoundsBeginEnd_d044e_6 : decode cJ2_checkBoundsBeginEnd_d044e 6 = .ok (.invokestatic 241, 3) := by decide +kernel
theorem dJ2_checkBoundsBeginEnd_d044e_9 : decode cJ2_checkBoundsBeginEnd_d044e 9 = .ok (.return_, 1) := by decide +kernel
theorem dJ7_fill_53178_0 : decode cJ7_fill_53178 0 = .ok (.iconst 0, 1) := by decide +kernel
theorem dJ7_fill_53178_1 : decode cJ7_fill_53178 1 = .ok (.istore_n 2, 1) := by decide +kernel
theorem dJ7_fill_53178_2 : decode cJ7_fill_53178 2 = .ok (.aload_n 0, 1) := by decide +kernel
theorem dJ7_fill_53178_3 : decode cJ7_fill_53178 3 = .ok (.arraylength, 1) := by decide +kernel
theorem dJ7_fill_53178_4 : decode cJ7_fill_53178 4 = .ok (.istore_n 3, 1) := by decide +kernel
theorem dJ7_fill_53178_5 : decode cJ7_fill_53178 5 = .ok (.iload_n 2, 1) := by decide +kernel
theorem dJ7_fill_53178_6 : decode cJ7_fill_53178 6 = .ok (.iload_n 3, 1) := by decide +kernel
theorem dJ7_fill_53178_7 : decode cJ7_fill_53178 7 = .ok (.if_icmp .ge 13, 3) := by decide +kernel
theorem dJ7_fill_53178_10 : decode cJ7_fill_53178 10 = .ok (.aload_n 0, 1) := by decide +kernel
theorem dJ7_fill_53178_11 : decode cJ7_fill_53178 11 = .ok (.iload_n 2, 1) := by decide +kernel
theorem dJ7_fill_53178_12 : decode cJ7_fill_53178 12 = .ok (.iload_n 1, 1) := by decide +kernel
theorem dJ7_fill_53178_13 : decode cJ7_fill_53178 13 = .ok (.iastore, 1) := by decide +kernel
theorem dJ7_fill_53178_14 : decode cJ7_fill_53178 14 = .ok (.iinc 2 1, 3) := by decide +kernel
theorem dJ7_fill_53178_17 : decode cJ7_fill_53178 17 = .ok (.goto (-12), 3) := by decide +kernel
theorem dJ7_fill_53178_20 : decode cJ7_fill_53178 20 = .ok (.return_, 1) := by decide +kernel
theorem dJ3_checkIndex_8e157_0 : decode cJ3_checkIndex_8e157 0 = .ok (.iload_n 0, 1) := by decide +kernel
theorem dJ3_checkIndex_8e157_1 : decode cJ3_checkIndex_8e157 1 = .ok (.ifCond .lt 8, 3) := by decide +kernel
theorem dJ3_checkIndex_8e157_4 : decode cJ3_checkIndex_8e157 4 = .ok (.iload_n 0, 1) := by decide +kernel
theorem dJ3_checkIndex_8e157_5 : decode cJ3_checkIndex_8e157 5 = .ok (.iload_n 1, 1) := by decide +kernel
theorem dJ3_checkIndex_8e157_6 : decode cJ3_checkIndex_8e157 6 = .ok (.if_icmp .lt 10, 3) := by decide +kernel
theorem dJ3_checkIndex_8e157_9 : decode cJ3_checkIndex_8e157 9 = .ok (.aload_n 2, 1) := by decide +kernel
theorem dJ3_checkIndex_8e157_10 : decode cJ3_checkIndex_8e157 10 = .ok (.iload_n 0, 1) := by decide +kernel
theorem dJ3_checkIndex_8e157_11 : decode cJ3_checkIndex_8e157 11 = .ok (.iload_n 1, 1) := by decide +kernel
theorem dJ3_checkIndex_8e157_12 : decode cJ3_checkIndex_8e157 12 = .ok (.invokestatic 95, 3) := by decide +kernel
theorem dJ3_checkIndex_8e157_15 : decode cJ3_checkIndex_8e157 15 = .ok (.athrow, 1) := by decide +kernel
theorem dJ3_checkIndex_8e157_16 : decode cJ3_checkIndex_8e157 16 = .ok (.iload_n 0, 1) := by decide +kernel
theorem dJ3_checkIndex_8e157_17 : decode cJ3_checkIndex_8e157 17 = .ok (.ireturn, 1) := by decide +kernel
theorem dJ3_checkFromToIndex_8c36e_0 : decode cJ3_checkFromToIndex_8c36e 0 = .ok (.iload_n 0, 1) := by decide +kernel
theorem dJ3_checkFromToIndex_8c36e_1 : decode cJ3_checkFromToIndex_8c36e 1 = .ok (.ifCond .lt 13, 3) := by decide +kernel
theorem dJ3_checkFromToIndex_8c36e_4 : decode cJ3_checkFromToIndex_8c36e 4 = .ok (.iload_n 0, 1) := by decide +kernel
theorem dJ3_checkFromToIndex_8c36e_5 : decode cJ3_checkFromToIndex_8c36e 5 = .ok (.iload_n 1, 1) := by decide +kernel
theorem dJ3_checkFromToIndex_8c36e_6 : decode cJ3_checkFromToIndex_8c36e 6 = .ok (.if_icmp .gt 8, 3) := by decide +kernel
theorem dJ3_checkFromToIndex_8c36e_9 : decode cJ3_checkFromToIndex_8c36e 9 = .ok (.iload_n 1, 1) := by decide +kernel
theorem dJ3_checkFromToIndex_8c36e_10 : decode cJ3_checkFromToIndex_8c36e 10 = .ok (.iload_n 2, 1) := by decide +kernel
theorem dJ3_checkFromToIndex_8c36e_11 : decode cJ3_checkFromToIndex_8c36e 11 = .ok (.if_icmp .le 11, 3) := by decide +kernel
theorem dJ3_checkFromToIndex_8c36e_14 : decode cJ3_checkFromToIndex_8c36e 14 = .ok (.aload_n 3, 1) := by decide +kernel
theorem dJ3_checkFromToIndex_8c36e_15 : decode cJ3_checkFromToIndex_8c36e 15 = .ok (.iload_n 0, 1) := by decide +kernel
theorem dJ3_checkFromToIndex_8c36e_16 : decode cJ3_checkFromToIndex_8c36e 16 = .ok (.iload_n 1, 1) := by decide +kernel
theorem dJ3_checkFromToIndex_8c36e_17 : decode cJ3_checkFromToIndex_8c36e 17 = .ok (.iload_n 2, 1) := by decide +kernel
theorem dJ3_checkFromToIndex_8c36e_18 : decode cJ3_checkFromToIndex_8c36e 18 = .ok (.invokestatic 99, 3) := by decide +kernel
theorem dJ3_checkFromToIndex_8c36e_21 : decode cJ3_checkFromToIndex_8c36e 21 = .ok (.athrow, 1) := by decide +kernel
theorem dJ3_checkFromToIndex_8c36e_22 : decode cJ3_checkFromToIndex_8c36e 22 = .ok (.iload_n 0, 1) := by decide +kernel
theorem dJ3_checkFromToIndex_8c36e_23 : decode cJ3_checkFromToIndex_8c36e 23 = .ok (.ireturn, 1) := by decide +kernel
theorem dL_cell_0 : decode cL_cell 0 = .ok (.iload_n 1, 1) := by decide +kernel
theorem dL_cell_1 : decode cL_cell 1 = .ok (.aload_n 0, 1) := by decide +kernel
theorem dL_cell_2 : decode cL_cell 2 = .ok (.arraylength, 1) := by decide +kernel
theorem dL_cell_3 : decode cL_cell 3 = .ok (.if_icmp .ge 9, 3) := by decide +kernel
theorem dL_cell_6 : decode cL_cell 6 = .ok (.aload_n 0, 1) := by decide +kernel
theorem dL_cell_7 : decode cL_cell 7 = .ok (.iload_n 1, 1) := by decide +kernel
theorem dL_cell_8 : decode cL_cell 8 = .ok (.iaload, 1) := by decide +kernel
theorem dL_cell_9 : decode cL_cell 9 = .ok (.goto 11, 3) := by decide +kernel
theorem dL_cell_12 : decode cL_cell 12 = .ok (.ldc 7, 2) := by decide +kernel
theorem dL_cell_14 : decode cL_cell 14 = .ok (.iload_n 1, 1) := by decide +kernel
theorem dL_cell_15 : decode cL_cell 15 = .ok (.imul, 1) := by decide +kernel
theorem dL_cell_16 : decode cL_cell 16 = .ok (.sipush 3911, 3) := by decide +kernel
theorem dL_cell_19 : decode cL_cell 19 = .ok (.iadd, 1) := by decide +kernel
theorem dL_cell_20 : decode cL_cell 20 = .ok (.ireturn, 1) := by decide +kernel
theorem dL_low_0 : decode cL_low 0 = .ok (.iload_n 0, 1) := by decide +kernel
theorem dL_low_1 : decode cL_low 1 = .ok (.ldc 8, 2) := by decide +kernel
theorem dL_low_3 : decode cL_low 3 = .ok (.iand, 1) := by decide +kernel
theorem dL_low_4 : decode cL_low 4 = .ok (.iload_n 1, 1) := by decide +kernel
theorem dL_low_5 : decode cL_low 5 = .ok (.irem, 1) := by decide +kernel
theorem dL_low_6 : decode cL_low 6 = .ok (.ireturn, 1) := by decide +kernel
theorem dL_tells_0 : decode cL_tells 0 = .ok (.iconst 0, 1) := by decide +kernel
theorem dL_tells_1 : decode cL_tells 1 = .ok (.istore_n 2, 1) := by decide +kernel
theorem dL_tells_2 : decode cL_tells 2 = .ok (.iload_n 2, 1) := by decide +kernel
theorem dL_tells_3 : decode cL_tells 3 = .ok (.bipush 36, 2) := by decide +kernel
theorem dL_tells_5 : decode cL_tells 5 = .ok (.if_icmp .ge 58, 3) := by decide +kernel
theorem dL_tells_8 : decode cL_tells 8 = .ok (.aload_n 1, 1) := by decide +kernel
theorem dL_tells_9 : decode cL_tells 9 = .ok (.iload_n 2, 1) := by decide +kernel
theorem dL_tells_10 : decode cL_tells 10 = .ok (.iconst 4, 1) := by decide +kernel
theorem dL_tells_11 : decode cL_tells 11 = .ok (.idiv, 1) := by decide +kernel
theorem dL_tells_12 : decode cL_tells 12 = .ok (.invokestatic 9, 3) := by decide +kernel
theorem dL_tells_15 : decode cL_tells 15 = .ok (.bipush 7, 2) := by decide +kernel
theorem dL_tells_17 : decode cL_tells 17 = .ok (.iload_n 2, 1) := by decide +kernel
theorem dL_tells_18 : decode cL_tells 18 = .ok (.iconst 4, 1) := by decide +kernel
theorem dL_tells_19 : decode cL_tells 19 = .ok (.irem, 1) := by decide +kernel
theorem dL_tells_20 : decode cL_tells 20 = .ok (.imul, 1) := by decide +kernel
theorem dL_tells_21 : decode cL_tells 21 = .ok (.ishr, 1) := by decide +kernel
theorem dL_tells_22 : decode cL_tells 22 = .ok (.istore_n 3, 1) := by decide +kernel
theorem dL_tells_23 : decode cL_tells 23 = .ok (.aload_n 0, 1) := by decide +kernel
theorem dL_tells_24 : decode cL_tells 24 = .ok (.iload_n 2, 1) := by decide +kernel
theorem dL_tells_25 : decode cL_tells 25 = .ok (.bipush 6, 2) := by decide +kernel
theorem dL_tells_27 : decode cL_tells 27 = .ok (.irem, 1) := by decide +kernel
theorem dL_tells_28 : decode cL_tells 28 = .ok (.iload_n 2, 1) := by decide +kernel
theorem dL_tells_29 : decode cL_tells 29 = .ok (.bipush 6, 2) := by decide +kernel
theorem dL_tells_31 : decode cL_tells 31 = .ok (.idiv, 1) := by decide +kernel
theorem dL_tells_32 : decode cL_tells 32 = .ok (.iload_n 2, 1) := by decide +kernel
theorem dL_tells_33 : decode cL_tells 33 = .ok (.ifCond .ne 8, 3) := by decide +kernel
theorem dL_tells_36 : decode cL_tells 36 = .ok (.bipush 46, 2) := by decide +kernel
theorem dL_tells_38 : decode cL_tells 38 = .ok (.goto 14, 3) := by decide +kernel
theorem dL_tells_41 : decode cL_tells 41 = .ok (.ldc 15, 2) := by decide +kernel
theorem dL_tells_43 : decode cL_tells 43 = .ok (.iload_n 3, 1) := by decide +kernel
theorem dL_tells_44 : decode cL_tells 44 = .ok (.bipush 21, 2) := by decide +kernel
theorem dL_tells_46 : decode cL_tells 46 = .ok (.invokestatic 17, 3) := by decide +kernel
theorem dL_tells_49 : decode cL_tells 49 = .ok (.invokevirtual 21, 3) := by decide +kernel
theorem dL_tells_52 : decode cL_tells 52 = .ok (.invokevirtual 27, 3) := by decide +kernel
theorem dL_tells_55 : decode cL_tells 55 = .ok (.istore 4, 2) := by decide +kernel
theorem dL_tells_57 : decode cL_tells 57 = .ok (.iinc 2 1, 3) := by decide +kernel
theorem dL_tells_60 : decode cL_tells 60 = .ok (.goto (-58), 3) := by decide +kernel
theorem dL_tells_63 : decode cL_tells 63 = .ok (.iconst 0, 1) := by decide +kernel
theorem dL_tells_64 : decode cL_tells 64 = .ok (.istore_n 2, 1) := by decide +kernel
theorem dL_tells_65 : decode cL_tells 65 = .ok (.iload_n 2, 1) := by decide +kernel
theorem dL_tells_66 : decode cL_tells 66 = .ok (.bipush 8, 2) := by decide +kernel
theorem dL_tells_68 : decode cL_tells 68 = .ok (.if_icmp .ge 96, 3) := by decide +kernel
theorem dL_tells_71 : decode cL_tells 71 = .ok (.aload_n 1, 1) := by decide +kernel
theorem dL_tells_72 : decode cL_tells 72 = .ok (.bipush 10, 2) := by decide +kernel
theorem dL_tells_74 : decode cL_tells 74 = .ok (.iload_n 2, 1) := by decide +kernel
theorem dL_tells_75 : decode cL_tells 75 = .ok (.iadd, 1) := by decide +kernel
theorem dL_tells_76 : decode cL_tells 76 = .ok (.invokestatic 9, 3) := by decide +kernel
theorem dL_tells_79 : decode cL_tells 79 = .ok (.istore_n 3, 1) := by decide +kernel
theorem dL_tells_80 : decode cL_tells 80 = .ok (.aload_n 0, 1) := by decide +kernel
theorem dL_tells_81 : decode cL_tells 81 = .ok (.iload_n 2, 1) := by decide +kernel
theorem dL_tells_82 : decode cL_tells 82 = .ok (.iload_n 3, 1) := by decide +kernel
theorem dL_tells_83 : decode cL_tells 83 = .ok (.bipush 10, 2) := by decide +kernel
theorem dL_tells_85 : decode cL_tells 85 = .ok (.invokestatic 17, 3) := by decide +kernel
theorem dL_tells_88 : decode cL_tells 88 = .ok (.iload_n 3, 1) := by decide +kernel
theorem dL_tells_89 : decode cL_tells 89 = .ok (.iconst 4, 1) := by decide +kernel
theorem dL_tells_90 : decode cL_tells 90 = .ok (.ishr, 1) := by decide +kernel
theorem dL_tells_91 : decode cL_tells 91 = .ok (.iconst 2, 1) := by decide +kernel
theorem dL_tells_92 : decode cL_tells 92 = .ok (.invokestatic 17, 3) := by decide +kernel
theorem dL_tells_95 : decode cL_tells 95 = .ok (.ifCond .ne 7, 3) := by decide +kernel
theorem dL_tells_98 : decode cL_tells 98 = .ok (.iconst 1, 1) := by decide +kernel
theorem dL_tells_99 : decode cL_tells 99 = .ok (.goto 4, 3) := by decide +kernel
theorem dL_tells_102 : decode cL_tells 102 = .ok (.iconst 0, 1) := by decide +kernel
theorem dL_tells_103 : decode cL_tells 103 = .ok (.invokevirtual 33, 3) := by decide +kernel
theorem dL_tells_106 : decode cL_tells 106 = .ok (.istore 4, 2) := by decide +kernel
theorem dL_tells_108 : decode cL_tells 108 = .ok (.iload_n 2, 1) := by decide +kernel
theorem dL_tells_109 : decode cL_tells 109 = .ok (.iconst 2, 1) := by decide +kernel
theorem dL_tells_110 : decode cL_tells 110 = .ok (.if_icmp .le 48, 3) := by decide +kernel
theorem dL_tells_113 : decode cL_tells 113 = .ok (.iload_n 2, 1) := by decide +kernel
theorem dL_tells_114 : decode cL_tells 114 = .ok (.bipush 6, 2) := by decide +kernel
theorem dL_tells_116 : decode cL_tells 116 = .ok (.if_icmp .ge 42, 3) := by decide +kernel
theorem dL_tells_119 : decode cL_tells 119 = .ok (.aload_n 0, 1) := by decide +kernel
theorem dL_tells_120 : decode cL_tells 120 = .ok (.iload_n 2, 1) := by decide +kernel
theorem dL_tells_121 : decode cL_tells 121 = .ok (.ldc 37, 2) := by decide +kernel
theorem dL_tells_123 : decode cL_tells 123 = .ok (.iload_n 3, 1) := by decide +kernel
theorem dL_tells_124 : decode cL_tells 124 = .ok (.bipush 6, 2) := by decide +kernel
theorem dL_tells_126 : decode cL_tells 126 = .ok (.ishr, 1) := by decide +kernel
theorem dL_tells_127 : decode cL_tells 127 = .ok (.iconst 5, 1) := by decide +kernel
theorem dL_tells_128 : decode cL_tells 128 = .ok (.invokestatic 17, 3) := by decide +kernel
theorem dL_tells_131 : decode cL_tells 131 = .ok (.invokevirtual 21, 3) := by decide +kernel
theorem dL_tells_134 : decode cL_tells 134 = .ok (.iconst 1, 1) := by decide +kernel
theorem dL_tells_135 : decode cL_tells 135 = .ok (.iload_n 3, 1) := by decide +kernel
theorem dL_tells_136 : decode cL_tells 136 = .ok (.bipush 9, 2) := by decide +kernel
theorem dL_tells_138 : decode cL_tells 138 = .ok (.ishr, 1) := by decide +kernel
theorem dL_tells_139 : decode cL_tells 139 = .ok (.bipush 20, 2) := by decide +kernel
theorem dL_tells_141 : decode cL_tells 141 = .ok (.invokestatic 17, 3) := by decide +kernel
theorem dL_tells_144 : decode cL_tells 144 = .ok (.iadd, 1) := by decide +kernel
theorem dL_tells_145 : decode cL_tells 145 = .ok (.iload_n 3, 1) := by decide +kernel
theorem dL_tells_146 : decode cL_tells 146 = .ok (.bipush 14, 2) := by decide +kernel
theorem dL_tells_148 : decode cL_tells 148 = .ok (.ishr, 1) := by decide +kernel
theorem dL_tells_149 : decode cL_tells 149 = .ok (.iconst 4, 1) := by decide +kernel
theorem dL_tells_150 : decode cL_tells 150 = .ok (.invokestatic 17, 3) := by decide +kernel
theorem dL_tells_153 : decode cL_tells 153 = .ok (.invokevirtual 39, 3) := by decide +kernel
theorem dL_tells_156 : decode cL_tells 156 = .ok (.istore 5, 2) := by decide +kernel
theorem dL_tells_158 : decode cL_tells 158 = .ok (.iinc 2 1, 3) := by decide +kernel
theorem dL_tells_161 : decode cL_tells 161 = .ok (.goto (-96), 3) := by decide +kernel
theorem dL_tells_164 : decode cL_tells 164 = .ok (.iconst 1, 1) := by decide +kernel
theorem dL_tells_165 : decode cL_tells 165 = .ok (.aload_n 1, 1) := by decide +kernel
theorem dL_tells_166 : decode cL_tells 166 = .ok (.bipush 18, 2) := by decide +kernel
theorem dL_tells_168 : decode cL_tells 168 = .ok (.invokestatic 9, 3) := by decide +kernel
theorem dL_tells_171 : decode cL_tells 171 = .ok (.bipush 24, 2) := by decide +kernel
theorem dL_tells_173 : decode cL_tells 173 = .ok (.invokestatic 17, 3) := by decide +kernel
theorem dL_tells_176 : decode cL_tells 176 = .ok (.iadd, 1) := by decide +kernel
theorem dL_tells_177 : decode cL_tells 177 = .ok (.istore_n 2, 1) := by decide +kernel
theorem dL_tells_178 : decode cL_tells 178 = .ok (.aload_n 0, 1) := by decide +kernel
theorem dL_tells_179 : decode cL_tells 179 = .ok (.iconst 0, 1) := by decide +kernel
theorem dL_tells_180 : decode cL_tells 180 = .ok (.iconst 0, 1) := by decide +kernel
theorem dL_tells_181 : decode cL_tells 181 = .ok (.iload_n 2, 1) := by decide +kernel
theorem dL_tells_182 : decode cL_tells 182 = .ok (.iconst 5, 1) := by decide +kernel
theorem dL_tells_183 : decode cL_tells 183 = .ok (.aload_n 1, 1) := by decide +kernel
theorem dL_tells_184 : decode cL_tells 184 = .ok (.bipush 18, 2) := by decide +kernel
theorem dL_tells_186 : decode cL_tells 186 = .ok (.invokestatic 9, 3) := by decide +kernel
theorem dL_tells_189 : decode cL_tells 189 = .ok (.iconst 5, 1) := by decide +kernel
theorem dL_tells_190 : decode cL_tells 190 = .ok (.ishr, 1) := by decide +kernel
theorem dL_tells_191 : decode cL_tells 191 = .ok (.bipush 30, 2) := by decide +kernel
theorem dL_tells_193 : decode cL_tells 193 = .ok (.invokestatic 17, 3) := by decide +kernel
theorem dL_tells_196 : decode cL_tells 196 = .ok (.iadd, 1) := by decide +kernel
theorem dL_tells_197 : decode cL_tells 197 = .ok (.invokevirtual 43, 3) := by decide +kernel
theorem dL_tells_200 : decode cL_tells 200 = .ok (.istore_n 3, 1) := by decide +kernel
theorem dL_tells_201 : decode cL_tells 201 = .ok (.iconst 0, 1) := by decide +kernel
theorem dL_tells_202 : decode cL_tells 202 = .ok (.istore 4, 2) := by decide +kernel
theorem dL_tells_204 : decode cL_tells 204 = .ok (.iload 4, 2) := by decide +kernel
theorem dL_tells_206 : decode cL_tells 206 = .ok (.aload_n 1, 1) := by decide +kernel
theorem dL_tells_207 : decode cL_tells 207 = .ok (.bipush 19, 2) := by decide +kernel
theorem dL_tells_209 : decode cL_tells 209 = .ok (.invokestatic 9, 3) := by decide +kernel
theorem dL_tells_212 : decode cL_tells 212 = .ok (.iconst 4, 1) := by decide +kernel
theorem dL_tells_213 : decode cL_tells 213 = .ok (.invokestatic 17, 3) := by decide +kernel
theorem dL_tells_216 : decode cL_tells 216 = .ok (.if_icmp .ge 75, 3) := by decide +kernel
theorem dL_tells_219 : decode cL_tells 219 = .ok (.aload_n 1, 1) := by decide +kernel
theorem dL_tells_220 : decode cL_tells 220 = .ok (.bipush 20, 2) := by decide +kernel
theorem dL_tells_222 : decode cL_tells 222 = .ok (.iload 4, 2) := by decide +kernel
theorem dL_tells_224 : decode cL_tells 224 = .ok (.iadd, 1) := by decide +kernel
theorem dL_tells_225 : decode cL_tells 225 = .ok (.invokestatic 9, 3) := by decide +kernel
theorem dL_tells_228 : decode cL_tells 228 = .ok (.istore 5, 2) := by decide +kernel
theorem dL_tells_230 : decode cL_tells 230 = .ok (.aload_n 0, 1) := by decide +kernel
theorem dL_tells_231 : decode cL_tells 231 = .ok (.iload 5, 2) := by decide +kernel
theorem dL_tells_233 : decode cL_tells 233 = .ok (.bipush 6, 2) := by decide +kernel
theorem dL_tells_235 : decode cL_tells 235 = .ok (.invokestatic 17, 3) := by decide +kernel
theorem dL_tells_238 : decode cL_tells 238 = .ok (.iload 5, 2) := by decide +kernel
theorem dL_tells_240 : decode cL_tells 240 = .ok (.iconst 3, 1) := by decide +kernel
theorem dL_tells_241 : decode cL_tells 241 = .ok (.ishr, 1) := by decide +kernel
theorem dL_tells_242 : decode cL_tells 242 = .ok (.bipush 6, 2) := by decide +kernel
theorem dL_tells_244 : decode cL_tells 244 = .ok (.invokestatic 17, 3) := by decide +kernel
theorem dL_tells_247 : decode cL_tells 247 = .ok (.iconst 1, 1) := by decide +kernel
theorem dL_tells_248 : decode cL_tells 248 = .ok (.iload 5, 2) := by decide +kernel
theorem dL_tells_250 : decode cL_tells 250 = .ok (.bipush 6, 2) := by decide +kernel
theorem dL_tells_252 : decode cL_tells 252 = .ok (.ishr, 1) := by decide +kernel
theorem dL_tells_253 : decode cL_tells 253 = .ok (.bipush 24, 2) := by decide +kernel
theorem dL_tells_255 : decode cL_tells 255 = .ok (.invokestatic 17, 3) := by decide +kernel
theorem dL_tells_258 : decode cL_tells 258 = .ok (.iadd, 1) := by decide +kernel
theorem dL_tells_259 : decode cL_tells 259 = .ok (.iload 5, 2) := by decide +kernel
theorem dL_tells_261 : decode cL_tells 261 = .ok (.bipush 11, 2) := by decide +kernel
theorem dL_tells_263 : decode cL_tells 263 = .ok (.ishr, 1) := by decide +kernel
theorem dL_tells_264 : decode cL_tells 264 = .ok (.iconst 5, 1) := by decide +kernel
theorem dL_tells_265 : decode cL_tells 265 = .ok (.invokestatic 17, 3) := by decide +kernel
theorem dL_tells_268 : decode cL_tells 268 = .ok (.iconst 1, 1) := by decide +kernel
theorem dL_tells_269 : decode cL_tells 269 = .ok (.iload 5, 2) := by decide +kernel
theorem dL_tells_271 : decode cL_tells 271 = .ok (.bipush 14, 2) := by decide +kernel
theorem dL_tells_273 : decode cL_tells 273 = .ok (.ishr, 1) := by decide +kernel
theorem dL_tells_274 : decode cL_tells 274 = .ok (.bipush 30, 2) := by decide +kernel
theorem dL_tells_276 : decode cL_tells 276 = .ok (.invokestatic 17, 3) := by decide +kernel
theorem dL_tells_279 : decode cL_tells 279 = .ok (.iadd, 1) := by decide +kernel
theorem dL_tells_280 : decode cL_tells 280 = .ok (.invokevirtual 47, 3) := by decide +kernel
theorem dL_tells_283 : decode cL_tells 283 = .ok (.istore 6, 2) := by decide +kernel
theorem dL_tells_285 : decode cL_tells 285 = .ok (.iinc 4 1, 3) := by decide +kernel
theorem dL_tells_288 : decode cL_tells 288 = .ok (.goto (-84), 3) := by decide +kernel
theorem dL_tells_291 : decode cL_tells 291 = .ok (.iconst 0, 1) := by decide +kernel
theorem dL_tells_292 : decode cL_tells 292 = .ok (.istore 4, 2) := by decide +kernel
theorem dL_tells_294 : decode cL_tells 294 = .ok (.iload 4, 2) := by decide +kernel
theorem dL_tells_296 : decode cL_tells 296 = .ok (.bipush 9, 2) := by decide +kernel
theorem dL_tells_298 : decode cL_tells 298 = .ok (.if_icmp .ge 103, 3) := by decide +kernel
theorem dL_tells_301 : decode cL_tells 301 = .ok (.aload_n 1, 1) := by decide +kernel
theorem dL_tells_302 : decode cL_tells 302 = .ok (.bipush 24, 2) := by decide +kernel
theorem dL_tells_304 : decode cL_tells 304 = .ok (.iload 4, 2) := by decide +kernel
theorem dL_tells_306 : decode cL_tells 306 = .ok (.iadd, 1) := by decide +kernel
theorem dL_tells_307 : decode cL_tells 307 = .ok (.invokestatic 9, 3) := by decide +kernel
theorem dL_tells_310 : decode cL_tells 310 = .ok (.istore 5, 2) := by decide +kernel
theorem dL_tells_312 : decode cL_tells 312 = .ok (.iload 4, 2) := by decide +kernel
theorem dL_tells_314 : decode cL_tells 314 = .ok (.iconst 2, 1) := by decide +kernel
theorem dL_tells_315 : decode cL_tells 315 = .ok (.if_icmp .le 16, 3) := by decide +kernel
theorem dL_tells_318 : decode cL_tells 318 = .ok (.iload 5, 2) := by decide +kernel
theorem dL_tells_320 : decode cL_tells 320 = .ok (.iconst 4, 1) := by decide +kernel
theorem dL_tells_321 : decode cL_tells 321 = .ok (.invokestatic 17, 3) := by decide +kernel
theorem dL_tells_324 : decode cL_tells 324 = .ok (.ifCond .ne 7, 3) := by decide +kernel
theorem dL_tells_327 : decode cL_tells 327 = .ok (.iconst 1, 1) := by decide +kernel
theorem dL_tells_328 : decode cL_tells 328 = .ok (.goto 4, 3) := by decide +kernel
theorem dL_tells_331 : decode cL_tells 331 = .ok (.iconst 0, 1) := by decide +kernel
theorem dL_tells_332 : decode cL_tells 332 = .ok (.istore 6, 2) := by decide +kernel
theorem dL_tells_334 : decode cL_tells 334 = .ok (.aload_n 0, 1) := by decide +kernel
theorem dL_tells_335 : decode cL_tells 335 = .ok (.iload 4, 2) := by decide +kernel
theorem dL_tells_337 : decode cL_tells 337 = .ok (.iconst 2, 1) := by decide +kernel
theorem dL_tells_338 : decode cL_tells 338 = .ok (.if_icmp .ge 8, 3) := by decide +kernel
theorem dL_tells_341 : decode cL_tells 341 = .ok (.bipush 6, 2) := by decide +kernel
theorem dL_tells_343 : decode cL_tells 343 = .ok (.goto 12, 3) := by decide +kernel
theorem dL_tells_346 : decode cL_tells 346 = .ok (.iload 5, 2) := by decide +kernel
theorem dL_tells_348 : decode cL_tells 348 = .ok (.iconst 2, 1) := by decide +kernel
theorem dL_tells_349 : decode cL_tells 349 = .ok (.ishr, 1) := by decide +kernel
theorem dL_tells_350 : decode cL_tells 350 = .ok (.bipush 8, 2) := by decide +kernel
theorem dL_tells_352 : decode cL_tells 352 = .ok (.invokestatic 17, 3) := by decide +kernel
theorem dL_tells_355 : decode cL_tells 355 = .ok (.iload 5, 2) := by decide +kernel
theorem dL_tells_357 : decode cL_tells 357 = .ok (.iconst 5, 1) := by decide +kernel
theorem dL_tells_358 : decode cL_tells 358 = .ok (.ishr, 1) := by decide +kernel
theorem dL_tells_359 : decode cL_tells 359 = .ok (.iconst 3, 1) := by decide +kernel
theorem dL_tells_360 : decode cL_tells 360 = .ok (.invokestatic 17, 3) := by decide +kernel
theorem dL_tells_363 : decode cL_tells 363 = .ok (.iload 5, 2) := by decide +kernel
theorem dL_tells_365 : decode cL_tells 365 = .ok (.bipush 7, 2) := by decide +kernel
theorem dL_tells_367 : decode cL_tells 367 = .ok (.ishr, 1) := by decide +kernel
theorem dL_tells_368 : decode cL_tells 368 = .ok (.iconst 2, 1) := by decide +kernel
theorem dL_tells_369 : decode cL_tells 369 = .ok (.invokestatic 17, 3) := by decide +kernel
theorem dL_tells_372 : decode cL_tells 372 = .ok (.iload 6, 2) := by decide +kernel
theorem dL_tells_374 : decode cL_tells 374 = .ok (.ifCond .eq 15, 3) := by decide +kernel
theorem dL_tells_377 : decode cL_tells 377 = .ok (.iload 5, 2) := by decide +kernel
theorem dL_tells_379 : decode cL_tells 379 = .ok (.bipush 9, 2) := by decide +kernel
theorem dL_tells_381 : decode cL_tells 381 = .ok (.ishr, 1) := by decide +kernel
theorem dL_tells_382 : decode cL_tells 382 = .ok (.iconst 2, 1) := by decide +kernel
theorem dL_tells_383 : decode cL_tells 383 = .ok (.invokestatic 17, 3) := by decide +kernel
theorem dL_tells_386 : decode cL_tells 386 = .ok (.goto 4, 3) := by decide +kernel
theorem dL_tells_389 : decode cL_tells 389 = .ok (.iconst (-1), 1) := by decide +kernel
theorem dL_tells_390 : decode cL_tells 390 = .ok (.invokevirtual 51, 3) := by decide +kernel
theorem dL_tells_393 : decode cL_tells 393 = .ok (.istore 7, 2) := by decide +kernel
theorem dL_tells_395 : decode cL_tells 395 = .ok (.iinc 4 1, 3) := by decide +kernel
theorem dL_tells_398 : decode cL_tells 398 = .ok (.goto (-104), 3) := by decide +kernel
theorem dL_tells_401 : decode cL_tells 401 = .ok (.aload_n 0, 1) := by decide +kernel
theorem dL_tells_402 : decode cL_tells 402 = .ok (.aload_n 1, 1) := by decide +kernel
theorem dL_tells_403 : decode cL_tells 403 = .ok (.bipush 33, 2) := by decide +kernel
theorem dL_tells_405 : decode cL_tells 405 = .ok (.invokestatic 9, 3) := by decide +kernel
theorem dL_tells_408 : decode cL_tells 408 = .ok (.bipush 6, 2) := by decide +kernel
theorem dL_tells_410 : decode cL_tells 410 = .ok (.invokestatic 17, 3) := by decide +kernel
theorem dL_tells_413 : decode cL_tells 413 = .ok (.aload_n 1, 1) := by decide +kernel
theorem dL_tells_414 : decode cL_tells 414 = .ok (.bipush 33, 2) := by decide +kernel
theorem dL_tells_416 : decode cL_tells 416 = .ok (.invokestatic 9, 3) := by decide +kernel
theorem dL_tells_419 : decode cL_tells 419 = .ok (.iconst 4, 1) := by decide +kernel
theorem dL_tells_420 : decode cL_tells 420 = .ok (.ishr, 1) := by decide +kernel
theorem dL_tells_421 : decode cL_tells 421 = .ok (.bipush 6, 2) := by decide +kernel
theorem dL_tells_423 : decode cL_tells 423 = .ok (.invokestatic 17, 3) := by decide +kernel
theorem dL_tells_426 : decode cL_tells 426 = .ok (.aload_n 1, 1) := by decide +kernel
theorem dL_tells_427 : decode cL_tells 427 = .ok (.bipush 33, 2) := by decide +kernel
theorem dL_tells_429 : decode cL_tells 429 = .ok (.invokestatic 9, 3) := by decide +kernel
theorem dL_tells_432 : decode cL_tells 432 = .ok (.bipush 8, 2) := by decide +kernel
theorem dL_tells_434 : decode cL_tells 434 = .ok (.ishr, 1) := by decide +kernel
theorem dL_tells_435 : decode cL_tells 435 = .ok (.bipush 9, 2) := by decide +kernel
theorem dL_tells_437 : decode cL_tells 437 = .ok (.invokestatic 17, 3) := by decide +kernel
theorem dL_tells_440 : decode cL_tells 440 = .ok (.invokevirtual 54, 3) := by decide +kernel
theorem dL_tells_443 : decode cL_tells 443 = .ok (.istore 4, 2) := by decide +kernel
theorem dL_tells_445 : decode cL_tells 445 = .ok (.return_, 1) := by decide +kernel
theorem dL_beasts_0 : decode cL_beasts 0 = .ok (.aload_n 0, 1) := by decide +kernel
theorem dL_beasts_1 : decode cL_beasts 1 = .ok (.bipush 19, 2) := by decide +kernel
theorem dL_beasts_3 : decode cL_beasts 3 = .ok (.invokestatic 9, 3) := by decide +kernel
theorem dL_beasts_6 : decode cL_beasts 6 = .ok (.iconst 4, 1) := by decide +kernel
theorem dL_beasts_7 : decode cL_beasts 7 = .ok (.invokestatic 17, 3) := by decide +kernel
theorem dL_beasts_10 : decode cL_beasts 10 = .ok (.ireturn, 1) := by decide +kernel
theorem dL_begin_0 : decode cL_begin 0 = .ok (.aload_n 0, 1) := by decide +kernel
theorem dL_begin_1 : decode cL_begin 1 = .ok (.iload_n 1, 1) := by decide +kernel
theorem dL_begin_2 : decode cL_begin 2 = .ok (.invokevirtual 58, 3) := by decide +kernel
theorem dL_begin_5 : decode cL_begin 5 = .ok (.ireturn, 1) := by decide +kernel
theorem dL_begin_6 : decode cL_begin 6 = .ok (.astore_n 2, 1) := by decide +kernel
theorem dL_begin_7 : decode cL_begin 7 = .ok (.iconst (-1), 1) := by decide +kernel
theorem dL_begin_8 : decode cL_begin 8 = .ok (.ireturn, 1) := by decide +kernel
theorem dL_act_0 : decode cL_act 0 = .ok (.iload_n 1, 1) := by decide +kernel
theorem dL_act_1 : decode cL_act 1 = .ok (.iconst 4, 1) := by decide +kernel
theorem dL_act_2 : decode cL_act 2 = .ok (.ishr, 1) := by decide +kernel
theorem dL_act_3 : decode cL_act 3 = .ok (.bipush 9, 2) := by decide +kernel
theorem dL_act_5 : decode cL_act 5 = .ok (.invokestatic 17, 3) := by decide +kernel
theorem dL_act_8 : decode cL_act 8 = .ok (.istore_n 2, 1) := by decide +kernel
theorem dL_act_9 : decode cL_act 9 = .ok (.iload_n 1, 1) := by decide +kernel
theorem dL_act_10 : decode cL_act 10 = .ok (.bipush 14, 2) := by decide +kernel
theorem dL_act_12 : decode cL_act 12 = .ok (.invokestatic 17, 3) := by decide +kernel
theorem dL_act_15 : decode cL_act 15 = .ok (.tableswitch 145 0 12 #[65, 65, 65, 65, 77, 82, 82, 82, 88, 94, 110, 116, 130], 65) := by decide +kernel
theorem dL_act_80 : decode cL_act 80 = .ok (.aload_n 0, 1) := by decide +kernel
theorem dL_act_81 : decode cL_act 81 = .ok (.iload_n 1, 1) := by decide +kernel
theorem dL_act_82 : decode cL_act 82 = .ok (.iconst 4, 1) := by decide +kernel
theorem dL_act_83 : decode cL_act 83 = .ok (.ishr, 1) := by decide +kernel
theorem dL_act_84 : decode cL_act 84 = .ok (.iconst 4, 1) := by decide +kernel
theorem dL_act_85 : decode cL_act 85 = .ok (.invokestatic 17, 3) := by decide +kernel
theorem dL_act_88 : decode cL_act 88 = .ok (.invokevirtual 64, 3) := by decide +kernel
theorem dL_act_91 : decode cL_act 91 = .ok (.ireturn, 1) := by decide +kernel
theorem dL_act_92 : decode cL_act 92 = .ok (.aload_n 0, 1) := by decide +kernel
theorem dL_act_93 : decode cL_act 93 = .ok (.invokevirtual 67, 3) := by decide +kernel
theorem dL_act_96 : decode cL_act 96 = .ok (.ireturn, 1) := by decide +kernel
theorem dL_act_97 : decode cL_act 97 = .ok (.aload_n 0, 1) := by decide +kernel
theorem dL_act_98 : decode cL_act 98 = .ok (.iload_n 2, 1) := by decide +kernel
theorem dL_act_99 : decode cL_act 99 = .ok (.invokevirtual 71, 3) := by decide +kernel
theorem dL_act_102 : decode cL_act 102 = .ok (.ireturn, 1) := by decide +kernel
theorem dL_act_103 : decode cL_act 103 = .ok (.aload_n 0, 1) := by decide +kernel
theorem dL_act_104 : decode cL_act 104 = .ok (.iload_n 2, 1) := by decide +kernel
theorem dL_act_105 : decode cL_act 105 = .ok (.invokevirtual 74, 3) := by decide +kernel
theorem dL_act_108 : decode cL_act 108 = .ok (.ireturn, 1) := by decide +kernel
theorem dL_act_109 : decode cL_act 109 = .ok (.aload_n 0, 1) := by decide +kernel
theorem dL_act_110 : decode cL_act 110 = .ok (.iload_n 2, 1) := by decide +kernel
theorem dL_act_111 : decode cL_act 111 = .ok (.iload_n 1, 1) := by decide +kernel
theorem dL_act_112 : decode cL_act 112 = .ok (.bipush 8, 2) := by decide +kernel
theorem dL_act_114 : decode cL_act 114 = .ok (.ishr, 1) := by decide +kernel
theorem dL_act_115 : decode cL_act 115 = .ok (.iconst 3, 1) := by decide +kernel
theorem dL_act_116 : decode cL_act 116 = .ok (.invokestatic 17, 3) := by decide +kernel
theorem dL_act_119 : decode cL_act 119 = .ok (.iconst 1, 1) := by decide +kernel
theorem dL_act_120 : decode cL_act 120 = .ok (.isub, 1) := by decide +kernel
theorem dL_act_121 : decode cL_act 121 = .ok (.invokevirtual 77, 3) := by decide +kernel
theorem dL_act_124 : decode cL_act 124 = .ok (.ireturn, 1) := by decide +kernel
theorem dL_act_125 : decode cL_act 125 = .ok (.aload_n 0, 1) := by decide +kernel
theorem dL_act_126 : decode cL_act 126 = .ok (.iload_n 2, 1) := by decide +kernel
theorem dL_act_127 : decode cL_act 127 = .ok (.invokevirtual 80, 3) := by decide +kernel
theorem dL_act_130 : decode cL_act 130 = .ok (.ireturn, 1) := by decide +kernel
theorem dL_act_131 : decode cL_act 131 = .ok (.aload_n 0, 1) := by decide +kernel
theorem dL_act_132 : decode cL_act 132 = .ok (.iload_n 2, 1) := by decide +kernel
theorem dL_act_133 : decode cL_act 133 = .ok (.iload_n 1, 1) := by decide +kernel
theorem dL_act_134 : decode cL_act 134 = .ok (.bipush 8, 2) := by decide +kernel
theorem dL_act_136 : decode cL_act 136 = .ok (.ishr, 1) := by decide +kernel
theorem dL_act_137 : decode cL_act 137 = .ok (.iconst 4, 1) := by decide +kernel
theorem dL_act_138 : decode cL_act 138 = .ok (.invokestatic 17, 3) := by decide +kernel
theorem dL_act_141 : decode cL_act 141 = .ok (.invokevirtual 83, 3) := by decide +kernel
theorem dL_act_144 : decode cL_act 144 = .ok (.ireturn, 1) := by decide +kernel
theorem dL_act_145 : decode cL_act 145 = .ok (.aload_n 0, 1) := by decide +kernel
theorem dL_act_146 : decode cL_act 146 = .ok (.iconst 1, 1) := by decide +kernel
theorem dL_act_147 : decode cL_act 147 = .ok (.iload_n 1, 1) := by decide +kernel
theorem dL_act_148 : decode cL_act 148 = .ok (.iconst 4, 1) := by decide +kernel
theorem dL_act_149 : decode cL_act 149 = .ok (.ishr, 1) := by decide +kernel
theorem dL_act_150 : decode cL_act 150 = .ok (.bipush 12, 2) := by decide +kernel
theorem dL_act_152 : decode cL_act 152 = .ok (.invokestatic 17, 3) := by decide +kernel
theorem dL_act_155 : decode cL_act 155 = .ok (.iadd, 1) := by decide +kernel
theorem dL_act_156 : decode cL_act 156 = .ok (.invokevirtual 86, 3) := by decide +kernel
theorem dL_act_159 : decode cL_act 159 = .ok (.ireturn, 1) := by decide +kernel
theorem dL_act_160 : decode cL_act 160 = .ok (.aload_n 0, 1) := by decide +kernel
theorem dL_act_161 : decode cL_act 161 = .ok (.invokevirtual 89, 3) := by decide +kernel
theorem dL_act_164 : decode cL_act 164 = .ok (.ireturn, 1) := by decide +kernel
theorem dL_act_165 : decode cL_act 165 = .ok (.astore_n 2, 1) := by decide +kernel
theorem dL_act_166 : decode cL_act 166 = .ok (.sipush (-1001), 3) := by decide +kernel
theorem dL_act_169 : decode cL_act 169 = .ok (.ireturn, 1) := by decide +kernel
theorem dL_act_170 : decode cL_act 170 = .ok (.astore_n 2, 1) := by decide +kernel
theorem dL_act_171 : decode cL_act 171 = .ok (.sipush (-1002), 3) := by decide +kernel
theorem dL_act_174 : decode cL_act 174 = .ok (.ireturn, 1) := by decide +kernel
theorem dL_areApart_0 : decode cL_areApart 0 = .ok (.iconst 1, 1) := by decide +kernel
theorem dL_areApart_1 : decode cL_areApart 1 = .ok (.istore_n 2, 1) := by decide +kernel
theorem dL_areApart_2 : decode cL_areApart 2 = .ok (.iconst 0, 1) := by decide +kernel
theorem dL_areApart_3 : decode cL_areApart 3 = .ok (.istore_n 3, 1) := by decide +kernel
theorem dL_areApart_4 : decode cL_areApart 4 = .ok (.iload_n 3, 1) := by decide +kernel
theorem dL_areApart_5 : decode cL_areApart 5 = .ok (.iload_n 1, 1) := by decide +kernel
theorem dL_areApart_6 : decode cL_areApart 6 = .ok (.if_icmp .gt 124, 3) := by decide +kernel
theorem dL_areApart_9 : decode cL_areApart 9 = .ok (.iload_n 2, 1) := by decide +kernel
theorem dL_areApart_10 : decode cL_areApart 10 = .ok (.ifCond .eq 120, 3) := by decide +kernel
theorem dL_areApart_13 : decode cL_areApart 13 = .ok (.aload_n 0, 1) := by decide +kernel
theorem dL_areApart_14 : decode cL_areApart 14 = .ok (.iload_n 3, 1) := by decide +kernel
theorem dL_areApart_15 : decode cL_areApart 15 = .ok (.invokevirtual 96, 3) := by decide +kernel
theorem dL_areApart_18 : decode cL_areApart 18 = .ok (.istore 4, 2) := by decide +kernel
theorem dL_areApart_20 : decode cL_areApart 20 = .ok (.aload_n 0, 1) := by decide +kernel
theorem dL_areApart_21 : decode cL_areApart 21 = .ok (.iload 4, 2) := by decide +kernel
theorem dL_areApart_23 : decode cL_areApart 23 = .ok (.bipush 100, 2) := by decide +kernel
theorem dL_areApart_25 : decode cL_areApart 25 = .ok (.idiv, 1) := by decide +kernel
theorem dL_areApart_26 : decode cL_areApart 26 = .ok (.iload 4, 2) := by decide +kernel
theorem dL_areApart_28 : decode cL_areApart 28 = .ok (.bipush 100, 2) := by decide +kernel
theorem dL_areApart_30 : decode cL_areApart 30 = .ok (.irem, 1) := by decide +kernel
theorem dL_areApart_31 : decode cL_areApart 31 = .ok (.invokevirtual 99, 3) := by decide +kernel
theorem dL_areApart_34 : decode cL_areApart 34 = .ok (.istore 5, 2) := by decide +kernel
theorem dL_areApart_36 : decode cL_areApart 36 = .ok (.aload_n 0, 1) := by decide +kernel
theorem dL_areApart_37 : decode cL_areApart 37 = .ok (.iload_n 3, 1) := by decide +kernel
theorem dL_areApart_38 : decode cL_areApart 38 = .ok (.invokevirtual 102, 3) := by decide +kernel
theorem dL_areApart_41 : decode cL_areApart 41 = .ok (.ifCond .le 24, 3) := by decide +kernel
theorem dL_areApart_44 : decode cL_areApart 44 = .ok (.iload 5, 2) := by decide +kernel
theorem dL_areApart_46 : decode cL_areApart 46 = .ok (.bipush 46, 2) := by decide +kernel
theorem dL_areApart_48 : decode cL_areApart 48 = .ok (.if_icmp .eq 17, 3) := by decide +kernel
theorem dL_areApart_51 : decode cL_areApart 51 = .ok (.iload 5, 2) := by decide +kernel
theorem dL_areApart_53 : decode cL_areApart 53 = .ok (.bipush 126, 2) := by decide +kernel
theorem dL_areApart_55 : decode cL_areApart 55 = .ok (.if_icmp .eq 10, 3) := by decide +kernel
theorem dL_areApart_58 : decode cL_areApart 58 = .ok (.iload 5, 2) := by decide +kernel
theorem dL_areApart_60 : decode cL_areApart 60 = .ok (.bipush 47, 2) := by decide +kernel
theorem dL_areApart_62 : decode cL_areApart 62 = .ok (.if_icmp .ne 7, 3) := by decide +kernel
theorem dL_areApart_65 : decode cL_areApart 65 = .ok (.iconst 1, 1) := by decide +kernel
theorem dL_areApart_66 : decode cL_areApart 66 = .ok (.goto 4, 3) := by decide +kernel
theorem dL_areApart_69 : decode cL_areApart 69 = .ok (.iconst 0, 1) := by decide +kernel
theorem dL_areApart_70 : decode cL_areApart 70 = .ok (.istore_n 2, 1) := by decide +kernel
theorem dL_areApart_71 : decode cL_areApart 71 = .ok (.iconst 0, 1) := by decide +kernel
theorem dL_areApart_72 : decode cL_areApart 72 = .ok (.istore 6, 2) := by decide +kernel
theorem dL_areApart_74 : decode cL_areApart 74 = .ok (.iload 6, 2) := by decide +kernel
theorem dL_areApart_76 : decode cL_areApart 76 = .ok (.iload_n 3, 1) := by decide +kernel
theorem dL_areApart_77 : decode cL_areApart 77 = .ok (.if_icmp .ge 47, 3) := by decide +kernel
theorem dL_areApart_80 : decode cL_areApart 80 = .ok (.iload_n 2, 1) := by decide +kernel
theorem dL_areApart_81 : decode cL_areApart 81 = .ok (.ifCond .eq 35, 3) := by decide +kernel
theorem dL_areApart_84 : decode cL_areApart 84 = .ok (.aload_n 0, 1) := by decide +kernel
theorem dL_areApart_85 : decode cL_areApart 85 = .ok (.iload_n 3, 1) := by decide +kernel
theorem dL_areApart_86 : decode cL_areApart 86 = .ok (.invokevirtual 102, 3) := by decide +kernel
theorem dL_areApart_89 : decode cL_areApart 89 = .ok (.ifCond .le 23, 3) := by decide +kernel
theorem dL_areApart_92 : decode cL_areApart 92 = .ok (.aload_n 0, 1) := by decide +kernel
theorem dL_areApart_93 : decode cL_areApart 93 = .ok (.iload 6, 2) := by decide +kernel
theorem dL_areApart_95 : decode cL_areApart 95 = .ok (.invokevirtual 102, 3) := by decide +kernel
theorem dL_areApart_98 : decode cL_areApart 98 = .ok (.ifCond .le 14, 3) := by decide +kernel
theorem dL_areApart_101 : decode cL_areApart 101 = .ok (.aload_n 0, 1) := by decide +kernel
theorem dL_areApart_102 : decode cL_areApart 102 = .ok (.iload 6, 2) := by decide +kernel
theorem dL_areApart_104 : decode cL_areApart 104 = .ok (.invokevirtual 96, 3) := by decide +kernel
theorem dL_areApart_107 : decode cL_areApart 107 = .ok (.iload 4, 2) := by decide +kernel
theorem dL_areApart_109 : decode cL_areApart 109 = .ok (.if_icmp .eq 7, 3) := by decide +kernel
theorem dL_areApart_112 : decode cL_areApart 112 = .ok (.iconst 1, 1) := by decide +kernel
theorem dL_areApart_113 : decode cL_areApart 113 = .ok (.goto 4, 3) := by decide +kernel
theorem dL_areApart_116 : decode cL_areApart 116 = .ok (.iconst 0, 1) := by decide +kernel
theorem dL_areApart_117 : decode cL_areApart 117 = .ok (.istore_n 2, 1) := by decide +kernel
theorem dL_areApart_118 : decode cL_areApart 118 = .ok (.iinc 6 1, 3) := by decide +kernel
theorem dL_areApart_121 : decode cL_areApart 121 = .ok (.goto (-47), 3) := by decide +kernel
theorem dL_areApart_124 : decode cL_areApart 124 = .ok (.iinc 3 1, 3) := by decide +kernel
theorem dL_areApart_127 : decode cL_areApart 127 = .ok (.goto (-123), 3) := by decide +kernel
theorem dL_areApart_130 : decode cL_areApart 130 = .ok (.iload_n 2, 1) := by decide +kernel
theorem dL_areApart_131 : decode cL_areApart 131 = .ok (.ireturn, 1) := by decide +kernel
theorem dL_areThings_0 : decode cL_areThings 0 = .ok (.iconst 0, 1) := by decide +kernel
theorem dL_areThings_1 : decode cL_areThings 1 = .ok (.istore_n 1, 1) := by decide +kernel
theorem dL_areThings_2 : decode cL_areThings 2 = .ok (.iconst 1, 1) := by decide +kernel
theorem dL_areThings_3 : decode cL_areThings 3 = .ok (.istore_n 2, 1) := by decide +kernel
theorem dL_areThings_4 : decode cL_areThings 4 = .ok (.iconst 0, 1) := by decide +kernel
theorem dL_areThings_5 : decode cL_areThings 5 = .ok (.istore_n 3, 1) := by decide +kernel
theorem dL_areThings_6 : decode cL_areThings 6 = .ok (.iload_n 3, 1) := by decide +kernel
theorem dL_areThings_7 : decode cL_areThings 7 = .ok (.bipush 9, 2) := by decide +kernel
theorem dL_areThings_9 : decode cL_areThings 9 = .ok (.if_icmp .ge 112, 3) := by decide +kernel
theorem dL_areThings_12 : decode cL_areThings 12 = .ok (.iload_n 2, 1) := by decide +kernel
theorem dL_areThings_13 : decode cL_areThings 13 = .ok (.ifCond .eq 108, 3) := by decide +kernel
theorem dL_areThings_16 : decode cL_areThings 16 = .ok (.aload_n 0, 1) := by decide +kernel
theorem dL_areThings_17 : decode cL_areThings 17 = .ok (.iload_n 3, 1) := by decide +kernel
theorem dL_areThings_18 : decode cL_areThings 18 = .ok (.invokevirtual 105, 3) := by decide +kernel
theorem dL_areThings_21 : decode cL_areThings 21 = .ok (.istore 4, 2) := by decide +kernel
theorem dL_areThings_23 : decode cL_areThings 23 = .ok (.iconst 0, 1) := by decide +kernel
theorem dL_areThings_24 : decode cL_areThings 24 = .ok (.istore 5, 2) := by decide +kernel
theorem dL_areThings_26 : decode cL_areThings 26 = .ok (.iload 4, 2) := by decide +kernel
theorem dL_areThings_28 : decode cL_areThings 28 = .ok (.istore 6, 2) := by decide +kernel
theorem dL_areThings_30 : decode cL_areThings 30 = .ok (.iload 6, 2) := by decide +kernel
theorem dL_areThings_32 : decode cL_areThings 32 = .ok (.bipush (-3), 2) := by decide +kernel
theorem dL_areThings_34 : decode cL_areThings 34 = .ok (.if_icmp .gt 27, 3) := by decide +kernel
theorem dL_areThings_37 : decode cL_areThings 37 = .ok (.iload 5, 2) := by decide +kernel
theorem dL_areThings_39 : decode cL_areThings 39 = .ok (.bipush 10, 2) := by decide +kernel
theorem dL_areThings_41 : decode cL_areThings 41 = .ok (.if_icmp .ge 20, 3) := by decide +kernel
theorem dL_areThings_44 : decode cL_areThings 44 = .ok (.aload_n 0, 1) := by decide +kernel
theorem dL_areThings_45 : decode cL_areThings 45 = .ok (.bipush (-3), 2) := by decide +kernel
theorem dL_areThings_47 : decode cL_areThings 47 = .ok (.iload 6, 2) := by decide +kernel
theorem dL_areThings_49 : decode cL_areThings 49 = .ok (.isub, 1) := by decide +kernel
theorem dL_areThings_50 : decode cL_areThings 50 = .ok (.invokevirtual 105, 3) := by decide +kernel
theorem dL_areThings_53 : decode cL_areThings 53 = .ok (.istore 6, 2) := by decide +kernel
theorem dL_areThings_55 : decode cL_areThings 55 = .ok (.iinc 5 1, 3) := by decide +kernel
theorem dL_areThings_58 : decode cL_areThings 58 = .ok (.goto (-28), 3) := by decide +kernel
theorem dL_areThings_61 : decode cL_areThings 61 = .ok (.iload 5, 2) := by decide +kernel
theorem dL_areThings_63 : decode cL_areThings 63 = .ok (.bipush 10, 2) := by decide +kernel
theorem dL_areThings_65 : decode cL_areThings 65 = .ok (.if_icmp .ge 30, 3) := by decide +kernel
theorem dL_areThings_68 : decode cL_areThings 68 = .ok (.aload_n 0, 1) := by decide +kernel
theorem dL_areThings_69 : decode cL_areThings 69 = .ok (.iload_n 3, 1) := by decide +kernel
theorem dL_areThings_70 : decode cL_areThings 70 = .ok (.invokevirtual 108, 3) := by decide +kernel
theorem dL_areThings_73 : decode cL_areThings 73 = .ok (.ifCond .lt 22, 3) := by decide +kernel
theorem dL_areThings_76 : decode cL_areThings 76 = .ok (.iload 6, 2) := by decide +kernel
theorem dL_areThings_78 : decode cL_areThings 78 = .ok (.bipush (-2), 2) := by decide +kernel
theorem dL_areThings_80 : decode cL_areThings 80 = .ok (.if_icmp .lt 15, 3) := by decide +kernel
theorem dL_areThings_83 : decode cL_areThings 83 = .ok (.iload 6, 2) := by decide +kernel
theorem dL_areThings_85 : decode cL_areThings 85 = .ok (.sipush 1111, 3) := by decide +kernel
theorem dL_areThings_88 : decode cL_areThings 88 = .ok (.if_icmp .gt 7, 3) := by decide +kernel
theorem dL_areThings_91 : decode cL_areThings 91 = .ok (.iconst 1, 1) := by decide +kernel
theorem dL_areThings_92 : decode cL_areThings 92 = .ok (.goto 4, 3) := by decide +kernel
theorem dL_areThings_95 : decode cL_areThings 95 = .ok (.iconst 0, 1) := by decide +kernel
theorem dL_areThings_96 : decode cL_areThings 96 = .ok (.istore_n 2, 1) := by decide +kernel
theorem dL_areThings_97 : decode cL_areThings 97 = .ok (.iload_n 1, 1) := by decide +kernel
theorem dL_areThings_98 : decode cL_areThings 98 = .ok (.iload 4, 2) := by decide +kernel
theorem dL_areThings_100 : decode cL_areThings 100 = .ok (.iconst (-1), 1) := by decide +kernel
theorem dL_areThings_101 : decode cL_areThings 101 = .ok (.if_icmp .ne 11, 3) := by decide +kernel
theorem dL_areThings_104 : decode cL_areThings 104 = .ok (.aload_n 0, 1) := by decide +kernel
theorem dL_areThings_105 : decode cL_areThings 105 = .ok (.iload_n 3, 1) := by decide +kernel
theorem dL_areThings_106 : decode cL_areThings 106 = .ok (.invokevirtual 108, 3) := by decide +kernel
theorem dL_areThings_109 : decode cL_areThings 109 = .ok (.goto 4, 3) := by decide +kernel
theorem dL_areThings_112 : decode cL_areThings 112 = .ok (.iconst 0, 1) := by decide +kernel
theorem dL_areThings_113 : decode cL_areThings 113 = .ok (.iadd, 1) := by decide +kernel
theorem dL_areThings_114 : decode cL_areThings 114 = .ok (.istore_n 1, 1) := by decide +kernel
theorem dL_areThings_115 : decode cL_areThings 115 = .ok (.iinc 3 1, 3) := by decide +kernel
theorem dL_areThings_118 : decode cL_areThings 118 = .ok (.goto (-112), 3) := by decide +kernel
theorem dL_areThings_121 : decode cL_areThings 121 = .ok (.iload_n 2, 1) := by decide +kernel
theorem dL_areThings_122 : decode cL_areThings 122 = .ok (.ifCond .eq 13, 3) := by decide +kernel
theorem dL_areThings_125 : decode cL_areThings 125 = .ok (.iload_n 1, 1) := by decide +kernel
theorem dL_areThings_126 : decode cL_areThings 126 = .ok (.bipush 30, 2) := by decide +kernel
theorem dL_areThings_128 : decode cL_areThings 128 = .ok (.if_icmp .gt 7, 3) := by decide +kernel
theorem dL_areThings_131 : decode cL_areThings 131 = .ok (.iconst 1, 1) := by decide +kernel
theorem dL_areThings_132 : decode cL_areThings 132 = .ok (.goto 4, 3) := by decide +kernel
theorem dL_areThings_135 : decode cL_areThings 135 = .ok (.iconst 0, 1) := by decide +kernel
theorem dL_areThings_136 : decode cL_areThings 136 = .ok (.ireturn, 1) := by decide +kernel
theorem dL_areAlike_0 : decode cL_areAlike 0 = .ok (.aload_n 0, 1) := by decide +kernel
theorem dL_areAlike_1 : decode cL_areAlike 1 = .ok (.invokevirtual 111, 3) := by decide +kernel
theorem dL_areAlike_4 : decode cL_areAlike 4 = .ok (.aload_n 1, 1) := by decide +kernel
theorem dL_areAlike_5 : decode cL_areAlike 5 = .ok (.invokevirtual 111, 3) := by decide +kernel
theorem dL_areAlike_8 : decode cL_areAlike 8 = .ok (.if_icmp .ne 18, 3) := by decide +kernel
theorem dL_areAlike_11 : decode cL_areAlike 11 = .ok (.aload_n 0, 1) := by decide +kernel
theorem dL_areAlike_12 : decode cL_areAlike 12 = .ok (.invokevirtual 115, 3) := by decide +kernel
theorem dL_areAlike_15 : decode cL_areAlike 15 = .ok (.aload_n 1, 1) := by decide +kernel
theorem dL_areAlike_16 : decode cL_areAlike 16 = .ok (.invokevirtual 115, 3) := by decide +kernel
theorem dL_areAlike_19 : decode cL_areAlike 19 = .ok (.if_icmp .ne 7, 3) := by decide +kernel
theorem dL_areAlike_22 : decode cL_areAlike 22 = .ok (.iconst 1, 1) := by decide +kernel
theorem dL_areAlike_23 : decode cL_areAlike 23 = .ok (.goto 4, 3) := by decide +kernel
theorem dL_areAlike_26 : decode cL_areAlike 26 = .ok (.iconst 0, 1) := by decide +kernel
theorem dL_areAlike_27 : decode cL_areAlike 27 = .ok (.istore_n 3, 1) := by decide +kernel
theorem dL_areAlike_28 : decode cL_areAlike 28 = .ok (.iconst 0, 1) := by decide +kernel
theorem dL_areAlike_29 : decode cL_areAlike 29 = .ok (.istore 4, 2) := by decide +kernel
theorem dL_areAlike_31 : decode cL_areAlike 31 = .ok (.iload 4, 2) := by decide +kernel
theorem dL_areAlike_33 : decode cL_areAlike 33 = .ok (.iload_n 2, 1) := by decide +kernel
theorem dL_areAlike_34 : decode cL_areAlike 34 = .ok (.if_icmp .gt 49, 3) := by decide +kernel
theorem dL_areAlike_37 : decode cL_areAlike 37 = .ok (.iload_n 3, 1) := by decide +kernel
theorem dL_areAlike_38 : decode cL_areAlike 38 = .ok (.ifCond .eq 37, 3) := by decide +kernel
theorem dL_areAlike_41 : decode cL_areAlike 41 = .ok (.aload_n 0, 1) := by decide +kernel
theorem dL_areAlike_42 : decode cL_areAlike 42 = .ok (.iload 4, 2) := by decide +kernel
theorem dL_areAlike_44 : decode cL_areAlike 44 = .ok (.invokevirtual 96, 3) := by decide +kernel
theorem dL_areAlike_47 : decode cL_areAlike 47 = .ok (.aload_n 1, 1) := by decide +kernel
theorem dL_areAlike_48 : decode cL_areAlike 48 = .ok (.iload 4, 2) := by decide +kernel
theorem dL_areAlike_50 : decode cL_areAlike 50 = .ok (.invokevirtual 96, 3) := by decide +kernel
theorem dL_areAlike_53 : decode cL_areAlike 53 = .ok (.if_icmp .ne 22, 3) := by decide +kernel
theorem dL_areAlike_56 : decode cL_areAlike 56 = .ok (.aload_n 0, 1) := by decide +kernel
theorem dL_areAlike_57 : decode cL_areAlike 57 = .ok (.iload 4, 2) := by decide +kernel
theorem dL_areAlike_59 : decode cL_areAlike 59 = .ok (.invokevirtual 102, 3) := by decide +kernel
theorem dL_areAlike_62 : decode cL_areAlike 62 = .ok (.aload_n 1, 1) := by decide +kernel
theorem dL_areAlike_63 : decode cL_areAlike 63 = .ok (.iload 4, 2) := by decide +kernel
theorem dL_areAlike_65 : decode cL_areAlike 65 = .ok (.invokevirtual 102, 3) := by decide +kernel
theorem dL_areAlike_68 : decode cL_areAlike 68 = .ok (.if_icmp .ne 7, 3) := by decide +kernel
theorem dL_areAlike_71 : decode cL_areAlike 71 = .ok (.iconst 1, 1) := by decide +kernel
theorem dL_areAlike_72 : decode cL_areAlike 72 = .ok (.goto 4, 3) := by decide +kernel
theorem dL_areAlike_75 : decode cL_areAlike 75 = .ok (.iconst 0, 1) := by decide +kernel
theorem dL_areAlike_76 : decode cL_areAlike 76 = .ok (.istore_n 3, 1) := by decide +kernel
theorem dL_areAlike_77 : decode cL_areAlike 77 = .ok (.iinc 4 1, 3) := by decide +kernel
theorem dL_areAlike_80 : decode cL_areAlike 80 = .ok (.goto (-49), 3) := by decide +kernel
theorem dL_areAlike_83 : decode cL_areAlike 83 = .ok (.iconst 0, 1) := by decide +kernel
theorem dL_areAlike_84 : decode cL_areAlike 84 = .ok (.istore 4, 2) := by decide +kernel
theorem dL_areAlike_86 : decode cL_areAlike 86 = .ok (.iload 4, 2) := by decide +kernel
theorem dL_areAlike_88 : decode cL_areAlike 88 = .ok (.bipush 9, 2) := by decide +kernel
theorem dL_areAlike_90 : decode cL_areAlike 90 = .ok (.if_icmp .ge 34, 3) := by decide +kernel
theorem dL_areAlike_93 : decode cL_areAlike 93 = .ok (.iload_n 3, 1) := by decide +kernel
theorem dL_areAlike_94 : decode cL_areAlike 94 = .ok (.ifCond .eq 22, 3) := by decide +kernel
theorem dL_areAlike_97 : decode cL_areAlike 97 = .ok (.aload_n 0, 1) := by decide +kernel
theorem dL_areAlike_98 : decode cL_areAlike 98 = .ok (.iload 4, 2) := by decide +kernel
theorem dL_areAlike_100 : decode cL_areAlike 100 = .ok (.invokevirtual 105, 3) := by decide +kernel
theorem dL_areAlike_103 : decode cL_areAlike 103 = .ok (.aload_n 1, 1) := by decide +kernel
theorem dL_areAlike_104 : decode cL_areAlike 104 = .ok (.iload 4, 2) := by decide +kernel
theorem dL_areAlike_106 : decode cL_areAlike 106 = .ok (.invokevirtual 105, 3) := by decide +kernel
theorem dL_areAlike_109 : decode cL_areAlike 109 = .ok (.if_icmp .ne 7, 3) := by decide +kernel
theorem dL_areAlike_112 : decode cL_areAlike 112 = .ok (.iconst 1, 1) := by decide +kernel
theorem dL_areAlike_113 : decode cL_areAlike 113 = .ok (.goto 4, 3) := by decide +kernel
theorem dL_areAlike_116 : decode cL_areAlike 116 = .ok (.iconst 0, 1) := by decide +kernel
theorem dL_areAlike_117 : decode cL_areAlike 117 = .ok (.istore_n 3, 1) := by decide +kernel
theorem dL_areAlike_118 : decode cL_areAlike 118 = .ok (.iinc 4 1, 3) := by decide +kernel
theorem dL_areAlike_121 : decode cL_areAlike 121 = .ok (.goto (-35), 3) := by decide +kernel
theorem dL_areAlike_124 : decode cL_areAlike 124 = .ok (.iload_n 3, 1) := by decide +kernel
theorem dL_areAlike_125 : decode cL_areAlike 125 = .ok (.ireturn, 1) := by decide +kernel
theorem dL_plays_0 : decode cL_plays 0 = .ok (.iconst 1, 1) := by decide +kernel
theorem dL_plays_1 : decode cL_plays 1 = .ok (.istore 5, 2) := by decide +kernel
theorem dL_plays_3 : decode cL_plays 3 = .ok (.iconst 0, 1) := by decide +kernel
theorem dL_plays_4 : decode cL_plays 4 = .ok (.istore 6, 2) := by decide +kernel
theorem dL_plays_6 : decode cL_plays 6 = .ok (.iload 6, 2) := by decide +kernel
theorem dL_plays_8 : decode cL_plays 8 = .ok (.bipush 24, 2) := by decide +kernel
theorem dL_plays_10 : decode cL_plays 10 = .ok (.if_icmp .ge 155, 3) := by decide +kernel
theorem dL_plays_13 : decode cL_plays 13 = .ok (.iload 5, 2) := by decide +kernel
theorem dL_plays_15 : decode cL_plays 15 = .ok (.ifCond .eq 150, 3) := by decide +kernel
theorem dL_plays_18 : decode cL_plays 18 = .ok (.aload_n 0, 1) := by decide +kernel
theorem dL_plays_19 : decode cL_plays 19 = .ok (.invokevirtual 111, 3) := by decide +kernel
theorem dL_plays_22 : decode cL_plays 22 = .ok (.bipush 111, 2) := by decide +kernel
theorem dL_plays_24 : decode cL_plays 24 = .ok (.if_icmp .ne 141, 3) := by decide +kernel
theorem dL_plays_27 : decode cL_plays 27 = .ok (.aload_n 0, 1) := by decide +kernel
theorem dL_plays_28 : decode cL_plays 28 = .ok (.invokevirtual 115, 3) := by decide +kernel
theorem dL_plays_31 : decode cL_plays 31 = .ok (.istore 7, 2) := by decide +kernel
theorem dL_plays_33 : decode cL_plays 33 = .ok (.aload_n 2, 1) := by decide +kernel
theorem dL_plays_34 : decode cL_plays 34 = .ok (.iload_n 3, 1) := by decide +kernel
theorem dL_plays_35 : decode cL_plays 35 = .ok (.iload 6, 2) := by decide +kernel
theorem dL_plays_37 : decode cL_plays 37 = .ok (.iadd, 1) := by decide +kernel
theorem dL_plays_38 : decode cL_plays 38 = .ok (.invokestatic 9, 3) := by decide +kernel
theorem dL_plays_41 : decode cL_plays 41 = .ok (.istore 8, 2) := by decide +kernel
theorem dL_plays_43 : decode cL_plays 43 = .ok (.aload_n 0, 1) := by decide +kernel
theorem dL_plays_44 : decode cL_plays 44 = .ok (.iload 8, 2) := by decide +kernel
theorem dL_plays_46 : decode cL_plays 46 = .ok (.invokestatic 118, 3) := by decide +kernel
theorem dL_plays_49 : decode cL_plays 49 = .ok (.istore 9, 2) := by decide +kernel
theorem dL_plays_51 : decode cL_plays 51 = .ok (.aload_n 1, 1) := by decide +kernel
theorem dL_plays_52 : decode cL_plays 52 = .ok (.iload 8, 2) := by decide +kernel
theorem dL_plays_54 : decode cL_plays 54 = .ok (.invokestatic 118, 3) := by decide +kernel
theorem dL_plays_57 : decode cL_plays 57 = .ok (.iload 9, 2) := by decide +kernel
theorem dL_plays_59 : decode cL_plays 59 = .ok (.if_icmp .ne 42, 3) := by decide +kernel
theorem dL_plays_62 : decode cL_plays 62 = .ok (.aload_n 0, 1) := by decide +kernel
theorem dL_plays_63 : decode cL_plays 63 = .ok (.aload_n 1, 1) := by decide +kernel
theorem dL_plays_64 : decode cL_plays 64 = .ok (.iload 4, 2) := by decide +kernel
theorem dL_plays_66 : decode cL_plays 66 = .ok (.invokestatic 122, 3) := by decide +kernel
theorem dL_plays_69 : decode cL_plays 69 = .ok (.ifCond .eq 32, 3) := by decide +kernel
theorem dL_plays_72 : decode cL_plays 72 = .ok (.aload_n 0, 1) := by decide +kernel
theorem dL_plays_73 : decode cL_plays 73 = .ok (.invokevirtual 115, 3) := by decide +kernel
theorem dL_plays_76 : decode cL_plays 76 = .ok (.iload 7, 2) := by decide +kernel
theorem dL_plays_78 : decode cL_plays 78 = .ok (.if_icmp .lt 23, 3) := by decide +kernel
theorem dL_plays_81 : decode cL_plays 81 = .ok (.aload_n 0, 1) := by decide +kernel
theorem dL_plays_82 : decode cL_plays 82 = .ok (.iload 4, 2) := by decide +kernel
theorem dL_plays_84 : decode cL_plays 84 = .ok (.invokestatic 126, 3) := by decide +kernel
theorem dL_plays_87 : decode cL_plays 87 = .ok (.ifCond .eq 14, 3) := by decide +kernel
theorem dL_plays_90 : decode cL_plays 90 = .ok (.aload_n 0, 1) := by decide +kernel
theorem dL_plays_91 : decode cL_plays 91 = .ok (.invokestatic 130, 3) := by decide +kernel
theorem dL_plays_94 : decode cL_plays 94 = .ok (.ifCond .eq 7, 3) := by decide +kernel
theorem dL_plays_97 : decode cL_plays 97 = .ok (.iconst 1, 1) := by decide +kernel
theorem dL_plays_98 : decode cL_plays 98 = .ok (.goto 4, 3) := by decide +kernel
theorem dL_plays_101 : decode cL_plays 101 = .ok (.iconst 0, 1) := by decide +kernel
theorem dL_plays_102 : decode cL_plays 102 = .ok (.istore 5, 2) := by decide +kernel
theorem dL_plays_104 : decode cL_plays 104 = .ok (.iload 5, 2) := by decide +kernel
theorem dL_plays_106 : decode cL_plays 106 = .ok (.ifCond .eq 50, 3) := by decide +kernel
theorem dL_plays_109 : decode cL_plays 109 = .ok (.iload 9, 2) := by decide +kernel
theorem dL_plays_111 : decode cL_plays 111 = .ok (.sipush (-1001), 3) := by decide +kernel
theorem dL_plays_114 : decode cL_plays 114 = .ok (.if_icmp .gt 12, 3) := by decide +kernel
theorem dL_plays_117 : decode cL_plays 117 = .ok (.aload_n 0, 1) := by decide +kernel
theorem dL_plays_118 : decode cL_plays 118 = .ok (.invokevirtual 115, 3) := by decide +kernel
theorem dL_plays_121 : decode cL_plays 121 = .ok (.iload 7, 2) := by decide +kernel
theorem dL_plays_123 : decode cL_plays 123 = .ok (.if_icmp .ne 33, 3) := by decide +kernel
theorem dL_plays_126 : decode cL_plays 126 = .ok (.aload_n 0, 1) := by decide +kernel
theorem dL_plays_127 : decode cL_plays 127 = .ok (.invokevirtual 111, 3) := by decide +kernel
theorem dL_plays_130 : decode cL_plays 130 = .ok (.bipush 111, 2) := by decide +kernel
theorem dL_plays_132 : decode cL_plays 132 = .ok (.if_icmp .eq 20, 3) := by decide +kernel
theorem dL_plays_135 : decode cL_plays 135 = .ok (.aload_n 0, 1) := by decide +kernel
theorem dL_plays_136 : decode cL_plays 136 = .ok (.invokevirtual 111, 3) := by decide +kernel
theorem dL_plays_139 : decode cL_plays 139 = .ok (.bipush 100, 2) := by decide +kernel
theorem dL_plays_141 : decode cL_plays 141 = .ok (.if_icmp .ne 15, 3) := by decide +kernel
theorem dL_plays_144 : decode cL_plays 144 = .ok (.aload_n 0, 1) := by decide +kernel
theorem dL_plays_145 : decode cL_plays 145 = .ok (.iconst 0, 1) := by decide +kernel
theorem dL_plays_146 : decode cL_plays 146 = .ok (.invokevirtual 102, 3) := by decide +kernel
theorem dL_plays_149 : decode cL_plays 149 = .ok (.ifCond .gt 7, 3) := by decide +kernel
theorem dL_plays_152 : decode cL_plays 152 = .ok (.iconst 1, 1) := by decide +kernel
theorem dL_plays_153 : decode cL_plays 153 = .ok (.goto 4, 3) := by decide +kernel
theorem dL_plays_156 : decode cL_plays 156 = .ok (.iconst 0, 1) := by decide +kernel
theorem dL_plays_157 : decode cL_plays 157 = .ok (.istore 5, 2) := by decide +kernel
theorem dL_plays_159 : decode cL_plays 159 = .ok (.iinc 6 1, 3) := by decide +kernel
theorem dL_plays_162 : decode cL_plays 162 = .ok (.goto (-156), 3) := by decide +kernel
theorem dL_plays_165 : decode cL_plays 165 = .ok (.iload 5, 2) := by decide +kernel
theorem dL_plays_167 : decode cL_plays 167 = .ok (.ifCond .eq 14, 3) := by decide +kernel
theorem dL_plays_170 : decode cL_plays 170 = .ok (.aload_n 0, 1) := by decide +kernel
theorem dL_plays_171 : decode cL_plays 171 = .ok (.invokevirtual 134, 3) := by decide +kernel
theorem dL_plays_174 : decode cL_plays 174 = .ok (.ifCond .eq 7, 3) := by decide +kernel
theorem dL_plays_177 : decode cL_plays 177 = .ok (.iconst 1, 1) := by decide +kernel
theorem dL_plays_178 : decode cL_plays 178 = .ok (.goto 4, 3) := by decide +kernel
theorem dL_plays_181 : decode cL_plays 181 = .ok (.iconst 0, 1) := by decide +kernel
theorem dL_plays_182 : decode cL_plays 182 = .ok (.ireturn, 1) := by decide +kernel
theorem dL_isFound_0 : decode cL_isFound 0 = .ok (.bipush 9, 2) := by decide +kernel
theorem dL_isFound_2 : decode cL_isFound 2 = .ok (.newarray .int, 2) := by decide +kernel
theorem dL_isFound_4 : decode cL_isFound 4 = .ok (.astore_n 3, 1) := by decide +kernel
theorem dL_isFound_5 : decode cL_isFound 5 = .ok (.aload_n 0, 1) := by decide +kernel
theorem dL_isFound_6 : decode cL_isFound 6 = .ok (.iconst 0, 1) := by decide +kernel
theorem dL_isFound_7 : decode cL_isFound 7 = .ok (.invokevirtual 96, 3) := by decide +kernel
theorem dL_isFound_10 : decode cL_isFound 10 = .ok (.istore 4, 2) := by decide +kernel
theorem dL_isFound_12 : decode cL_isFound 12 = .ok (.iconst 0, 1) := by decide +kernel
theorem dL_isFound_13 : decode cL_isFound 13 = .ok (.istore 5, 2) := by decide +kernel
theorem dL_isFound_15 : decode cL_isFound 15 = .ok (.iload 5, 2) := by decide +kernel
theorem dL_isFound_17 : decode cL_isFound 17 = .ok (.bipush 9, 2) := by decide +kernel
theorem dL_isFound_19 : decode cL_isFound 19 = .ok (.if_icmp .ge 19, 3) := by decide +kernel
theorem dL_isFound_22 : decode cL_isFound 22 = .ok (.aload_n 3, 1) := by decide +kernel
theorem dL_isFound_23 : decode cL_isFound 23 = .ok (.iload 5, 2) := by decide +kernel
theorem dL_isFound_25 : decode cL_isFound 25 = .ok (.aload_n 0, 1) := by decide +kernel
theorem dL_isFound_26 : decode cL_isFound 26 = .ok (.iload 5, 2) := by decide +kernel
theorem dL_isFound_28 : decode cL_isFound 28 = .ok (.invokevirtual 105, 3) := by decide +kernel
theorem dL_isFound_31 : decode cL_isFound 31 = .ok (.iastore, 1) := by decide +kernel
theorem dL_isFound_32 : decode cL_isFound 32 = .ok (.iinc 5 1, 3) := by decide +kernel
theorem dL_isFound_35 : decode cL_isFound 35 = .ok (.goto (-20), 3) := by decide +kernel
theorem dL_isFound_38 : decode cL_isFound 38 = .ok (.aload_n 0, 1) := by decide +kernel
theorem dL_isFound_39 : decode cL_isFound 39 = .ok (.iload 4, 2) := by decide +kernel
theorem dL_isFound_41 : decode cL_isFound 41 = .ok (.bipush 100, 2) := by decide +kernel
theorem dL_isFound_43 : decode cL_isFound 43 = .ok (.idiv, 1) := by decide +kernel
theorem dL_isFound_44 : decode cL_isFound 44 = .ok (.iload 4, 2) := by decide +kernel
theorem dL_isFound_46 : decode cL_isFound 46 = .ok (.bipush 100, 2) := by decide +kernel
theorem dL_isFound_48 : decode cL_isFound 48 = .ok (.irem, 1) := by decide +kernel
theorem dL_isFound_49 : decode cL_isFound 49 = .ok (.invokevirtual 99, 3) := by decide +kernel
theorem dL_isFound_52 : decode cL_isFound 52 = .ok (.istore 5, 2) := by decide +kernel
theorem dL_isFound_54 : decode cL_isFound 54 = .ok (.aload_n 0, 1) := by decide +kernel
theorem dL_isFound_55 : decode cL_isFound 55 = .ok (.bipush 7, 2) := by decide +kernel
theorem dL_isFound_57 : decode cL_isFound 57 = .ok (.invokestatic 138, 3) := by decide +kernel
theorem dL_isFound_60 : decode cL_isFound 60 = .ok (.istore 6, 2) := by decide +kernel
theorem dL_isFound_62 : decode cL_isFound 62 = .ok (.iload 6, 2) := by decide +kernel
theorem dL_isFound_64 : decode cL_isFound 64 = .ok (.iconst 1, 1) := by decide +kernel
theorem dL_isFound_65 : decode cL_isFound 65 = .ok (.if_icmp .lt 25, 3) := by decide +kernel
theorem dL_isFound_68 : decode cL_isFound 68 = .ok (.aload_n 0, 1) := by decide +kernel
theorem dL_isFound_69 : decode cL_isFound 69 = .ok (.invokevirtual 111, 3) := by decide +kernel
theorem dL_isFound_72 : decode cL_isFound 72 = .ok (.bipush 111, 2) := by decide +kernel
theorem dL_isFound_74 : decode cL_isFound 74 = .ok (.if_icmp .eq 12, 3) := by decide +kernel
theorem dL_isFound_77 : decode cL_isFound 77 = .ok (.aload_n 0, 1) := by decide +kernel
theorem dL_isFound_78 : decode cL_isFound 78 = .ok (.invokevirtual 111, 3) := by decide +kernel
theorem dL_isFound_81 : decode cL_isFound 81 = .ok (.bipush 100, 2) := by decide +kernel
theorem dL_isFound_83 : decode cL_isFound 83 = .ok (.if_icmp .ne 7, 3) := by decide +kernel
theorem dL_isFound_86 : decode cL_isFound 86 = .ok (.iconst 1, 1) := by decide +kernel
theorem dL_isFound_87 : decode cL_isFound 87 = .ok (.goto 4, 3) := by decide +kernel
theorem dL_isFound_90 : decode cL_isFound 90 = .ok (.iconst 0, 1) := by decide +kernel
theorem dL_isFound_91 : decode cL_isFound 91 = .ok (.istore 7, 2) := by decide +kernel
theorem dL_isFound_93 : decode cL_isFound 93 = .ok (.iconst 0, 1) := by decide +kernel
theorem dL_isFound_94 : decode cL_isFound 94 = .ok (.istore 8, 2) := by decide +kernel
theorem dL_isFound_96 : decode cL_isFound 96 = .ok (.iconst 0, 1) := by decide +kernel
theorem dL_isFound_97 : decode cL_isFound 97 = .ok (.istore 9, 2) := by decide +kernel
theorem dL_isFound_99 : decode cL_isFound 99 = .ok (.iload 9, 2) := by decide +kernel
theorem dL_isFound_101 : decode cL_isFound 101 = .ok (.bipush 9, 2) := by decide +kernel
theorem dL_isFound_103 : decode cL_isFound 103 = .ok (.if_icmp .ge 32, 3) := by decide +kernel
theorem dL_isFound_106 : decode cL_isFound 106 = .ok (.iload 8, 2) := by decide +kernel
theorem dL_isFound_108 : decode cL_isFound 108 = .ok (.aload_n 0, 1) := by decide +kernel
theorem dL_isFound_109 : decode cL_isFound 109 = .ok (.iload 9, 2) := by decide +kernel
theorem dL_isFound_111 : decode cL_isFound 111 = .ok (.invokevirtual 105, 3) := by decide +kernel
theorem dL_isFound_114 : decode cL_isFound 114 = .ok (.aload_n 3, 1) := by decide +kernel
theorem dL_isFound_115 : decode cL_isFound 115 = .ok (.iload 9, 2) := by decide +kernel
theorem dL_isFound_117 : decode cL_isFound 117 = .ok (.iaload, 1) := by decide +kernel
theorem dL_isFound_118 : decode cL_isFound 118 = .ok (.if_icmp .ne 7, 3) := by decide +kernel
theorem dL_isFound_121 : decode cL_isFound 121 = .ok (.iconst 1, 1) := by decide +kernel
theorem dL_isFound_122 : decode cL_isFound 122 = .ok (.goto 4, 3) := by decide +kernel
theorem dL_isFound_125 : decode cL_isFound 125 = .ok (.iconst 0, 1) := by decide +kernel
theorem dL_isFound_126 : decode cL_isFound 126 = .ok (.iadd, 1) := by decide +kernel
theorem dL_isFound_127 : decode cL_isFound 127 = .ok (.istore 8, 2) := by decide +kernel
theorem dL_isFound_129 : decode cL_isFound 129 = .ok (.iinc 9 1, 3) := by decide +kernel
theorem dL_isFound_132 : decode cL_isFound 132 = .ok (.goto (-33), 3) := by decide +kernel
theorem dL_isFound_135 : decode cL_isFound 135 = .ok (.iload 7, 2) := by decide +kernel
theorem dL_isFound_137 : decode cL_isFound 137 = .ok (.ifCond .eq 40, 3) := by decide +kernel
theorem dL_isFound_140 : decode cL_isFound 140 = .ok (.iload 8, 2) := by decide +kernel
theorem dL_isFound_142 : decode cL_isFound 142 = .ok (.ifCond .lt 35, 3) := by decide +kernel
theorem dL_isFound_145 : decode cL_isFound 145 = .ok (.aload_n 0, 1) := by decide +kernel
theorem dL_isFound_146 : decode cL_isFound 146 = .ok (.invokestatic 130, 3) := by decide +kernel
theorem dL_isFound_149 : decode cL_isFound 149 = .ok (.ifCond .eq 28, 3) := by decide +kernel
theorem dL_isFound_152 : decode cL_isFound 152 = .ok (.iload 5, 2) := by decide +kernel
theorem dL_isFound_154 : decode cL_isFound 154 = .ok (.bipush 46, 2) := by decide +kernel
theorem dL_isFound_156 : decode cL_isFound 156 = .ok (.if_icmp .eq 17, 3) := by decide +kernel
theorem dL_isFound_159 : decode cL_isFound 159 = .ok (.iload 5, 2) := by decide +kernel
theorem dL_isFound_161 : decode cL_isFound 161 = .ok (.bipush 126, 2) := by decide +kernel
theorem dL_isFound_163 : decode cL_isFound 163 = .ok (.if_icmp .eq 10, 3) := by decide +kernel
theorem dL_isFound_166 : decode cL_isFound 166 = .ok (.iload 5, 2) := by decide +kernel
theorem dL_isFound_168 : decode cL_isFound 168 = .ok (.bipush 47, 2) := by decide +kernel
theorem dL_isFound_170 : decode cL_isFound 170 = .ok (.if_icmp .ne 7, 3) := by decide +kernel
theorem dL_isFound_173 : decode cL_isFound 173 = .ok (.iconst 1, 1) := by decide +kernel
theorem dL_isFound_174 : decode cL_isFound 174 = .ok (.goto 4, 3) := by decide +kernel
theorem dL_isFound_177 : decode cL_isFound 177 = .ok (.iconst 0, 1) := by decide +kernel
theorem dL_isFound_178 : decode cL_isFound 178 = .ok (.ireturn, 1) := by decide +kernel
theorem dL_law_0 : decode cL_law 0 = .ok (.new 28, 3) := by decide +kernel
theorem dL_law_3 : decode cL_law 3 = .ok (.dup, 1) := by decide +kernel
theorem dL_law_4 : decode cL_law 4 = .ok (.invokespecial 140, 3) := by decide +kernel
theorem dL_law_7 : decode cL_law 7 = .ok (.astore_n 1, 1) := by decide +kernel
theorem dL_law_8 : decode cL_law 8 = .ok (.new 28, 3) := by decide +kernel
theorem dL_law_11 : decode cL_law 11 = .ok (.dup, 1) := by decide +kernel
theorem dL_law_12 : decode cL_law 12 = .ok (.invokespecial 140, 3) := by decide +kernel
theorem dL_law_15 : decode cL_law 15 = .ok (.astore_n 2, 1) := by decide +kernel
theorem dL_law_16 : decode cL_law 16 = .ok (.aload_n 1, 1) := by decide +kernel
theorem dL_law_17 : decode cL_law 17 = .ok (.aload_n 0, 1) := by decide +kernel
theorem dL_law_18 : decode cL_law 18 = .ok (.invokestatic 141, 3) := by decide +kernel
theorem dL_law_21 : decode cL_law 21 = .ok (.aload_n 2, 1) := by decide +kernel
theorem dL_law_22 : decode cL_law 22 = .ok (.aload_n 0, 1) := by decide +kernel
theorem dL_law_23 : decode cL_law 23 = .ok (.invokestatic 141, 3) := by decide +kernel
theorem dL_law_26 : decode cL_law 26 = .ok (.aload_n 0, 1) := by decide +kernel
theorem dL_law_27 : decode cL_law 27 = .ok (.invokestatic 145, 3) := by decide +kernel
theorem dL_law_30 : decode cL_law 30 = .ok (.istore_n 3, 1) := by decide +kernel
theorem dL_law_31 : decode cL_law 31 = .ok (.aload_n 0, 1) := by decide +kernel
theorem dL_law_32 : decode cL_law 32 = .ok (.bipush 34, 2) := by decide +kernel
theorem dL_law_34 : decode cL_law 34 = .ok (.invokestatic 9, 3) := by decide +kernel
theorem dL_law_37 : decode cL_law 37 = .ok (.sipush 1000, 3) := by decide +kernel
theorem dL_law_40 : decode cL_law 40 = .ok (.invokestatic 17, 3) := by decide +kernel
theorem dL_law_43 : decode cL_law 43 = .ok (.istore 4, 2) := by decide +kernel
theorem dL_law_45 : decode cL_law 45 = .ok (.aload_n 1, 1) := by decide +kernel
theorem dL_law_46 : decode cL_law 46 = .ok (.iload 4, 2) := by decide +kernel
theorem dL_law_48 : decode cL_law 48 = .ok (.invokestatic 138, 3) := by decide +kernel
theorem dL_law_51 : decode cL_law 51 = .ok (.istore 5, 2) := by decide +kernel
theorem dL_law_53 : decode cL_law 53 = .ok (.aload_n 2, 1) := by decide +kernel
theorem dL_law_54 : decode cL_law 54 = .ok (.iload 4, 2) := by decide +kernel
theorem dL_law_56 : decode cL_law 56 = .ok (.invokestatic 138, 3) := by decide +kernel
theorem dL_law_59 : decode cL_law 59 = .ok (.iload 5, 2) := by decide +kernel
theorem dL_law_61 : decode cL_law 61 = .ok (.if_icmp .eq 5, 3) := by decide +kernel
theorem dL_law_64 : decode cL_law 64 = .ok (.iconst 0, 1) := by decide +kernel
theorem dL_law_65 : decode cL_law 65 = .ok (.ireturn, 1) := by decide +kernel
theorem dL_law_66 : decode cL_law 66 = .ok (.iload 5, 2) := by decide +kernel
theorem dL_law_68 : decode cL_law 68 = .ok (.ifCond .ge 32, 3) := by decide +kernel
theorem dL_law_71 : decode cL_law 71 = .ok (.aload_n 1, 1) := by decide +kernel
theorem dL_law_72 : decode cL_law 72 = .ok (.invokevirtual 111, 3) := by decide +kernel
theorem dL_law_75 : decode cL_law 75 = .ok (.bipush 110, 2) := by decide +kernel
theorem dL_law_77 : decode cL_law 77 = .ok (.if_icmp .ne 21, 3) := by decide +kernel
theorem dL_law_80 : decode cL_law 80 = .ok (.aload_n 1, 1) := by decide +kernel
theorem dL_law_81 : decode cL_law 81 = .ok (.invokevirtual 115, 3) := by decide +kernel
theorem dL_law_84 : decode cL_law 84 = .ok (.ifCond .ne 14, 3) := by decide +kernel
theorem dL_law_87 : decode cL_law 87 = .ok (.aload_n 1, 1) := by decide +kernel
theorem dL_law_88 : decode cL_law 88 = .ok (.invokestatic 130, 3) := by decide +kernel
theorem dL_law_91 : decode cL_law 91 = .ok (.ifCond .eq 7, 3) := by decide +kernel
theorem dL_law_94 : decode cL_law 94 = .ok (.iconst 1, 1) := by decide +kernel
theorem dL_law_95 : decode cL_law 95 = .ok (.goto 4, 3) := by decide +kernel
theorem dL_law_98 : decode cL_law 98 = .ok (.iconst 0, 1) := by decide +kernel
theorem dL_law_99 : decode cL_law 99 = .ok (.ireturn, 1) := by decide +kernel
theorem dL_law_100 : decode cL_law 100 = .ok (.aload_n 1, 1) := by decide +kernel
theorem dL_law_101 : decode cL_law 101 = .ok (.iload_n 3, 1) := by decide +kernel
theorem dL_law_102 : decode cL_law 102 = .ok (.invokestatic 126, 3) := by decide +kernel
theorem dL_law_105 : decode cL_law 105 = .ok (.ifCond .eq 26, 3) := by decide +kernel
theorem dL_law_108 : decode cL_law 108 = .ok (.aload_n 1, 1) := by decide +kernel
theorem dL_law_109 : decode cL_law 109 = .ok (.invokestatic 130, 3) := by decide +kernel
theorem dL_law_112 : decode cL_law 112 = .ok (.ifCond .eq 19, 3) := by decide +kernel
theorem dL_law_115 : decode cL_law 115 = .ok (.aload_n 1, 1) := by decide +kernel
theorem dL_law_116 : decode cL_law 116 = .ok (.aload_n 2, 1) := by decide +kernel
theorem dL_law_117 : decode cL_law 117 = .ok (.aload_n 0, 1) := by decide +kernel
theorem dL_law_118 : decode cL_law 118 = .ok (.bipush 35, 2) := by decide +kernel
theorem dL_law_120 : decode cL_law 120 = .ok (.iload_n 3, 1) := by decide +kernel
theorem dL_law_121 : decode cL_law 121 = .ok (.invokestatic 149, 3) := by decide +kernel
theorem dL_law_124 : decode cL_law 124 = .ok (.ifCond .eq 7, 3) := by decide +kernel
theorem dL_law_127 : decode cL_law 127 = .ok (.iconst 1, 1) := by decide +kernel
theorem dL_law_128 : decode cL_law 128 = .ok (.goto 4, 3) := by decide +kernel
theorem dL_law_131 : decode cL_law 131 = .ok (.iconst 0, 1) := by decide +kernel
theorem dL_law_132 : decode cL_law 132 = .ok (.istore 6, 2) := by decide +kernel
theorem dL_law_134 : decode cL_law 134 = .ok (.iload 6, 2) := by decide +kernel
theorem dL_law_136 : decode cL_law 136 = .ok (.ifCond .eq 12, 3) := by decide +kernel
theorem dL_law_139 : decode cL_law 139 = .ok (.aload_n 1, 1) := by decide +kernel
theorem dL_law_140 : decode cL_law 140 = .ok (.invokevirtual 111, 3) := by decide +kernel
theorem dL_law_143 : decode cL_law 143 = .ok (.bipush 100, 2) := by decide +kernel
theorem dL_law_145 : decode cL_law 145 = .ok (.if_icmp .eq 6, 3) := by decide +kernel
theorem dL_law_148 : decode cL_law 148 = .ok (.iload 6, 2) := by decide +kernel
theorem dL_law_150 : decode cL_law 150 = .ok (.ireturn, 1) := by decide +kernel
theorem dL_law_151 : decode cL_law 151 = .ok (.aload_n 2, 1) := by decide +kernel
theorem dL_law_152 : decode cL_law 152 = .ok (.bipush 7, 2) := by decide +kernel
theorem dL_law_154 : decode cL_law 154 = .ok (.invokestatic 138, 3) := by decide +kernel
theorem dL_law_157 : decode cL_law 157 = .ok (.iconst 1, 1) := by decide +kernel
theorem dL_law_158 : decode cL_law 158 = .ok (.if_icmp .lt 46, 3) := by decide +kernel
theorem dL_law_161 : decode cL_law 161 = .ok (.aload_n 1, 1) := by decide +kernel
theorem dL_law_162 : decode cL_law 162 = .ok (.aload_n 0, 1) := by decide +kernel
theorem dL_law_163 : decode cL_law 163 = .ok (.iload_n 3, 1) := by decide +kernel
theorem dL_law_164 : decode cL_law 164 = .ok (.invokestatic 153, 3) := by decide +kernel
theorem dL_law_167 : decode cL_law 167 = .ok (.ifCond .eq 37, 3) := by decide +kernel
theorem dL_law_170 : decode cL_law 170 = .ok (.aload_n 1, 1) := by decide +kernel
theorem dL_law_171 : decode cL_law 171 = .ok (.aload_n 2, 1) := by decide +kernel
theorem dL_law_172 : decode cL_law 172 = .ok (.iload_n 3, 1) := by decide +kernel
theorem dL_law_173 : decode cL_law 173 = .ok (.invokestatic 122, 3) := by decide +kernel
theorem dL_law_176 : decode cL_law 176 = .ok (.ifCond .eq 28, 3) := by decide +kernel
theorem dL_law_179 : decode cL_law 179 = .ok (.aload_n 1, 1) := by decide +kernel
theorem dL_law_180 : decode cL_law 180 = .ok (.invokevirtual 111, 3) := by decide +kernel
theorem dL_law_183 : decode cL_law 183 = .ok (.bipush 111, 2) := by decide +kernel
theorem dL_law_185 : decode cL_law 185 = .ok (.if_icmp .ne 15, 3) := by decide +kernel
theorem dL_law_188 : decode cL_law 188 = .ok (.aload_n 1, 1) := by decide +kernel
theorem dL_law_189 : decode cL_law 189 = .ok (.aload_n 2, 1) := by decide +kernel
theorem dL_law_190 : decode cL_law 190 = .ok (.aload_n 0, 1) := by decide +kernel
theorem dL_law_191 : decode cL_law 191 = .ok (.bipush 59, 2) := by decide +kernel
theorem dL_law_193 : decode cL_law 193 = .ok (.iload_n 3, 1) := by decide +kernel
theorem dL_law_194 : decode cL_law 194 = .ok (.invokestatic 149, 3) := by decide +kernel
theorem dL_law_197 : decode cL_law 197 = .ok (.ifCond .eq 7, 3) := by decide +kernel
theorem dL_law_200 : decode cL_law 200 = .ok (.iconst 1, 1) := by decide +kernel
theorem dL_law_201 : decode cL_law 201 = .ok (.goto 4, 3) := by decide +kernel
theorem dL_law_204 : decode cL_law 204 = .ok (.iconst 0, 1) := by decide +kernel
theorem dL_law_205 : decode cL_law 205 = .ok (.ireturn, 1) := by decide +kernel
