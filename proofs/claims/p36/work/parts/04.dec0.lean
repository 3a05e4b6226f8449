theorem dX0_init_0 : decode cX0_init 0 = .ok (.aload_n 0, 1) := by decide +kernel
theorem dX0_init_1 : decode cX0_init 1 = .ok (.invokespecial 3, 3) := by decide +kernel
theorem dX0_init_4 : decode cX0_init 4 = .ok (.aload_n 0, 1) := by decide +kernel
theorem dX0_init_5 : decode cX0_init 5 = .ok (.bipush 24, 2) := by decide +kernel
theorem dX0_init_7 : decode cX0_init 7 = .ok (.newarray .int, 2) := by decide +kernel
theorem dX0_init_9 : decode cX0_init 9 = .ok (.putfield 9, 3) := by decide +kernel
theorem dX0_init_12 : decode cX0_init 12 = .ok (.aload_n 0, 1) := by decide +kernel
theorem dX0_init_13 : decode cX0_init 13 = .ok (.iconst (-1), 1) := by decide +kernel
theorem dX0_init_14 : decode cX0_init 14 = .ok (.putfield 15, 3) := by decide +kernel
theorem dX0_init_17 : decode cX0_init 17 = .ok (.return_, 1) := by decide +kernel
theorem dX0_note_0 : decode cX0_note 0 = .ok (.aload_n 0, 1) := by decide +kernel
theorem dX0_note_1 : decode cX0_note 1 = .ok (.aload_n 1, 1) := by decide +kernel
theorem dX0_note_2 : decode cX0_note 2 = .ok (.invokevirtual 19, 3) := by decide +kernel
theorem dX0_note_5 : decode cX0_note 5 = .ok (.putfield 15, 3) := by decide +kernel
theorem dX0_note_8 : decode cX0_note 8 = .ok (.iconst 0, 1) := by decide +kernel
theorem dX0_note_9 : decode cX0_note 9 = .ok (.istore_n 2, 1) := by decide +kernel
theorem dX0_note_10 : decode cX0_note 10 = .ok (.iload_n 2, 1) := by decide +kernel
theorem dX0_note_11 : decode cX0_note 11 = .ok (.bipush 24, 2) := by decide +kernel
theorem dX0_note_13 : decode cX0_note 13 = .ok (.if_icmp .ge 66, 3) := by decide +kernel
theorem dX0_note_16 : decode cX0_note 16 = .ok (.iload_n 2, 1) := by decide +kernel
theorem dX0_note_17 : decode cX0_note 17 = .ok (.aload_n 1, 1) := by decide +kernel
theorem dX0_note_18 : decode cX0_note 18 = .ok (.getfield 25, 3) := by decide +kernel
theorem dX0_note_21 : decode cX0_note 21 = .ok (.getfield 29, 3) := by decide +kernel
theorem dX0_note_24 : decode cX0_note 24 = .ok (.if_icmp .ge 19, 3) := by decide +kernel
theorem dX0_note_27 : decode cX0_note 27 = .ok (.aload_n 1, 1) := by decide +kernel
theorem dX0_note_28 : decode cX0_note 28 = .ok (.getfield 25, 3) := by decide +kernel
theorem dX0_note_31 : decode cX0_note 31 = .ok (.iload_n 2, 1) := by decide +kernel
theorem dX0_note_32 : decode cX0_note 32 = .ok (.invokevirtual 34, 3) := by decide +kernel
theorem dX0_note_35 : decode cX0_note 35 = .ok (.iconst (-1), 1) := by decide +kernel
theorem dX0_note_36 : decode cX0_note 36 = .ok (.if_icmp .ne 7, 3) := by decide +kernel
theorem dX0_note_39 : decode cX0_note 39 = .ok (.iconst 1, 1) := by decide +kernel
theorem dX0_note_40 : decode cX0_note 40 = .ok (.goto 4, 3) := by decide +kernel
theorem dX0_note_43 : decode cX0_note 43 = .ok (.iconst 0, 1) := by decide +kernel
theorem dX0_note_44 : decode cX0_note 44 = .ok (.istore_n 3, 1) := by decide +kernel
theorem dX0_note_45 : decode cX0_note 45 = .ok (.aload_n 0, 1) := by decide +kernel
theorem dX0_note_46 : decode cX0_note 46 = .ok (.getfield 9, 3) := by decide +kernel
theorem dX0_note_49 : decode cX0_note 49 = .ok (.iload_n 2, 1) := by decide +kernel
theorem dX0_note_50 : decode cX0_note 50 = .ok (.iload_n 3, 1) := by decide +kernel
theorem dX0_note_51 : decode cX0_note 51 = .ok (.ifCond .eq 17, 3) := by decide +kernel
theorem dX0_note_54 : decode cX0_note 54 = .ok (.aload_n 1, 1) := by decide +kernel
theorem dX0_note_55 : decode cX0_note 55 = .ok (.getfield 25, 3) := by decide +kernel
theorem dX0_note_58 : decode cX0_note 58 = .ok (.getfield 38, 3) := by decide +kernel
theorem dX0_note_61 : decode cX0_note 61 = .ok (.iload_n 2, 1) := by decide +kernel
theorem dX0_note_62 : decode cX0_note 62 = .ok (.invokestatic 39, 3) := by decide +kernel
theorem dX0_note_65 : decode cX0_note 65 = .ok (.goto 5, 3) := by decide +kernel
theorem dX0_note_68 : decode cX0_note 68 = .ok (.bipush (-2), 2) := by decide +kernel
theorem dX0_note_70 : decode cX0_note 70 = .ok (.invokestatic 43, 3) := by decide +kernel
theorem dX0_note_73 : decode cX0_note 73 = .ok (.iinc 2 1, 3) := by decide +kernel
theorem dX0_note_76 : decode cX0_note 76 = .ok (.goto (-66), 3) := by decide +kernel
theorem dX0_note_79 : decode cX0_note 79 = .ok (.return_, 1) := by decide +kernel
theorem dX0_layIn_0 : decode cX0_layIn 0 = .ok (.aload_n 0, 1) := by decide +kernel
theorem dX0_layIn_1 : decode cX0_layIn 1 = .ok (.getfield 15, 3) := by decide +kernel
theorem dX0_layIn_4 : decode cX0_layIn 4 = .ok (.iconst (-1), 1) := by decide +kernel
theorem dX0_layIn_5 : decode cX0_layIn 5 = .ok (.if_icmp .eq 17, 3) := by decide +kernel
theorem dX0_layIn_8 : decode cX0_layIn 8 = .ok (.aload_n 1, 1) := by decide +kernel
theorem dX0_layIn_9 : decode cX0_layIn 9 = .ok (.getfield 47, 3) := by decide +kernel
theorem dX0_layIn_12 : decode cX0_layIn 12 = .ok (.aload_n 0, 1) := by decide +kernel
theorem dX0_layIn_13 : decode cX0_layIn 13 = .ok (.getfield 15, 3) := by decide +kernel
theorem dX0_layIn_16 : decode cX0_layIn 16 = .ok (.invokevirtual 51, 3) := by decide +kernel
theorem dX0_layIn_19 : decode cX0_layIn 19 = .ok (.ifCond .ne 4, 3) := by decide +kernel
theorem dX0_layIn_22 : decode cX0_layIn 22 = .ok (.return_, 1) := by decide +kernel
theorem dX0_layIn_23 : decode cX0_layIn 23 = .ok (.iconst 0, 1) := by decide +kernel
theorem dX0_layIn_24 : decode cX0_layIn 24 = .ok (.istore_n 2, 1) := by decide +kernel
theorem dX0_layIn_25 : decode cX0_layIn 25 = .ok (.iload_n 2, 1) := by decide +kernel
theorem dX0_layIn_26 : decode cX0_layIn 26 = .ok (.bipush 24, 2) := by decide +kernel
theorem dX0_layIn_28 : decode cX0_layIn 28 = .ok (.if_icmp .ge 48, 3) := by decide +kernel
theorem dX0_layIn_31 : decode cX0_layIn 31 = .ok (.aload_n 0, 1) := by decide +kernel
theorem dX0_layIn_32 : decode cX0_layIn 32 = .ok (.getfield 9, 3) := by decide +kernel
theorem dX0_layIn_35 : decode cX0_layIn 35 = .ok (.iload_n 2, 1) := by decide +kernel
theorem dX0_layIn_36 : decode cX0_layIn 36 = .ok (.invokestatic 39, 3) := by decide +kernel
theorem dX0_layIn_39 : decode cX0_layIn 39 = .ok (.istore_n 3, 1) := by decide +kernel
theorem dX0_layIn_40 : decode cX0_layIn 40 = .ok (.iload_n 3, 1) := by decide +kernel
theorem dX0_layIn_41 : decode cX0_layIn 41 = .ok (.bipush (-2), 2) := by decide +kernel
theorem dX0_layIn_43 : decode cX0_layIn 43 = .ok (.if_icmp .eq 27, 3) := by decide +kernel
theorem dX0_layIn_46 : decode cX0_layIn 46 = .ok (.aload_n 1, 1) := by decide +kernel
theorem dX0_layIn_47 : decode cX0_layIn 47 = .ok (.getfield 25, 3) := by decide +kernel
theorem dX0_layIn_50 : decode cX0_layIn 50 = .ok (.getfield 38, 3) := by decide +kernel
theorem dX0_layIn_53 : decode cX0_layIn 53 = .ok (.iload_n 2, 1) := by decide +kernel
theorem dX0_layIn_54 : decode cX0_layIn 54 = .ok (.iload_n 3, 1) := by decide +kernel
theorem dX0_layIn_55 : decode cX0_layIn 55 = .ok (.iconst (-1), 1) := by decide +kernel
theorem dX0_layIn_56 : decode cX0_layIn 56 = .ok (.if_icmp .ne 10, 3) := by decide +kernel
theorem dX0_layIn_59 : decode cX0_layIn 59 = .ok (.aload_n 0, 1) := by decide +kernel
theorem dX0_layIn_60 : decode cX0_layIn 60 = .ok (.getfield 15, 3) := by decide +kernel
theorem dX0_layIn_63 : decode cX0_layIn 63 = .ok (.goto 4, 3) := by decide +kernel
theorem dX0_layIn_66 : decode cX0_layIn 66 = .ok (.iload_n 3, 1) := by decide +kernel
theorem dX0_layIn_67 : decode cX0_layIn 67 = .ok (.invokestatic 43, 3) := by decide +kernel
theorem dX0_layIn_70 : decode cX0_layIn 70 = .ok (.iinc 2 1, 3) := by decide +kernel
theorem dX0_layIn_73 : decode cX0_layIn 73 = .ok (.goto (-48), 3) := by decide +kernel
theorem dX0_layIn_76 : decode cX0_layIn 76 = .ok (.return_, 1) := by decide +kernel
theorem dX1_init_0 : decode cX1_init 0 = .ok (.aload_n 0, 1) := by decide +kernel
theorem dX1_init_1 : decode cX1_init 1 = .ok (.invokespecial 3, 3) := by decide +kernel
theorem dX1_init_4 : decode cX1_init 4 = .ok (.aload_n 0, 1) := by decide +kernel
theorem dX1_init_5 : decode cX1_init 5 = .ok (.sipush 144, 3) := by decide +kernel
theorem dX1_init_8 : decode cX1_init 8 = .ok (.newarray .char, 2) := by decide +kernel
theorem dX1_init_10 : decode cX1_init 10 = .ok (.putfield 9, 3) := by decide +kernel
theorem dX1_init_13 : decode cX1_init 13 = .ok (.aload_n 0, 1) := by decide +kernel
theorem dX1_init_14 : decode cX1_init 14 = .ok (.sipush 432, 3) := by decide +kernel
theorem dX1_init_17 : decode cX1_init 17 = .ok (.newarray .int, 2) := by decide +kernel
theorem dX1_init_19 : decode cX1_init 19 = .ok (.putfield 15, 3) := by decide +kernel
theorem dX1_init_22 : decode cX1_init 22 = .ok (.aload_n 0, 1) := by decide +kernel
theorem dX1_init_23 : decode cX1_init 23 = .ok (.sipush 144, 3) := by decide +kernel
theorem dX1_init_26 : decode cX1_init 26 = .ok (.newarray .int, 2) := by decide +kernel
theorem dX1_init_28 : decode cX1_init 28 = .ok (.putfield 19, 3) := by decide +kernel
theorem dX1_init_31 : decode cX1_init 31 = .ok (.aload_n 0, 1) := by decide +kernel
theorem dX1_init_32 : decode cX1_init 32 = .ok (.sipush 144, 3) := by decide +kernel
theorem dX1_init_35 : decode cX1_init 35 = .ok (.newarray .int, 2) := by decide +kernel
theorem dX1_init_37 : decode cX1_init 37 = .ok (.putfield 22, 3) := by decide +kernel
theorem dX1_init_40 : decode cX1_init 40 = .ok (.aload_n 0, 1) := by decide +kernel
theorem dX1_init_41 : decode cX1_init 41 = .ok (.sipush 144, 3) := by decide +kernel
theorem dX1_init_44 : decode cX1_init 44 = .ok (.newarray .int, 2) := by decide +kernel
theorem dX1_init_46 : decode cX1_init 46 = .ok (.putfield 25, 3) := by decide +kernel
theorem dX1_init_49 : decode cX1_init 49 = .ok (.aload_n 0, 1) := by decide +kernel
theorem dX1_init_50 : decode cX1_init 50 = .ok (.iconst (-1), 1) := by decide +kernel
theorem dX1_init_51 : decode cX1_init 51 = .ok (.putfield 28, 3) := by decide +kernel
theorem dX1_init_54 : decode cX1_init 54 = .ok (.iconst 0, 1) := by decide +kernel
theorem dX1_init_55 : decode cX1_init 55 = .ok (.istore_n 1, 1) := by decide +kernel
theorem dX1_init_56 : decode cX1_init 56 = .ok (.iload_n 1, 1) := by decide +kernel
theorem dX1_init_57 : decode cX1_init 57 = .ok (.aload_n 0, 1) := by decide +kernel
theorem dX1_init_58 : decode cX1_init 58 = .ok (.getfield 9, 3) := by decide +kernel
theorem dX1_init_61 : decode cX1_init 61 = .ok (.arraylength, 1) := by decide +kernel
theorem dX1_init_62 : decode cX1_init 62 = .ok (.if_icmp .ge 17, 3) := by decide +kernel
theorem dX1_init_65 : decode cX1_init 65 = .ok (.aload_n 0, 1) := by decide +kernel
theorem dX1_init_66 : decode cX1_init 66 = .ok (.getfield 9, 3) := by decide +kernel
theorem dX1_init_69 : decode cX1_init 69 = .ok (.iload_n 1, 1) := by decide +kernel
theorem dX1_init_70 : decode cX1_init 70 = .ok (.bipush 35, 2) := by decide +kernel
theorem dX1_init_72 : decode cX1_init 72 = .ok (.castore, 1) := by decide +kernel
theorem dX1_init_73 : decode cX1_init 73 = .ok (.iinc 1 1, 3) := by decide +kernel
theorem dX1_init_76 : decode cX1_init 76 = .ok (.goto (-20), 3) := by decide +kernel
theorem dX1_init_79 : decode cX1_init 79 = .ok (.return_, 1) := by decide +kernel
theorem dX1_copy_0 : decode cX1_copy 0 = .ok (.aload_n 1, 1) := by decide +kernel
theorem dX1_copy_1 : decode cX1_copy 1 = .ok (.getfield 9, 3) := by decide +kernel
theorem dX1_copy_4 : decode cX1_copy 4 = .ok (.iconst 0, 1) := by decide +kernel
theorem dX1_copy_5 : decode cX1_copy 5 = .ok (.aload_n 0, 1) := by decide +kernel
theorem dX1_copy_6 : decode cX1_copy 6 = .ok (.getfield 9, 3) := by decide +kernel
theorem dX1_copy_9 : decode cX1_copy 9 = .ok (.iconst 0, 1) := by decide +kernel
theorem dX1_copy_10 : decode cX1_copy 10 = .ok (.aload_n 1, 1) := by decide +kernel
theorem dX1_copy_11 : decode cX1_copy 11 = .ok (.getfield 9, 3) := by decide +kernel
theorem dX1_copy_14 : decode cX1_copy 14 = .ok (.arraylength, 1) := by decide +kernel
theorem dX1_copy_15 : decode cX1_copy 15 = .ok (.aload_n 0, 1) := by decide +kernel
theorem dX1_copy_16 : decode cX1_copy 16 = .ok (.getfield 9, 3) := by decide +kernel
theorem dX1_copy_19 : decode cX1_copy 19 = .ok (.arraylength, 1) := by decide +kernel
theorem dX1_copy_20 : decode cX1_copy 20 = .ok (.invokestatic 32, 3) := by decide +kernel
theorem dX1_copy_23 : decode cX1_copy 23 = .ok (.invokestatic 38, 3) := by decide +kernel
theorem dX1_copy_26 : decode cX1_copy 26 = .ok (.aload_n 0, 1) := by decide +kernel
theorem dX1_copy_27 : decode cX1_copy 27 = .ok (.iconst (-1), 1) := by decide +kernel
theorem dX1_copy_28 : decode cX1_copy 28 = .ok (.putfield 28, 3) := by decide +kernel
theorem dX1_copy_31 : decode cX1_copy 31 = .ok (.return_, 1) := by decide +kernel
theorem dX1_signAt_0 : decode cX1_signAt 0 = .ok (.iload_n 1, 1) := by decide +kernel
theorem dX1_signAt_1 : decode cX1_signAt 1 = .ok (.ifCond .lt 21, 3) := by decide +kernel
theorem dX1_signAt_4 : decode cX1_signAt 4 = .ok (.iload_n 1, 1) := by decide +kernel
theorem dX1_signAt_5 : decode cX1_signAt 5 = .ok (.aload_n 0, 1) := by decide +kernel
theorem dX1_signAt_6 : decode cX1_signAt 6 = .ok (.getfield 9, 3) := by decide +kernel
theorem dX1_signAt_9 : decode cX1_signAt 9 = .ok (.arraylength, 1) := by decide +kernel
theorem dX1_signAt_10 : decode cX1_signAt 10 = .ok (.if_icmp .ge 12, 3) := by decide +kernel
theorem dX1_signAt_13 : decode cX1_signAt 13 = .ok (.aload_n 0, 1) := by decide +kernel
theorem dX1_signAt_14 : decode cX1_signAt 14 = .ok (.getfield 9, 3) := by decide +kernel
theorem dX1_signAt_17 : decode cX1_signAt 17 = .ok (.iload_n 1, 1) := by decide +kernel
theorem dX1_signAt_18 : decode cX1_signAt 18 = .ok (.caload, 1) := by decide +kernel
theorem dX1_signAt_19 : decode cX1_signAt 19 = .ok (.goto 5, 3) := by decide +kernel
theorem dX1_signAt_22 : decode cX1_signAt 22 = .ok (.bipush 35, 2) := by decide +kernel
theorem dX1_signAt_24 : decode cX1_signAt 24 = .ok (.ireturn, 1) := by decide +kernel
theorem dX1_change_0 : decode cX1_change 0 = .ok (.iload_n 1, 1) := by decide +kernel
theorem dX1_change_1 : decode cX1_change 1 = .ok (.ifCond .lt 19, 3) := by decide +kernel
theorem dX1_change_4 : decode cX1_change 4 = .ok (.iload_n 1, 1) := by decide +kernel
theorem dX1_change_5 : decode cX1_change 5 = .ok (.aload_n 0, 1) := by decide +kernel
theorem dX1_change_6 : decode cX1_change 6 = .ok (.getfield 9, 3) := by decide +kernel
theorem dX1_change_9 : decode cX1_change 9 = .ok (.arraylength, 1) := by decide +kernel
theorem dX1_change_10 : decode cX1_change 10 = .ok (.if_icmp .ge 10, 3) := by decide +kernel
theorem dX1_change_13 : decode cX1_change 13 = .ok (.aload_n 0, 1) := by decide +kernel
theorem dX1_change_14 : decode cX1_change 14 = .ok (.getfield 9, 3) := by decide +kernel
theorem dX1_change_17 : decode cX1_change 17 = .ok (.iload_n 1, 1) := by decide +kernel
theorem dX1_change_18 : decode cX1_change 18 = .ok (.iload_n 2, 1) := by decide +kernel
theorem dX1_change_19 : decode cX1_change 19 = .ok (.castore, 1) := by decide +kernel
theorem dX1_change_20 : decode cX1_change 20 = .ok (.aload_n 0, 1) := by decide +kernel
theorem dX1_change_21 : decode cX1_change 21 = .ok (.iconst (-1), 1) := by decide +kernel
theorem dX1_change_22 : decode cX1_change 22 = .ok (.putfield 28, 3) := by decide +kernel
theorem dX1_change_25 : decode cX1_change 25 = .ok (.return_, 1) := by decide +kernel
theorem dX1_isFreeAt_0 : decode cX1_isFreeAt 0 = .ok (.aload_n 0, 1) := by decide +kernel
theorem dX1_isFreeAt_1 : decode cX1_isFreeAt 1 = .ok (.iload_n 1, 1) := by decide +kernel
theorem dX1_isFreeAt_2 : decode cX1_isFreeAt 2 = .ok (.invokevirtual 44, 3) := by decide +kernel
theorem dX1_isFreeAt_5 : decode cX1_isFreeAt 5 = .ok (.invokestatic 48, 3) := by decide +kernel
theorem dX1_isFreeAt_8 : decode cX1_isFreeAt 8 = .ok (.ireturn, 1) := by decide +kernel
theorem dX1_seeEachOther_0 : decode cX1_seeEachOther 0 = .ok (.iload_n 1, 1) := by decide +kernel
theorem dX1_seeEachOther_1 : decode cX1_seeEachOther 1 = .ok (.bipush 12, 2) := by decide +kernel
theorem dX1_seeEachOther_3 : decode cX1_seeEachOther 3 = .ok (.idiv, 1) := by decide +kernel
theorem dX1_seeEachOther_4 : decode cX1_seeEachOther 4 = .ok (.istore_n 3, 1) := by decide +kernel
theorem dX1_seeEachOther_5 : decode cX1_seeEachOther 5 = .ok (.iload_n 1, 1) := by decide +kernel
theorem dX1_seeEachOther_6 : decode cX1_seeEachOther 6 = .ok (.bipush 12, 2) := by decide +kernel
theorem dX1_seeEachOther_8 : decode cX1_seeEachOther 8 = .ok (.irem, 1) := by decide +kernel
theorem dX1_seeEachOther_9 : decode cX1_seeEachOther 9 = .ok (.istore 4, 2) := by decide +kernel
theorem dX1_seeEachOther_11 : decode cX1_seeEachOther 11 = .ok (.iload_n 2, 1) := by decide +kernel
theorem dX1_seeEachOther_12 : decode cX1_seeEachOther 12 = .ok (.bipush 12, 2) := by decide +kernel
theorem dX1_seeEachOther_14 : decode cX1_seeEachOther 14 = .ok (.idiv, 1) := by decide +kernel
theorem dX1_seeEachOther_15 : decode cX1_seeEachOther 15 = .ok (.iload_n 3, 1) := by decide +kernel
theorem dX1_seeEachOther_16 : decode cX1_seeEachOther 16 = .ok (.isub, 1) := by decide +kernel
theorem dX1_seeEachOther_17 : decode cX1_seeEachOther 17 = .ok (.istore 5, 2) := by decide +kernel
theorem dX1_seeEachOther_19 : decode cX1_seeEachOther 19 = .ok (.iload_n 2, 1) := by decide +kernel
theorem dX1_seeEachOther_20 : decode cX1_seeEachOther 20 = .ok (.bipush 12, 2) := by decide +kernel
theorem dX1_seeEachOther_22 : decode cX1_seeEachOther 22 = .ok (.irem, 1) := by decide +kernel
theorem dX1_seeEachOther_23 : decode cX1_seeEachOther 23 = .ok (.iload 4, 2) := by decide +kernel
theorem dX1_seeEachOther_25 : decode cX1_seeEachOther 25 = .ok (.isub, 1) := by decide +kernel
theorem dX1_seeEachOther_26 : decode cX1_seeEachOther 26 = .ok (.istore 6, 2) := by decide +kernel
theorem dX1_seeEachOther_28 : decode cX1_seeEachOther 28 = .ok (.iload 5, 2) := by decide +kernel
theorem dX1_seeEachOther_30 : decode cX1_seeEachOther 30 = .ok (.invokestatic 52, 3) := by decide +kernel
theorem dX1_seeEachOther_33 : decode cX1_seeEachOther 33 = .ok (.iload 6, 2) := by decide +kernel
theorem dX1_seeEachOther_35 : decode cX1_seeEachOther 35 = .ok (.invokestatic 52, 3) := by decide +kernel
theorem dX1_seeEachOther_38 : decode cX1_seeEachOther 38 = .ok (.iadd, 1) := by decide +kernel
theorem dX1_seeEachOther_39 : decode cX1_seeEachOther 39 = .ok (.istore 7, 2) := by decide +kernel
theorem dX1_seeEachOther_41 : decode cX1_seeEachOther 41 = .ok (.iload_n 3, 1) := by decide +kernel
theorem dX1_seeEachOther_42 : decode cX1_seeEachOther 42 = .ok (.iload_n 3, 1) := by decide +kernel
theorem dX1_seeEachOther_43 : decode cX1_seeEachOther 43 = .ok (.iload 5, 2) := by decide +kernel
theorem dX1_seeEachOther_45 : decode cX1_seeEachOther 45 = .ok (.iadd, 1) := by decide +kernel
theorem dX1_seeEachOther_46 : decode cX1_seeEachOther 46 = .ok (.invokestatic 56, 3) := by decide +kernel
theorem dX1_seeEachOther_49 : decode cX1_seeEachOther 49 = .ok (.istore 8, 2) := by decide +kernel
theorem dX1_seeEachOther_51 : decode cX1_seeEachOther 51 = .ok (.iload 4, 2) := by decide +kernel
theorem dX1_seeEachOther_53 : decode cX1_seeEachOther 53 = .ok (.iload 4, 2) := by decide +kernel
theorem dX1_seeEachOther_55 : decode cX1_seeEachOther 55 = .ok (.iload 6, 2) := by decide +kernel
theorem dX1_seeEachOther_57 : decode cX1_seeEachOther 57 = .ok (.iadd, 1) := by decide +kernel
theorem dX1_seeEachOther_58 : decode cX1_seeEachOther 58 = .ok (.invokestatic 56, 3) := by decide +kernel
theorem dX1_seeEachOther_61 : decode cX1_seeEachOther 61 = .ok (.istore 9, 2) := by decide +kernel
theorem dX1_seeEachOther_63 : decode cX1_seeEachOther 63 = .ok (.iload_n 3, 1) := by decide +kernel
theorem dX1_seeEachOther_64 : decode cX1_seeEachOther 64 = .ok (.iload_n 3, 1) := by decide +kernel
theorem dX1_seeEachOther_65 : decode cX1_seeEachOther 65 = .ok (.iload 5, 2) := by decide +kernel
theorem dX1_seeEachOther_67 : decode cX1_seeEachOther 67 = .ok (.iadd, 1) := by decide +kernel
theorem dX1_seeEachOther_68 : decode cX1_seeEachOther 68 = .ok (.invokestatic 32, 3) := by decide +kernel
theorem dX1_seeEachOther_71 : decode cX1_seeEachOther 71 = .ok (.istore 10, 2) := by decide +kernel
theorem dX1_seeEachOther_73 : decode cX1_seeEachOther 73 = .ok (.iload 10, 2) := by decide +kernel
theorem dX1_seeEachOther_75 : decode cX1_seeEachOther 75 = .ok (.iload 8, 2) := by decide +kernel
theorem dX1_seeEachOther_77 : decode cX1_seeEachOther 77 = .ok (.if_icmp .gt 96, 3) := by decide +kernel
theorem dX1_seeEachOther_80 : decode cX1_seeEachOther 80 = .ok (.iload 4, 2) := by decide +kernel
theorem dX1_seeEachOther_82 : decode cX1_seeEachOther 82 = .ok (.iload 4, 2) := by decide +kernel
theorem dX1_seeEachOther_84 : decode cX1_seeEachOther 84 = .ok (.iload 6, 2) := by decide +kernel
theorem dX1_seeEachOther_86 : decode cX1_seeEachOther 86 = .ok (.iadd, 1) := by decide +kernel
theorem dX1_seeEachOther_87 : decode cX1_seeEachOther 87 = .ok (.invokestatic 32, 3) := by decide +kernel
theorem dX1_seeEachOther_90 : decode cX1_seeEachOther 90 = .ok (.istore 11, 2) := by decide +kernel
theorem dX1_seeEachOther_92 : decode cX1_seeEachOther 92 = .ok (.iload 11, 2) := by decide +kernel
theorem dX1_seeEachOther_94 : decode cX1_seeEachOther 94 = .ok (.iload 9, 2) := by decide +kernel
theorem dX1_seeEachOther_96 : decode cX1_seeEachOther 96 = .ok (.if_icmp .gt 71, 3) := by decide +kernel
theorem dX1_seeEachOther_99 : decode cX1_seeEachOther 99 = .ok (.iload 10, 2) := by decide +kernel
theorem dX1_seeEachOther_101 : decode cX1_seeEachOther 101 = .ok (.iload 11, 2) := by decide +kernel
theorem dX1_seeEachOther_103 : decode cX1_seeEachOther 103 = .ok (.invokestatic 59, 3) := by decide +kernel
theorem dX1_seeEachOther_106 : decode cX1_seeEachOther 106 = .ok (.istore 12, 2) := by decide +kernel
theorem dX1_seeEachOther_108 : decode cX1_seeEachOther 108 = .ok (.iload 5, 2) := by decide +kernel
theorem dX1_seeEachOther_110 : decode cX1_seeEachOther 110 = .ok (.iload 11, 2) := by decide +kernel
theorem dX1_seeEachOther_112 : decode cX1_seeEachOther 112 = .ok (.iload 4, 2) := by decide +kernel
theorem dX1_seeEachOther_114 : decode cX1_seeEachOther 114 = .ok (.isub, 1) := by decide +kernel
theorem dX1_seeEachOther_115 : decode cX1_seeEachOther 115 = .ok (.imul, 1) := by decide +kernel
theorem dX1_seeEachOther_116 : decode cX1_seeEachOther 116 = .ok (.iload 6, 2) := by decide +kernel
theorem dX1_seeEachOther_118 : decode cX1_seeEachOther 118 = .ok (.iload 10, 2) := by decide +kernel
theorem dX1_seeEachOther_120 : decode cX1_seeEachOther 120 = .ok (.iload_n 3, 1) := by decide +kernel
theorem dX1_seeEachOther_121 : decode cX1_seeEachOther 121 = .ok (.isub, 1) := by decide +kernel
theorem dX1_seeEachOther_122 : decode cX1_seeEachOther 122 = .ok (.imul, 1) := by decide +kernel
theorem dX1_seeEachOther_123 : decode cX1_seeEachOther 123 = .ok (.isub, 1) := by decide +kernel
theorem dX1_seeEachOther_124 : decode cX1_seeEachOther 124 = .ok (.invokestatic 52, 3) := by decide +kernel
theorem dX1_seeEachOther_127 : decode cX1_seeEachOther 127 = .ok (.istore 13, 2) := by decide +kernel
theorem dX1_seeEachOther_129 : decode cX1_seeEachOther 129 = .ok (.iconst 2, 1) := by decide +kernel
theorem dX1_seeEachOther_130 : decode cX1_seeEachOther 130 = .ok (.iload 13, 2) := by decide +kernel
theorem dX1_seeEachOther_132 : decode cX1_seeEachOther 132 = .ok (.imul, 1) := by decide +kernel
theorem dX1_seeEachOther_133 : decode cX1_seeEachOther 133 = .ok (.iload 7, 2) := by decide +kernel
theorem dX1_seeEachOther_135 : decode cX1_seeEachOther 135 = .ok (.if_icmp .ge 26, 3) := by decide +kernel
theorem dX1_seeEachOther_138 : decode cX1_seeEachOther 138 = .ok (.iload 12, 2) := by decide +kernel
theorem dX1_seeEachOther_140 : decode cX1_seeEachOther 140 = .ok (.iload_n 1, 1) := by decide +kernel
theorem dX1_seeEachOther_141 : decode cX1_seeEachOther 141 = .ok (.if_icmp .eq 20, 3) := by decide +kernel
theorem dX1_seeEachOther_144 : decode cX1_seeEachOther 144 = .ok (.iload 12, 2) := by decide +kernel
theorem dX1_seeEachOther_146 : decode cX1_seeEachOther 146 = .ok (.iload_n 2, 1) := by decide +kernel
theorem dX1_seeEachOther_147 : decode cX1_seeEachOther 147 = .ok (.if_icmp .eq 14, 3) := by decide +kernel
theorem dX1_seeEachOther_150 : decode cX1_seeEachOther 150 = .ok (.aload_n 0, 1) := by decide +kernel
theorem dX1_seeEachOther_151 : decode cX1_seeEachOther 151 = .ok (.iload 12, 2) := by decide +kernel
theorem dX1_seeEachOther_153 : decode cX1_seeEachOther 153 = .ok (.invokevirtual 62, 3) := by decide +kernel
theorem dX1_seeEachOther_156 : decode cX1_seeEachOther 156 = .ok (.ifCond .ne 5, 3) := by decide +kernel
theorem dX1_seeEachOther_159 : decode cX1_seeEachOther 159 = .ok (.iconst 0, 1) := by decide +kernel
theorem dX1_seeEachOther_160 : decode cX1_seeEachOther 160 = .ok (.ireturn, 1) := by decide +kernel
theorem dX1_seeEachOther_161 : decode cX1_seeEachOther 161 = .ok (.iinc 11 1, 3) := by decide +kernel
theorem dX1_seeEachOther_164 : decode cX1_seeEachOther 164 = .ok (.goto (-72), 3) := by decide +kernel
theorem dX1_seeEachOther_167 : decode cX1_seeEachOther 167 = .ok (.iinc 10 1, 3) := by decide +kernel
theorem dX1_seeEachOther_170 : decode cX1_seeEachOther 170 = .ok (.goto (-97), 3) := by decide +kernel
theorem dX1_seeEachOther_173 : decode cX1_seeEachOther 173 = .ok (.iconst 1, 1) := by decide +kernel
theorem dX1_seeEachOther_174 : decode cX1_seeEachOther 174 = .ok (.ireturn, 1) := by decide +kernel
theorem dX1_aimAt_0 : decode cX1_aimAt 0 = .ok (.aload_n 0, 1) := by decide +kernel
theorem dX1_aimAt_1 : decode cX1_aimAt 1 = .ok (.getfield 28, 3) := by decide +kernel
theorem dX1_aimAt_4 : decode cX1_aimAt 4 = .ok (.iload_n 1, 1) := by decide +kernel
theorem dX1_aimAt_5 : decode cX1_aimAt 5 = .ok (.if_icmp .eq 21, 3) := by decide +kernel
theorem dX1_aimAt_8 : decode cX1_aimAt 8 = .ok (.aload_n 0, 1) := by decide +kernel
theorem dX1_aimAt_9 : decode cX1_aimAt 9 = .ok (.aload_n 0, 1) := by decide +kernel
theorem dX1_aimAt_10 : decode cX1_aimAt 10 = .ok (.getfield 25, 3) := by decide +kernel
theorem dX1_aimAt_13 : decode cX1_aimAt 13 = .ok (.iload_n 1, 1) := by decide +kernel
theorem dX1_aimAt_14 : decode cX1_aimAt 14 = .ok (.iconst 1, 1) := by decide +kernel
theorem dX1_aimAt_15 : decode cX1_aimAt 15 = .ok (.iconst 0, 1) := by decide +kernel
theorem dX1_aimAt_16 : decode cX1_aimAt 16 = .ok (.ldc 66, 2) := by decide +kernel
theorem dX1_aimAt_18 : decode cX1_aimAt 18 = .ok (.invokevirtual 67, 3) := by decide +kernel
theorem dX1_aimAt_21 : decode cX1_aimAt 21 = .ok (.aload_n 0, 1) := by decide +kernel
theorem dX1_aimAt_22 : decode cX1_aimAt 22 = .ok (.iload_n 1, 1) := by decide +kernel
theorem dX1_aimAt_23 : decode cX1_aimAt 23 = .ok (.putfield 28, 3) := by decide +kernel
theorem dX1_aimAt_26 : decode cX1_aimAt 26 = .ok (.return_, 1) := by decide +kernel
theorem dX1_flood_0 : decode cX1_flood 0 = .ok (.aload_n 1, 1) := by decide +kernel
theorem dX1_flood_1 : decode cX1_flood 1 = .ok (.iconst (-1), 1) := by decide +kernel
theorem dX1_flood_2 : decode cX1_flood 2 = .ok (.invokestatic 71, 3) := by decide +kernel
theorem dX1_flood_5 : decode cX1_flood 5 = .ok (.aload_n 1, 1) := by decide +kernel
theorem dX1_flood_6 : decode cX1_flood 6 = .ok (.iload_n 2, 1) := by decide +kernel
theorem dX1_flood_7 : decode cX1_flood 7 = .ok (.iconst 0, 1) := by decide +kernel
theorem dX1_flood_8 : decode cX1_flood 8 = .ok (.invokestatic 77, 3) := by decide +kernel
theorem dX1_flood_11 : decode cX1_flood 11 = .ok (.aload_n 0, 1) := by decide +kernel
theorem dX1_flood_12 : decode cX1_flood 12 = .ok (.getfield 19, 3) := by decide +kernel
theorem dX1_flood_15 : decode cX1_flood 15 = .ok (.iload_n 2, 1) := by decide +kernel
theorem dX1_flood_16 : decode cX1_flood 16 = .ok (.iconst 0, 1) := by decide +kernel
theorem dX1_flood_17 : decode cX1_flood 17 = .ok (.invokestatic 77, 3) := by decide +kernel
theorem dX1_flood_20 : decode cX1_flood 20 = .ok (.aload_n 0, 1) := by decide +kernel
theorem dX1_flood_21 : decode cX1_flood 21 = .ok (.getfield 15, 3) := by decide +kernel
theorem dX1_flood_24 : decode cX1_flood 24 = .ok (.iconst 0, 1) := by decide +kernel
theorem dX1_flood_25 : decode cX1_flood 25 = .ok (.iload_n 2, 1) := by decide +kernel
theorem dX1_flood_26 : decode cX1_flood 26 = .ok (.invokestatic 77, 3) := by decide +kernel
theorem dX1_flood_29 : decode cX1_flood 29 = .ok (.iconst 1, 1) := by decide +kernel
theorem dX1_flood_30 : decode cX1_flood 30 = .ok (.istore 6, 2) := by decide +kernel
theorem dX1_flood_32 : decode cX1_flood 32 = .ok (.iconst 0, 1) := by decide +kernel
theorem dX1_flood_33 : decode cX1_flood 33 = .ok (.istore 7, 2) := by decide +kernel
theorem dX1_flood_35 : decode cX1_flood 35 = .ok (.iload 7, 2) := by decide +kernel
theorem dX1_flood_37 : decode cX1_flood 37 = .ok (.iload 6, 2) := by decide +kernel
theorem dX1_flood_39 : decode cX1_flood 39 = .ok (.if_icmp .ge 182, 3) := by decide +kernel
theorem dX1_flood_42 : decode cX1_flood 42 = .ok (.iload 7, 2) := by decide +kernel
theorem dX1_flood_44 : decode cX1_flood 44 = .ok (.aload_n 0, 1) := by decide +kernel
theorem dX1_flood_45 : decode cX1_flood 45 = .ok (.getfield 15, 3) := by decide +kernel
theorem dX1_flood_48 : decode cX1_flood 48 = .ok (.arraylength, 1) := by decide +kernel
theorem dX1_flood_49 : decode cX1_flood 49 = .ok (.if_icmp .ge 172, 3) := by decide +kernel
theorem dX1_flood_52 : decode cX1_flood 52 = .ok (.aload_n 0, 1) := by decide +kernel
theorem dX1_flood_53 : decode cX1_flood 53 = .ok (.getfield 15, 3) := by decide +kernel
theorem dX1_flood_56 : decode cX1_flood 56 = .ok (.iload 7, 2) := by decide +kernel
theorem dX1_flood_58 : decode cX1_flood 58 = .ok (.iaload, 1) := by decide +kernel
theorem dX1_flood_59 : decode cX1_flood 59 = .ok (.istore 8, 2) := by decide +kernel
theorem dX1_flood_61 : decode cX1_flood 61 = .ok (.aload_n 1, 1) := by decide +kernel
theorem dX1_flood_62 : decode cX1_flood 62 = .ok (.iload 8, 2) := by decide +kernel
theorem dX1_flood_64 : decode cX1_flood 64 = .ok (.invokestatic 81, 3) := by decide +kernel
theorem dX1_flood_67 : decode cX1_flood 67 = .ok (.istore 9, 2) := by decide +kernel
theorem dX1_flood_69 : decode cX1_flood 69 = .ok (.aload_n 0, 1) := by decide +kernel
theorem dX1_flood_70 : decode cX1_flood 70 = .ok (.getfield 19, 3) := by decide +kernel
theorem dX1_flood_73 : decode cX1_flood 73 = .ok (.iload 8, 2) := by decide +kernel
theorem dX1_flood_75 : decode cX1_flood 75 = .ok (.invokestatic 81, 3) := by decide +kernel
theorem dX1_flood_78 : decode cX1_flood 78 = .ok (.istore 10, 2) := by decide +kernel
theorem dX1_flood_80 : decode cX1_flood 80 = .ok (.iload 10, 2) := by decide +kernel
theorem dX1_flood_82 : decode cX1_flood 82 = .ok (.ifCond .le 30, 3) := by decide +kernel
theorem dX1_flood_85 : decode cX1_flood 85 = .ok (.aload_n 0, 1) := by decide +kernel
theorem dX1_flood_86 : decode cX1_flood 86 = .ok (.getfield 19, 3) := by decide +kernel
theorem dX1_flood_89 : decode cX1_flood 89 = .ok (.iload 8, 2) := by decide +kernel
theorem dX1_flood_91 : decode cX1_flood 91 = .ok (.iload 10, 2) := by decide +kernel
theorem dX1_flood_93 : decode cX1_flood 93 = .ok (.iconst 1, 1) := by decide +kernel
theorem dX1_flood_94 : decode cX1_flood 94 = .ok (.isub, 1) := by decide +kernel
theorem dX1_flood_95 : decode cX1_flood 95 = .ok (.invokestatic 77, 3) := by decide +kernel
theorem dX1_flood_98 : decode cX1_flood 98 = .ok (.aload_n 0, 1) := by decide +kernel
theorem dX1_flood_99 : decode cX1_flood 99 = .ok (.getfield 15, 3) := by decide +kernel
theorem dX1_flood_102 : decode cX1_flood 102 = .ok (.iload 6, 2) := by decide +kernel
theorem dX1_flood_104 : decode cX1_flood 104 = .ok (.iload 8, 2) := by decide +kernel
theorem dX1_flood_106 : decode cX1_flood 106 = .ok (.invokestatic 77, 3) := by decide +kernel
theorem dX1_flood_109 : decode cX1_flood 109 = .ok (.iinc 6 1, 3) := by decide +kernel
theorem dX1_flood_112 : decode cX1_flood 112 = .ok (.iconst 0, 1) := by decide +kernel
theorem dX1_flood_113 : decode cX1_flood 113 = .ok (.istore 11, 2) := by decide +kernel
theorem dX1_flood_115 : decode cX1_flood 115 = .ok (.iload 11, 2) := by decide +kernel
theorem dX1_flood_117 : decode cX1_flood 117 = .ok (.iconst 4, 1) := by decide +kernel
theorem dX1_flood_118 : decode cX1_flood 118 = .ok (.if_icmp .ge 97, 3) := by decide +kernel
theorem dX1_flood_121 : decode cX1_flood 121 = .ok (.iload 10, 2) := by decide +kernel
theorem dX1_flood_123 : decode cX1_flood 123 = .ok (.ifCond .ne 92, 3) := by decide +kernel
theorem dX1_flood_126 : decode cX1_flood 126 = .ok (.iload 9, 2) := by decide +kernel
theorem dX1_flood_128 : decode cX1_flood 128 = .ok (.iload 5, 2) := by decide +kernel
theorem dX1_flood_130 : decode cX1_flood 130 = .ok (.if_icmp .ge 85, 3) := by decide +kernel
theorem dX1_flood_133 : decode cX1_flood 133 = .ok (.iload 8, 2) := by decide +kernel
theorem dX1_flood_135 : decode cX1_flood 135 = .ok (.iload 11, 2) := by decide +kernel
theorem dX1_flood_137 : decode cX1_flood 137 = .ok (.invokestatic 85, 3) := by decide +kernel
theorem dX1_flood_140 : decode cX1_flood 140 = .ok (.istore 12, 2) := by decide +kernel
theorem dX1_flood_142 : decode cX1_flood 142 = .ok (.aload_n 0, 1) := by decide +kernel
theorem dX1_flood_143 : decode cX1_flood 143 = .ok (.iload 12, 2) := by decide +kernel
theorem dX1_flood_145 : decode cX1_flood 145 = .ok (.invokevirtual 44, 3) := by decide +kernel
theorem dX1_flood_148 : decode cX1_flood 148 = .ok (.iload_n 3, 1) := by decide +kernel
theorem dX1_flood_149 : decode cX1_flood 149 = .ok (.iload 4, 2) := by decide +kernel
theorem dX1_flood_151 : decode cX1_flood 151 = .ok (.invokestatic 88, 3) := by decide +kernel
theorem dX1_flood_154 : decode cX1_flood 154 = .ok (.istore 13, 2) := by decide +kernel
theorem dX1_flood_156 : decode cX1_flood 156 = .ok (.iload 13, 2) := by decide +kernel
theorem dX1_flood_158 : decode cX1_flood 158 = .ok (.ifCond .le 51, 3) := by decide +kernel
theorem dX1_flood_161 : decode cX1_flood 161 = .ok (.aload_n 1, 1) := by decide +kernel
theorem dX1_flood_162 : decode cX1_flood 162 = .ok (.iload 12, 2) := by decide +kernel
theorem dX1_flood_164 : decode cX1_flood 164 = .ok (.invokestatic 81, 3) := by decide +kernel
theorem dX1_flood_167 : decode cX1_flood 167 = .ok (.iconst (-1), 1) := by decide +kernel
theorem dX1_flood_168 : decode cX1_flood 168 = .ok (.if_icmp .ne 41, 3) := by decide +kernel
theorem dX1_flood_171 : decode cX1_flood 171 = .ok (.aload_n 1, 1) := by decide +kernel
theorem dX1_flood_172 : decode cX1_flood 172 = .ok (.iload 12, 2) := by decide +kernel
theorem dX1_flood_174 : decode cX1_flood 174 = .ok (.iload 9, 2) := by decide +kernel
theorem dX1_flood_176 : decode cX1_flood 176 = .ok (.iload 13, 2) := by decide +kernel
theorem dX1_flood_178 : decode cX1_flood 178 = .ok (.iadd, 1) := by decide +kernel
theorem dX1_flood_179 : decode cX1_flood 179 = .ok (.invokestatic 77, 3) := by decide +kernel
theorem dX1_flood_182 : decode cX1_flood 182 = .ok (.aload_n 0, 1) := by decide +kernel
theorem dX1_flood_183 : decode cX1_flood 183 = .ok (.getfield 19, 3) := by decide +kernel
theorem dX1_flood_186 : decode cX1_flood 186 = .ok (.iload 12, 2) := by decide +kernel
theorem dX1_flood_188 : decode cX1_flood 188 = .ok (.iload 13, 2) := by decide +kernel
theorem dX1_flood_190 : decode cX1_flood 190 = .ok (.iconst 1, 1) := by decide +kernel
theorem dX1_flood_191 : decode cX1_flood 191 = .ok (.isub, 1) := by decide +kernel
theorem dX1_flood_192 : decode cX1_flood 192 = .ok (.invokestatic 77, 3) := by decide +kernel
theorem dX1_flood_195 : decode cX1_flood 195 = .ok (.aload_n 0, 1) := by decide +kernel
theorem dX1_flood_196 : decode cX1_flood 196 = .ok (.getfield 15, 3) := by decide +kernel
theorem dX1_flood_199 : decode cX1_flood 199 = .ok (.iload 6, 2) := by decide +kernel
theorem dX1_flood_201 : decode cX1_flood 201 = .ok (.iload 12, 2) := by decide +kernel
theorem dX1_flood_203 : decode cX1_flood 203 = .ok (.invokestatic 77, 3) := by decide +kernel
theorem dX1_flood_206 : decode cX1_flood 206 = .ok (.iinc 6 1, 3) := by decide +kernel
theorem dX1_flood_209 : decode cX1_flood 209 = .ok (.iinc 11 1, 3) := by decide +kernel
theorem dX1_flood_212 : decode cX1_flood 212 = .ok (.goto (-97), 3) := by decide +kernel
theorem dX1_flood_215 : decode cX1_flood 215 = .ok (.iinc 7 1, 3) := by decide +kernel
theorem dX1_flood_218 : decode cX1_flood 218 = .ok (.goto (-183), 3) := by decide +kernel
theorem dX1_flood_221 : decode cX1_flood 221 = .ok (.return_, 1) := by decide +kernel
theorem dX1_tollOf_0 : decode cX1_tollOf 0 = .ok (.iload_n 0, 1) := by decide +kernel
theorem dX1_tollOf_1 : decode cX1_tollOf 1 = .ok (.lookupswitch 89 #[(43, 69), (46, 67), (47, 67), (48, 71), (49, 71), (50, 71), (126, 67)], 67) := by decide +kernel
theorem dX1_tollOf_68 : decode cX1_tollOf 68 = .ok (.iconst 1, 1) := by decide +kernel
theorem dX1_tollOf_69 : decode cX1_tollOf 69 = .ok (.ireturn, 1) := by decide +kernel
theorem dX1_tollOf_70 : decode cX1_tollOf 70 = .ok (.iload_n 1, 1) := by decide +kernel
theorem dX1_tollOf_71 : decode cX1_tollOf 71 = .ok (.ireturn, 1) := by decide +kernel
theorem dX1_tollOf_72 : decode cX1_tollOf 72 = .ok (.iload_n 2, 1) := by decide +kernel
theorem dX1_tollOf_73 : decode cX1_tollOf 73 = .ok (.iload_n 0, 1) := by decide +kernel
theorem dX1_tollOf_74 : decode cX1_tollOf 74 = .ok (.bipush 48, 2) := by decide +kernel
theorem dX1_tollOf_76 : decode cX1_tollOf 76 = .ok (.isub, 1) := by decide +kernel
theorem dX1_tollOf_77 : decode cX1_tollOf 77 = .ok (.ishr, 1) := by decide +kernel
theorem dX1_tollOf_78 : decode cX1_tollOf 78 = .ok (.iconst 1, 1) := by decide +kernel
theorem dX1_tollOf_79 : decode cX1_tollOf 79 = .ok (.iand, 1) := by decide +kernel
theorem dX1_tollOf_80 : decode cX1_tollOf 80 = .ok (.iconst 1, 1) := by decide +kernel
theorem dX1_tollOf_81 : decode cX1_tollOf 81 = .ok (.if_icmp .ne 7, 3) := by decide +kernel
theorem dX1_tollOf_84 : decode cX1_tollOf 84 = .ok (.iload_n 1, 1) := by decide +kernel
theorem dX1_tollOf_85 : decode cX1_tollOf 85 = .ok (.goto 4, 3) := by decide +kernel
theorem dX1_tollOf_88 : decode cX1_tollOf 88 = .ok (.iconst 0, 1) := by decide +kernel
theorem dX1_tollOf_89 : decode cX1_tollOf 89 = .ok (.ireturn, 1) := by decide +kernel
theorem dX1_tollOf_90 : decode cX1_tollOf 90 = .ok (.iconst 0, 1) := by decide +kernel
theorem dX1_tollOf_91 : decode cX1_tollOf 91 = .ok (.ireturn, 1) := by decide +kernel
theorem dX1_isLike_0 : decode cX1_isLike 0 = .ok (.iconst 0, 1) := by decide +kernel
theorem dX1_isLike_1 : decode cX1_isLike 1 = .ok (.istore_n 2, 1) := by decide +kernel
theorem dX1_isLike_2 : decode cX1_isLike 2 = .ok (.iload_n 2, 1) := by decide +kernel
theorem dX1_isLike_3 : decode cX1_isLike 3 = .ok (.sipush 144, 3) := by decide +kernel
theorem dX1_isLike_6 : decode cX1_isLike 6 = .ok (.if_icmp .ge 24, 3) := by decide +kernel
theorem dX1_isLike_9 : decode cX1_isLike 9 = .ok (.aload_n 0, 1) := by decide +kernel
theorem dX1_isLike_10 : decode cX1_isLike 10 = .ok (.iload_n 2, 1) := by decide +kernel
theorem dX1_isLike_11 : decode cX1_isLike 11 = .ok (.invokevirtual 44, 3) := by decide +kernel
theorem dX1_isLike_14 : decode cX1_isLike 14 = .ok (.aload_n 1, 1) := by decide +kernel
theorem dX1_isLike_15 : decode cX1_isLike 15 = .ok (.iload_n 2, 1) := by decide +kernel
theorem dX1_isLike_16 : decode cX1_isLike 16 = .ok (.invokevirtual 44, 3) := by decide +kernel
theorem dX1_isLike_19 : decode cX1_isLike 19 = .ok (.if_icmp .eq 5, 3) := by decide +kernel
theorem dX1_isLike_22 : decode cX1_isLike 22 = .ok (.iconst 0, 1) := by decide +kernel
theorem dX1_isLike_23 : decode cX1_isLike 23 = .ok (.ireturn, 1) := by decide +kernel
theorem dX1_isLike_24 : decode cX1_isLike 24 = .ok (.iinc 2 1, 3) := by decide +kernel
theorem dX1_isLike_27 : decode cX1_isLike 27 = .ok (.goto (-25), 3) := by decide +kernel
theorem dX1_isLike_30 : decode cX1_isLike 30 = .ok (.iconst 1, 1) := by decide +kernel
theorem dX1_isLike_31 : decode cX1_isLike 31 = .ok (.ireturn, 1) := by decide +kernel
theorem dX2_init_0 : decode cX2_init 0 = .ok (.aload_n 0, 1) := by decide +kernel
theorem dX2_init_1 : decode cX2_init 1 = .ok (.invokespecial 3, 3) := by decide +kernel
theorem dX2_init_4 : decode cX2_init 4 = .ok (.aload_n 0, 1) := by decide +kernel
theorem dX2_init_5 : decode cX2_init 5 = .ok (.bipush 8, 2) := by decide +kernel
theorem dX2_init_7 : decode cX2_init 7 = .ok (.newarray .int, 2) := by decide +kernel
theorem dX2_init_9 : decode cX2_init 9 = .ok (.putfield 9, 3) := by decide +kernel
theorem dX2_init_12 : decode cX2_init 12 = .ok (.aload_n 0, 1) := by decide +kernel
theorem dX2_init_13 : decode cX2_init 13 = .ok (.bipush 8, 2) := by decide +kernel
theorem dX2_init_15 : decode cX2_init 15 = .ok (.newarray .int, 2) := by decide +kernel
theorem dX2_init_17 : decode cX2_init 17 = .ok (.putfield 15, 3) := by decide +kernel
theorem dX2_init_20 : decode cX2_init 20 = .ok (.aload_n 0, 1) := by decide +kernel
theorem dX2_init_21 : decode cX2_init 21 = .ok (.bipush 8, 2) := by decide +kernel
theorem dX2_init_23 : decode cX2_init 23 = .ok (.newarray .int, 2) := by decide +kernel
theorem dX2_init_25 : decode cX2_init 25 = .ok (.putfield 18, 3) := by decide +kernel
theorem dX2_init_28 : decode cX2_init 28 = .ok (.aload_n 0, 1) := by decide +kernel
theorem dX2_init_29 : decode cX2_init 29 = .ok (.bipush 8, 2) := by decide +kernel
theorem dX2_init_31 : decode cX2_init 31 = .ok (.newarray .int, 2) := by decide +kernel
theorem dX2_init_33 : decode cX2_init 33 = .ok (.putfield 21, 3) := by decide +kernel
theorem dX2_init_36 : decode cX2_init 36 = .ok (.aload_n 0, 1) := by decide +kernel
theorem dX2_init_37 : decode cX2_init 37 = .ok (.bipush 8, 2) := by decide +kernel
theorem dX2_init_39 : decode cX2_init 39 = .ok (.newarray .int, 2) := by decide +kernel
theorem dX2_init_41 : decode cX2_init 41 = .ok (.putfield 24, 3) := by decide +kernel
theorem dX2_init_44 : decode cX2_init 44 = .ok (.aload_n 0, 1) := by decide +kernel
theorem dX2_init_45 : decode cX2_init 45 = .ok (.bipush 8, 2) := by decide +kernel
theorem dX2_init_47 : decode cX2_init 47 = .ok (.newarray .int, 2) := by decide +kernel
theorem dX2_init_49 : decode cX2_init 49 = .ok (.putfield 27, 3) := by decide +kernel
theorem dX2_init_52 : decode cX2_init 52 = .ok (.aload_n 0, 1) := by decide +kernel
theorem dX2_init_53 : decode cX2_init 53 = .ok (.bipush 8, 2) := by decide +kernel
theorem dX2_init_55 : decode cX2_init 55 = .ok (.newarray .int, 2) := by decide +kernel
theorem dX2_init_57 : decode cX2_init 57 = .ok (.putfield 30, 3) := by decide +kernel
theorem dX2_init_60 : decode cX2_init 60 = .ok (.aload_n 0, 1) := by decide +kernel
theorem dX2_init_61 : decode cX2_init 61 = .ok (.bipush 8, 2) := by decide +kernel
theorem dX2_init_63 : decode cX2_init 63 = .ok (.newarray .int, 2) := by decide +kernel
theorem dX2_init_65 : decode cX2_init 65 = .ok (.putfield 33, 3) := by decide +kernel
theorem dX2_init_68 : decode cX2_init 68 = .ok (.aload_n 0, 1) := by decide +kernel
theorem dX2_init_69 : decode cX2_init 69 = .ok (.bipush 8, 2) := by decide +kernel
theorem dX2_init_71 : decode cX2_init 71 = .ok (.newarray .int, 2) := by decide +kernel
theorem dX2_init_73 : decode cX2_init 73 = .ok (.putfield 36, 3) := by decide +kernel
theorem dX2_init_76 : decode cX2_init 76 = .ok (.aload_n 0, 1) := by decide +kernel
theorem dX2_init_77 : decode cX2_init 77 = .ok (.iconst 1, 1) := by decide +kernel
theorem dX2_init_78 : decode cX2_init 78 = .ok (.putfield 39, 3) := by decide +kernel
theorem dX2_init_81 : decode cX2_init 81 = .ok (.iconst 0, 1) := by decide +kernel
theorem dX2_init_82 : decode cX2_init 82 = .ok (.istore_n 1, 1) := by decide +kernel
theorem dX2_init_83 : decode cX2_init 83 = .ok (.iload_n 1, 1) := by decide +kernel
theorem dX2_init_84 : decode cX2_init 84 = .ok (.bipush 8, 2) := by decide +kernel
theorem dX2_init_86 : decode cX2_init 86 = .ok (.if_icmp .ge 18, 3) := by decide +kernel
theorem dX2_init_89 : decode cX2_init 89 = .ok (.aload_n 0, 1) := by decide +kernel
theorem dX2_init_90 : decode cX2_init 90 = .ok (.getfield 36, 3) := by decide +kernel
theorem dX2_init_93 : decode cX2_init 93 = .ok (.iload_n 1, 1) := by decide +kernel
theorem dX2_init_94 : decode cX2_init 94 = .ok (.iconst (-1), 1) := by decide +kernel
theorem dX2_init_95 : decode cX2_init 95 = .ok (.invokestatic 43, 3) := by decide +kernel
theorem dX2_init_98 : decode cX2_init 98 = .ok (.iinc 1 1, 3) := by decide +kernel
theorem dX2_init_101 : decode cX2_init 101 = .ok (.goto (-18), 3) := by decide +kernel
theorem dX2_init_104 : decode cX2_init 104 = .ok (.aload_n 0, 1) := by decide +kernel
theorem dX2_init_105 : decode cX2_init 105 = .ok (.getfield 15, 3) := by decide +kernel
theorem dX2_init_108 : decode cX2_init 108 = .ok (.iconst 0, 1) := by decide +kernel
theorem dX2_init_109 : decode cX2_init 109 = .ok (.bipush 12, 2) := by decide +kernel
theorem dX2_init_111 : decode cX2_init 111 = .ok (.invokestatic 43, 3) := by decide +kernel
theorem dX2_init_114 : decode cX2_init 114 = .ok (.aload_n 0, 1) := by decide +kernel
theorem dX2_init_115 : decode cX2_init 115 = .ok (.getfield 21, 3) := by decide +kernel
theorem dX2_init_118 : decode cX2_init 118 = .ok (.iconst 0, 1) := by decide +kernel
theorem dX2_init_119 : decode cX2_init 119 = .ok (.bipush 30, 2) := by decide +kernel
theorem dX2_init_121 : decode cX2_init 121 = .ok (.invokestatic 43, 3) := by decide +kernel
theorem dX2_init_124 : decode cX2_init 124 = .ok (.aload_n 0, 1) := by decide +kernel
theorem dX2_init_125 : decode cX2_init 125 = .ok (.getfield 24, 3) := by decide +kernel
theorem dX2_init_128 : decode cX2_init 128 = .ok (.iconst 0, 1) := by decide +kernel
theorem dX2_init_129 : decode cX2_init 129 = .ok (.bipush 30, 2) := by decide +kernel
theorem dX2_init_131 : decode cX2_init 131 = .ok (.invokestatic 43, 3) := by decide +kernel
theorem dX2_init_134 : decode cX2_init 134 = .ok (.return_, 1) := by decide +kernel
theorem dX2_copy_0 : decode cX2_copy 0 = .ok (.aload_n 1, 1) := by decide +kernel
theorem dX2_copy_1 : decode cX2_copy 1 = .ok (.getfield 9, 3) := by decide +kernel
theorem dX2_copy_4 : decode cX2_copy 4 = .ok (.aload_n 0, 1) := by decide +kernel
theorem dX2_copy_5 : decode cX2_copy 5 = .ok (.getfield 9, 3) := by decide +kernel
theorem dX2_copy_8 : decode cX2_copy 8 = .ok (.invokestatic 47, 3) := by decide +kernel
theorem dX2_copy_11 : decode cX2_copy 11 = .ok (.aload_n 1, 1) := by decide +kernel
theorem dX2_copy_12 : decode cX2_copy 12 = .ok (.getfield 15, 3) := by decide +kernel
theorem dX2_copy_15 : decode cX2_copy 15 = .ok (.aload_n 0, 1) := by decide +kernel
theorem dX2_copy_16 : decode cX2_copy 16 = .ok (.getfield 15, 3) := by decide +kernel
theorem dX2_copy_19 : decode cX2_copy 19 = .ok (.invokestatic 47, 3) := by decide +kernel
theorem dX2_copy_22 : decode cX2_copy 22 = .ok (.aload_n 1, 1) := by decide +kernel
theorem dX2_copy_23 : decode cX2_copy 23 = .ok (.getfield 18, 3) := by decide +kernel
theorem dX2_copy_26 : decode cX2_copy 26 = .ok (.aload_n 0, 1) := by decide +kernel
theorem dX2_copy_27 : decode cX2_copy 27 = .ok (.getfield 18, 3) := by decide +kernel
theorem dX2_copy_30 : decode cX2_copy 30 = .ok (.invokestatic 47, 3) := by decide +kernel
theorem dX2_copy_33 : decode cX2_copy 33 = .ok (.aload_n 1, 1) := by decide +kernel
theorem dX2_copy_34 : decode cX2_copy 34 = .ok (.getfield 21, 3) := by decide +kernel
theorem dX2_copy_37 : decode cX2_copy 37 = .ok (.aload_n 0, 1) := by decide +kernel
theorem dX2_copy_38 : decode cX2_copy 38 = .ok (.getfield 21, 3) := by decide +kernel
theorem dX2_copy_41 : decode cX2_copy 41 = .ok (.invokestatic 47, 3) := by decide +kernel
theorem dX2_copy_44 : decode cX2_copy 44 = .ok (.aload_n 1, 1) := by decide +kernel
theorem dX2_copy_45 : decode cX2_copy 45 = .ok (.getfield 24, 3) := by decide +kernel
theorem dX2_copy_48 : decode cX2_copy 48 = .ok (.aload_n 0, 1) := by decide +kernel
theorem dX2_copy_49 : decode cX2_copy 49 = .ok (.getfield 24, 3) := by decide +kernel
theorem dX2_copy_52 : decode cX2_copy 52 = .ok (.invokestatic 47, 3) := by decide +kernel
theorem dX2_copy_55 : decode cX2_copy 55 = .ok (.aload_n 1, 1) := by decide +kernel
theorem dX2_copy_56 : decode cX2_copy 56 = .ok (.getfield 27, 3) := by decide +kernel
theorem dX2_copy_59 : decode cX2_copy 59 = .ok (.aload_n 0, 1) := by decide +kernel
theorem dX2_copy_60 : decode cX2_copy 60 = .ok (.getfield 27, 3) := by decide +kernel
theorem dX2_copy_63 : decode cX2_copy 63 = .ok (.invokestatic 47, 3) := by decide +kernel
theorem dX2_copy_66 : decode cX2_copy 66 = .ok (.aload_n 1, 1) := by decide +kernel
theorem dX2_copy_67 : decode cX2_copy 67 = .ok (.getfield 30, 3) := by decide +kernel
theorem dX2_copy_70 : decode cX2_copy 70 = .ok (.aload_n 0, 1) := by decide +kernel
theorem dX2_copy_71 : decode cX2_copy 71 = .ok (.getfield 30, 3) := by decide +kernel
theorem dX2_copy_74 : decode cX2_copy 74 = .ok (.invokestatic 47, 3) := by decide +kernel
theorem dX2_copy_77 : decode cX2_copy 77 = .ok (.aload_n 1, 1) := by decide +kernel
theorem dX2_copy_78 : decode cX2_copy 78 = .ok (.getfield 33, 3) := by decide +kernel
theorem dX2_copy_81 : decode cX2_copy 81 = .ok (.aload_n 0, 1) := by decide +kernel
theorem dX2_copy_82 : decode cX2_copy 82 = .ok (.getfield 33, 3) := by decide +kernel
theorem dX2_copy_85 : decode cX2_copy 85 = .ok (.invokestatic 47, 3) := by decide +kernel
theorem dX2_copy_88 : decode cX2_copy 88 = .ok (.aload_n 1, 1) := by decide +kernel
theorem dX2_copy_89 : decode cX2_copy 89 = .ok (.getfield 36, 3) := by decide +kernel
theorem dX2_copy_92 : decode cX2_copy 92 = .ok (.aload_n 0, 1) := by decide +kernel
theorem dX2_copy_93 : decode cX2_copy 93 = .ok (.getfield 36, 3) := by decide +kernel
theorem dX2_copy_96 : decode cX2_copy 96 = .ok (.invokestatic 47, 3) := by decide +kernel
theorem dX2_copy_99 : decode cX2_copy 99 = .ok (.aload_n 0, 1) := by decide +kernel
theorem dX2_copy_100 : decode cX2_copy 100 = .ok (.aload_n 1, 1) := by decide +kernel
theorem dX2_copy_101 : decode cX2_copy 101 = .ok (.getfield 39, 3) := by decide +kernel
theorem dX2_copy_104 : decode cX2_copy 104 = .ok (.putfield 39, 3) := by decide +kernel
theorem dX2_copy_107 : decode cX2_copy 107 = .ok (.return_, 1) := by decide +kernel
theorem dX2_tell_0 : decode cX2_tell 0 = .ok (.aload_n 0, 1) := by decide +kernel
theorem dX2_tell_1 : decode cX2_tell 1 = .ok (.getfield 9, 3) := by decide +kernel
theorem dX2_tell_4 : decode cX2_tell 4 = .ok (.iload_n 1, 1) := by decide +kernel
theorem dX2_tell_5 : decode cX2_tell 5 = .ok (.iload_n 2, 1) := by decide +kernel
theorem dX2_tell_6 : decode cX2_tell 6 = .ok (.invokestatic 43, 3) := by decide +kernel
theorem dX2_tell_9 : decode cX2_tell 9 = .ok (.aload_n 0, 1) := by decide +kernel
theorem dX2_tell_10 : decode cX2_tell 10 = .ok (.getfield 15, 3) := by decide +kernel
theorem dX2_tell_13 : decode cX2_tell 13 = .ok (.iload_n 1, 1) := by decide +kernel
theorem dX2_tell_14 : decode cX2_tell 14 = .ok (.iload_n 3, 1) := by decide +kernel
theorem dX2_tell_15 : decode cX2_tell 15 = .ok (.invokestatic 43, 3) := by decide +kernel
theorem dX2_tell_18 : decode cX2_tell 18 = .ok (.aload_n 0, 1) := by decide +kernel
theorem dX2_tell_19 : decode cX2_tell 19 = .ok (.getfield 18, 3) := by decide +kernel
theorem dX2_tell_22 : decode cX2_tell 22 = .ok (.iload_n 1, 1) := by decide +kernel
theorem dX2_tell_23 : decode cX2_tell 23 = .ok (.iload 4, 2) := by decide +kernel
theorem dX2_tell_25 : decode cX2_tell 25 = .ok (.invokestatic 43, 3) := by decide +kernel
theorem dX2_tell_28 : decode cX2_tell 28 = .ok (.aload_n 0, 1) := by decide +kernel
theorem dX2_tell_29 : decode cX2_tell 29 = .ok (.getfield 21, 3) := by decide +kernel
theorem dX2_tell_32 : decode cX2_tell 32 = .ok (.iload_n 1, 1) := by decide +kernel
theorem dX2_tell_33 : decode cX2_tell 33 = .ok (.iload 5, 2) := by decide +kernel
theorem dX2_tell_35 : decode cX2_tell 35 = .ok (.invokestatic 43, 3) := by decide +kernel
theorem dX2_tell_38 : decode cX2_tell 38 = .ok (.aload_n 0, 1) := by decide +kernel
theorem dX2_tell_39 : decode cX2_tell 39 = .ok (.getfield 24, 3) := by decide +kernel
theorem dX2_tell_42 : decode cX2_tell 42 = .ok (.iload_n 1, 1) := by decide +kernel
theorem dX2_tell_43 : decode cX2_tell 43 = .ok (.iload 5, 2) := by decide +kernel
theorem dX2_tell_45 : decode cX2_tell 45 = .ok (.invokestatic 43, 3) := by decide +kernel
theorem dX2_tell_48 : decode cX2_tell 48 = .ok (.return_, 1) := by decide +kernel
theorem dX2_lives_0 : decode cX2_lives 0 = .ok (.aload_n 0, 1) := by decide +kernel
theorem dX2_lives_1 : decode cX2_lives 1 = .ok (.getfield 24, 3) := by decide +kernel
theorem dX2_lives_4 : decode cX2_lives 4 = .ok (.iload_n 1, 1) := by decide +kernel
theorem dX2_lives_5 : decode cX2_lives 5 = .ok (.invokestatic 51, 3) := by decide +kernel
theorem dX2_lives_8 : decode cX2_lives 8 = .ok (.ifCond .le 7, 3) := by decide +kernel
theorem dX2_lives_11 : decode cX2_lives 11 = .ok (.iconst 1, 1) := by decide +kernel
theorem dX2_lives_12 : decode cX2_lives 12 = .ok (.goto 4, 3) := by decide +kernel
theorem dX2_lives_15 : decode cX2_lives 15 = .ok (.iconst 0, 1) := by decide +kernel
theorem dX2_lives_16 : decode cX2_lives 16 = .ok (.ireturn, 1) := by decide +kernel
theorem dX2_livingAt_0 : decode cX2_livingAt 0 = .ok (.iconst 0, 1) := by decide +kernel
theorem dX2_livingAt_1 : decode cX2_livingAt 1 = .ok (.istore_n 2, 1) := by decide +kernel
theorem dX2_livingAt_2 : decode cX2_livingAt 2 = .ok (.iload_n 2, 1) := by decide +kernel
theorem dX2_livingAt_3 : decode cX2_livingAt 3 = .ok (.aload_n 0, 1) := by decide +kernel
theorem dX2_livingAt_4 : decode cX2_livingAt 4 = .ok (.getfield 39, 3) := by decide +kernel
theorem dX2_livingAt_7 : decode cX2_livingAt 7 = .ok (.if_icmp .ge 34, 3) := by decide +kernel
theorem dX2_livingAt_10 : decode cX2_livingAt 10 = .ok (.aload_n 0, 1) := by decide +kernel
theorem dX2_livingAt_11 : decode cX2_livingAt 11 = .ok (.getfield 24, 3) := by decide +kernel
theorem dX2_livingAt_14 : decode cX2_livingAt 14 = .ok (.iload_n 2, 1) := by decide +kernel
theorem dX2_livingAt_15 : decode cX2_livingAt 15 = .ok (.invokestatic 51, 3) := by decide +kernel
theorem dX2_livingAt_18 : decode cX2_livingAt 18 = .ok (.ifCond .le 17, 3) := by decide +kernel
theorem dX2_livingAt_21 : decode cX2_livingAt 21 = .ok (.aload_n 0, 1) := by decide +kernel
theorem dX2_livingAt_22 : decode cX2_livingAt 22 = .ok (.getfield 9, 3) := by decide +kernel
theorem dX2_livingAt_25 : decode cX2_livingAt 25 = .ok (.iload_n 2, 1) := by decide +kernel
theorem dX2_livingAt_26 : decode cX2_livingAt 26 = .ok (.invokestatic 51, 3) := by decide +kernel
theorem dX2_livingAt_29 : decode cX2_livingAt 29 = .ok (.iload_n 1, 1) := by decide +kernel
theorem dX2_livingAt_30 : decode cX2_livingAt 30 = .ok (.if_icmp .ne 5, 3) := by decide +kernel
theorem dX2_livingAt_33 : decode cX2_livingAt 33 = .ok (.iload_n 2, 1) := by decide +kernel
theorem dX2_livingAt_34 : decode cX2_livingAt 34 = .ok (.ireturn, 1) := by decide +kernel
theorem dX2_livingAt_35 : decode cX2_livingAt 35 = .ok (.iinc 2 1, 3) := by decide +kernel
theorem dX2_livingAt_38 : decode cX2_livingAt 38 = .ok (.goto (-36), 3) := by decide +kernel
theorem dX2_livingAt_41 : decode cX2_livingAt 41 = .ok (.iconst (-1), 1) := by decide +kernel
theorem dX2_livingAt_42 : decode cX2_livingAt 42 = .ok (.ireturn, 1) := by decide +kernel
theorem dX2_allStandApart_0 : decode cX2_allStandApart 0 = .ok (.iconst 0, 1) := by decide +kernel
theorem dX2_allStandApart_1 : decode cX2_allStandApart 1 = .ok (.istore_n 1, 1) := by decide +kernel
theorem dX2_allStandApart_2 : decode cX2_allStandApart 2 = .ok (.iload_n 1, 1) := by decide +kernel
theorem dX2_allStandApart_3 : decode cX2_allStandApart 3 = .ok (.aload_n 0, 1) := by decide +kernel
theorem dX2_allStandApart_4 : decode cX2_allStandApart 4 = .ok (.getfield 39, 3) := by decide +kernel
theorem dX2_allStandApart_7 : decode cX2_allStandApart 7 = .ok (.if_icmp .ge 27, 3) := by decide +kernel
theorem dX2_allStandApart_10 : decode cX2_allStandApart 10 = .ok (.aload_n 0, 1) := by decide +kernel
theorem dX2_allStandApart_11 : decode cX2_allStandApart 11 = .ok (.aload_n 0, 1) := by decide +kernel
theorem dX2_allStandApart_12 : decode cX2_allStandApart 12 = .ok (.getfield 9, 3) := by decide +kernel
theorem dX2_allStandApart_15 : decode cX2_allStandApart 15 = .ok (.iload_n 1, 1) := by decide +kernel
theorem dX2_allStandApart_16 : decode cX2_allStandApart 16 = .ok (.invokestatic 51, 3) := by decide +kernel
theorem dX2_allStandApart_19 : decode cX2_allStandApart 19 = .ok (.invokevirtual 65, 3) := by decide +kernel
theorem dX2_allStandApart_22 : decode cX2_allStandApart 22 = .ok (.iload_n 1, 1) := by decide +kernel
theorem dX2_allStandApart_23 : decode cX2_allStandApart 23 = .ok (.if_icmp .eq 5, 3) := by decide +kernel
theorem dX2_allStandApart_26 : decode cX2_allStandApart 26 = .ok (.iconst 0, 1) := by decide +kernel
theorem dX2_allStandApart_27 : decode cX2_allStandApart 27 = .ok (.ireturn, 1) := by decide +kernel
theorem dX2_allStandApart_28 : decode cX2_allStandApart 28 = .ok (.iinc 1 1, 3) := by decide +kernel
theorem dX2_allStandApart_31 : decode cX2_allStandApart 31 = .ok (.goto (-29), 3) := by decide +kernel
theorem dX2_allStandApart_34 : decode cX2_allStandApart 34 = .ok (.iconst 1, 1) := by decide +kernel
theorem dX2_allStandApart_35 : decode cX2_allStandApart 35 = .ok (.ireturn, 1) := by decide +kernel
theorem dX2_isWeak_0 : decode cX2_isWeak 0 = .ok (.iconst 3, 1) := by decide +kernel
theorem dX2_isWeak_1 : decode cX2_isWeak 1 = .ok (.aload_n 0, 1) := by decide +kernel
theorem dX2_isWeak_2 : decode cX2_isWeak 2 = .ok (.getfield 24, 3) := by decide +kernel
theorem dX2_isWeak_5 : decode cX2_isWeak 5 = .ok (.iload_n 1, 1) := by decide +kernel
theorem dX2_isWeak_6 : decode cX2_isWeak 6 = .ok (.invokestatic 51, 3) := by decide +kernel
theorem dX2_isWeak_9 : decode cX2_isWeak 9 = .ok (.imul, 1) := by decide +kernel
theorem dX2_isWeak_10 : decode cX2_isWeak 10 = .ok (.aload_n 0, 1) := by decide +kernel
theorem dX2_isWeak_11 : decode cX2_isWeak 11 = .ok (.getfield 21, 3) := by decide +kernel
theorem dX2_isWeak_14 : decode cX2_isWeak 14 = .ok (.iload_n 1, 1) := by decide +kernel
theorem dX2_isWeak_15 : decode cX2_isWeak 15 = .ok (.invokestatic 51, 3) := by decide +kernel
theorem dX2_isWeak_18 : decode cX2_isWeak 18 = .ok (.if_icmp .ge 7, 3) := by decide +kernel
theorem dX2_isWeak_21 : decode cX2_isWeak 21 = .ok (.iconst 1, 1) := by decide +kernel
theorem dX2_isWeak_22 : decode cX2_isWeak 22 = .ok (.goto 4, 3) := by decide +kernel
theorem dX2_isWeak_25 : decode cX2_isWeak 25 = .ok (.iconst 0, 1) := by decide +kernel
theorem dX2_isWeak_26 : decode cX2_isWeak 26 = .ok (.ireturn, 1) := by decide +kernel
theorem dX2_harm_0 : decode cX2_harm 0 = .ok (.aload_n 0, 1) := by decide +kernel
theorem dX2_harm_1 : decode cX2_harm 1 = .ok (.getfield 24, 3) := by decide +kernel
theorem dX2_harm_4 : decode cX2_harm 4 = .ok (.iload_n 1, 1) := by decide +kernel
theorem dX2_harm_5 : decode cX2_harm 5 = .ok (.aload_n 0, 1) := by decide +kernel
theorem dX2_harm_6 : decode cX2_harm 6 = .ok (.getfield 24, 3) := by decide +kernel
theorem dX2_harm_9 : decode cX2_harm 9 = .ok (.iload_n 1, 1) := by decide +kernel
theorem dX2_harm_10 : decode cX2_harm 10 = .ok (.invokestatic 51, 3) := by decide +kernel
theorem dX2_harm_13 : decode cX2_harm 13 = .ok (.iload_n 2, 1) := by decide +kernel
theorem dX2_harm_14 : decode cX2_harm 14 = .ok (.isub, 1) := by decide +kernel
theorem dX2_harm_15 : decode cX2_harm 15 = .ok (.invokestatic 43, 3) := by decide +kernel
theorem dX2_harm_18 : decode cX2_harm 18 = .ok (.return_, 1) := by decide +kernel
theorem dX2_heal_0 : decode cX2_heal 0 = .ok (.aload_n 0, 1) := by decide +kernel
theorem dX2_heal_1 : decode cX2_heal 1 = .ok (.getfield 24, 3) := by decide +kernel
theorem dX2_heal_4 : decode cX2_heal 4 = .ok (.iload_n 1, 1) := by decide +kernel
theorem dX2_heal_5 : decode cX2_heal 5 = .ok (.aload_n 0, 1) := by decide +kernel
theorem dX2_heal_6 : decode cX2_heal 6 = .ok (.getfield 21, 3) := by decide +kernel
theorem dX2_heal_9 : decode cX2_heal 9 = .ok (.iload_n 1, 1) := by decide +kernel
theorem dX2_heal_10 : decode cX2_heal 10 = .ok (.invokestatic 51, 3) := by decide +kernel
theorem dX2_heal_13 : decode cX2_heal 13 = .ok (.aload_n 0, 1) := by decide +kernel
theorem dX2_heal_14 : decode cX2_heal 14 = .ok (.getfield 24, 3) := by decide +kernel
theorem dX2_heal_17 : decode cX2_heal 17 = .ok (.iload_n 1, 1) := by decide +kernel
theorem dX2_heal_18 : decode cX2_heal 18 = .ok (.invokestatic 51, 3) := by decide +kernel
theorem dX2_heal_21 : decode cX2_heal 21 = .ok (.iload_n 2, 1) := by decide +kernel
theorem dX2_heal_22 : decode cX2_heal 22 = .ok (.iadd, 1) := by decide +kernel
theorem dX2_heal_23 : decode cX2_heal 23 = .ok (.invokestatic 69, 3) := by decide +kernel
theorem dX2_heal_26 : decode cX2_heal 26 = .ok (.invokestatic 43, 3) := by decide +kernel
theorem dX2_heal_29 : decode cX2_heal 29 = .ok (.return_, 1) := by decide +kernel
theorem dX2_hasten_0 : decode cX2_hasten 0 = .ok (.aload_n 0, 1) := by decide +kernel
theorem dX2_hasten_1 : decode cX2_hasten 1 = .ok (.getfield 30, 3) := by decide +kernel
theorem dX2_hasten_4 : decode cX2_hasten 4 = .ok (.iload_n 1, 1) := by decide +kernel
theorem dX2_hasten_5 : decode cX2_hasten 5 = .ok (.iload_n 2, 1) := by decide +kernel
theorem dX2_hasten_6 : decode cX2_hasten 6 = .ok (.invokestatic 43, 3) := by decide +kernel
theorem dX2_hasten_9 : decode cX2_hasten 9 = .ok (.aload_n 0, 1) := by decide +kernel
theorem dX2_hasten_10 : decode cX2_hasten 10 = .ok (.getfield 33, 3) := by decide +kernel
theorem dX2_hasten_13 : decode cX2_hasten 13 = .ok (.iload_n 1, 1) := by decide +kernel
theorem dX2_hasten_14 : decode cX2_hasten 14 = .ok (.bipush 12, 2) := by decide +kernel
theorem dX2_hasten_16 : decode cX2_hasten 16 = .ok (.invokestatic 43, 3) := by decide +kernel
theorem dX2_hasten_19 : decode cX2_hasten 19 = .ok (.return_, 1) := by decide +kernel
theorem dX2_gainEnergy_0 : decode cX2_gainEnergy 0 = .ok (.iconst 0, 1) := by decide +kernel
theorem dX2_gainEnergy_1 : decode cX2_gainEnergy 1 = .ok (.istore_n 1, 1) := by decide +kernel
theorem dX2_gainEnergy_2 : decode cX2_gainEnergy 2 = .ok (.iload_n 1, 1) := by decide +kernel
theorem dX2_gainEnergy_3 : decode cX2_gainEnergy 3 = .ok (.aload_n 0, 1) := by decide +kernel
theorem dX2_gainEnergy_4 : decode cX2_gainEnergy 4 = .ok (.getfield 39, 3) := by decide +kernel
theorem dX2_gainEnergy_7 : decode cX2_gainEnergy 7 = .ok (.if_icmp .ge 88, 3) := by decide +kernel
theorem dX2_gainEnergy_10 : decode cX2_gainEnergy 10 = .ok (.aload_n 0, 1) := by decide +kernel
theorem dX2_gainEnergy_11 : decode cX2_gainEnergy 11 = .ok (.iload_n 1, 1) := by decide +kernel
theorem dX2_gainEnergy_12 : decode cX2_gainEnergy 12 = .ok (.invokevirtual 55, 3) := by decide +kernel
theorem dX2_gainEnergy_15 : decode cX2_gainEnergy 15 = .ok (.ifCond .eq 52, 3) := by decide +kernel
theorem dX2_gainEnergy_18 : decode cX2_gainEnergy 18 = .ok (.aload_n 0, 1) := by decide +kernel
theorem dX2_gainEnergy_19 : decode cX2_gainEnergy 19 = .ok (.getfield 33, 3) := by decide +kernel
theorem dX2_gainEnergy_22 : decode cX2_gainEnergy 22 = .ok (.iload_n 1, 1) := by decide +kernel
theorem dX2_gainEnergy_23 : decode cX2_gainEnergy 23 = .ok (.invokestatic 51, 3) := by decide +kernel
theorem dX2_gainEnergy_26 : decode cX2_gainEnergy 26 = .ok (.ifCond .le 14, 3) := by decide +kernel
theorem dX2_gainEnergy_29 : decode cX2_gainEnergy 29 = .ok (.aload_n 0, 1) := by decide +kernel
theorem dX2_gainEnergy_30 : decode cX2_gainEnergy 30 = .ok (.getfield 30, 3) := by decide +kernel
theorem dX2_gainEnergy_33 : decode cX2_gainEnergy 33 = .ok (.iload_n 1, 1) := by decide +kernel
theorem dX2_gainEnergy_34 : decode cX2_gainEnergy 34 = .ok (.invokestatic 51, 3) := by decide +kernel
theorem dX2_gainEnergy_37 : decode cX2_gainEnergy 37 = .ok (.goto 11, 3) := by decide +kernel
theorem dX2_gainEnergy_40 : decode cX2_gainEnergy 40 = .ok (.aload_n 0, 1) := by decide +kernel
theorem dX2_gainEnergy_41 : decode cX2_gainEnergy 41 = .ok (.getfield 15, 3) := by decide +kernel
theorem dX2_gainEnergy_44 : decode cX2_gainEnergy 44 = .ok (.iload_n 1, 1) := by decide +kernel
theorem dX2_gainEnergy_45 : decode cX2_gainEnergy 45 = .ok (.invokestatic 51, 3) := by decide +kernel
theorem dX2_gainEnergy_48 : decode cX2_gainEnergy 48 = .ok (.istore_n 2, 1) := by decide +kernel
theorem dX2_gainEnergy_49 : decode cX2_gainEnergy 49 = .ok (.aload_n 0, 1) := by decide +kernel
theorem dX2_gainEnergy_50 : decode cX2_gainEnergy 50 = .ok (.getfield 27, 3) := by decide +kernel
theorem dX2_gainEnergy_53 : decode cX2_gainEnergy 53 = .ok (.iload_n 1, 1) := by decide +kernel
theorem dX2_gainEnergy_54 : decode cX2_gainEnergy 54 = .ok (.aload_n 0, 1) := by decide +kernel
theorem dX2_gainEnergy_55 : decode cX2_gainEnergy 55 = .ok (.getfield 27, 3) := by decide +kernel
theorem dX2_gainEnergy_58 : decode cX2_gainEnergy 58 = .ok (.iload_n 1, 1) := by decide +kernel
theorem dX2_gainEnergy_59 : decode cX2_gainEnergy 59 = .ok (.invokestatic 51, 3) := by decide +kernel
theorem dX2_gainEnergy_62 : decode cX2_gainEnergy 62 = .ok (.iload_n 2, 1) := by decide +kernel
theorem dX2_gainEnergy_63 : decode cX2_gainEnergy 63 = .ok (.iadd, 1) := by decide +kernel
theorem dX2_gainEnergy_64 : decode cX2_gainEnergy 64 = .ok (.invokestatic 43, 3) := by decide +kernel
theorem dX2_gainEnergy_67 : decode cX2_gainEnergy 67 = .ok (.aload_n 0, 1) := by decide +kernel
theorem dX2_gainEnergy_68 : decode cX2_gainEnergy 68 = .ok (.getfield 33, 3) := by decide +kernel
theorem dX2_gainEnergy_71 : decode cX2_gainEnergy 71 = .ok (.iload_n 1, 1) := by decide +kernel
theorem dX2_gainEnergy_72 : decode cX2_gainEnergy 72 = .ok (.iconst 0, 1) := by decide +kernel
theorem dX2_gainEnergy_73 : decode cX2_gainEnergy 73 = .ok (.aload_n 0, 1) := by decide +kernel
theorem dX2_gainEnergy_74 : decode cX2_gainEnergy 74 = .ok (.getfield 33, 3) := by decide +kernel
theorem dX2_gainEnergy_77 : decode cX2_gainEnergy 77 = .ok (.iload_n 1, 1) := by decide +kernel
theorem dX2_gainEnergy_78 : decode cX2_gainEnergy 78 = .ok (.invokestatic 51, 3) := by decide +kernel
theorem dX2_gainEnergy_81 : decode cX2_gainEnergy 81 = .ok (.iconst 1, 1) := by decide +kernel
theorem dX2_gainEnergy_82 : decode cX2_gainEnergy 82 = .ok (.isub, 1) := by decide +kernel
theorem dX2_gainEnergy_83 : decode cX2_gainEnergy 83 = .ok (.invokestatic 59, 3) := by decide +kernel
theorem dX2_gainEnergy_86 : decode cX2_gainEnergy 86 = .ok (.invokestatic 43, 3) := by decide +kernel
theorem dX2_gainEnergy_89 : decode cX2_gainEnergy 89 = .ok (.iinc 1 1, 3) := by decide +kernel
theorem dX2_gainEnergy_92 : decode cX2_gainEnergy 92 = .ok (.goto (-90), 3) := by decide +kernel
theorem dX2_gainEnergy_95 : decode cX2_gainEnergy 95 = .ok (.return_, 1) := by decide +kernel
theorem dX2_spendTurn_0 : decode cX2_spendTurn 0 = .ok (.aload_n 0, 1) := by decide +kernel
theorem dX2_spendTurn_1 : decode cX2_spendTurn 1 = .ok (.getfield 27, 3) := by decide +kernel
theorem dX2_spendTurn_4 : decode cX2_spendTurn 4 = .ok (.iload_n 1, 1) := by decide +kernel
theorem dX2_spendTurn_5 : decode cX2_spendTurn 5 = .ok (.aload_n 0, 1) := by decide +kernel
theorem dX2_spendTurn_6 : decode cX2_spendTurn 6 = .ok (.getfield 27, 3) := by decide +kernel
theorem dX2_spendTurn_9 : decode cX2_spendTurn 9 = .ok (.iload_n 1, 1) := by decide +kernel
theorem dX2_spendTurn_10 : decode cX2_spendTurn 10 = .ok (.invokestatic 51, 3) := by decide +kernel
theorem dX2_spendTurn_13 : decode cX2_spendTurn 13 = .ok (.bipush 12, 2) := by decide +kernel
theorem dX2_spendTurn_15 : decode cX2_spendTurn 15 = .ok (.isub, 1) := by decide +kernel
theorem dX2_spendTurn_16 : decode cX2_spendTurn 16 = .ok (.invokestatic 43, 3) := by decide +kernel
theorem dX2_spendTurn_19 : decode cX2_spendTurn 19 = .ok (.return_, 1) := by decide +kernel
theorem dX2_nextToAct_0 : decode cX2_nextToAct 0 = .ok (.iconst (-1), 1) := by decide +kernel
theorem dX2_nextToAct_1 : decode cX2_nextToAct 1 = .ok (.istore_n 1, 1) := by decide +kernel
theorem dX2_nextToAct_2 : decode cX2_nextToAct 2 = .ok (.bipush 11, 2) := by decide +kernel
theorem dX2_nextToAct_4 : decode cX2_nextToAct 4 = .ok (.istore_n 2, 1) := by decide +kernel
theorem dX2_nextToAct_5 : decode cX2_nextToAct 5 = .ok (.iconst 0, 1) := by decide +kernel
theorem dX2_nextToAct_6 : decode cX2_nextToAct 6 = .ok (.istore_n 3, 1) := by decide +kernel
theorem dX2_nextToAct_7 : decode cX2_nextToAct 7 = .ok (.iload_n 3, 1) := by decide +kernel
theorem dX2_nextToAct_8 : decode cX2_nextToAct 8 = .ok (.aload_n 0, 1) := by decide +kernel
theorem dX2_nextToAct_9 : decode cX2_nextToAct 9 = .ok (.getfield 39, 3) := by decide +kernel
theorem dX2_nextToAct_12 : decode cX2_nextToAct 12 = .ok (.if_icmp .ge 40, 3) := by decide +kernel
theorem dX2_nextToAct_15 : decode cX2_nextToAct 15 = .ok (.aload_n 0, 1) := by decide +kernel
theorem dX2_nextToAct_16 : decode cX2_nextToAct 16 = .ok (.iload_n 3, 1) := by decide +kernel
theorem dX2_nextToAct_17 : decode cX2_nextToAct 17 = .ok (.invokevirtual 55, 3) := by decide +kernel
theorem dX2_nextToAct_20 : decode cX2_nextToAct 20 = .ok (.ifCond .eq 26, 3) := by decide +kernel
theorem dX2_nextToAct_23 : decode cX2_nextToAct 23 = .ok (.aload_n 0, 1) := by decide +kernel
theorem dX2_nextToAct_24 : decode cX2_nextToAct 24 = .ok (.getfield 27, 3) := by decide +kernel
theorem dX2_nextToAct_27 : decode cX2_nextToAct 27 = .ok (.iload_n 3, 1) := by decide +kernel
theorem dX2_nextToAct_28 : decode cX2_nextToAct 28 = .ok (.invokestatic 51, 3) := by decide +kernel
theorem dX2_nextToAct_31 : decode cX2_nextToAct 31 = .ok (.iload_n 2, 1) := by decide +kernel
theorem dX2_nextToAct_32 : decode cX2_nextToAct 32 = .ok (.if_icmp .le 14, 3) := by decide +kernel
theorem dX2_nextToAct_35 : decode cX2_nextToAct 35 = .ok (.iload_n 3, 1) := by decide +kernel
theorem dX2_nextToAct_36 : decode cX2_nextToAct 36 = .ok (.istore_n 1, 1) := by decide +kernel
theorem dX2_nextToAct_37 : decode cX2_nextToAct 37 = .ok (.aload_n 0, 1) := by decide +kernel
theorem dX2_nextToAct_38 : decode cX2_nextToAct 38 = .ok (.getfield 27, 3) := by decide +kernel
theorem dX2_nextToAct_41 : decode cX2_nextToAct 41 = .ok (.iload_n 3, 1) := by decide +kernel
theorem dX2_nextToAct_42 : decode cX2_nextToAct 42 = .ok (.invokestatic 51, 3) := by decide +kernel
theorem dX2_nextToAct_45 : decode cX2_nextToAct 45 = .ok (.istore_n 2, 1) := by decide +kernel
theorem dX2_nextToAct_46 : decode cX2_nextToAct 46 = .ok (.iinc 3 1, 3) := by decide +kernel
theorem dX2_nextToAct_49 : decode cX2_nextToAct 49 = .ok (.goto (-42), 3) := by decide +kernel
theorem dX2_nextToAct_52 : decode cX2_nextToAct 52 = .ok (.iload_n 1, 1) := by decide +kernel
theorem dX2_nextToAct_53 : decode cX2_nextToAct 53 = .ok (.ireturn, 1) := by decide +kernel
theorem dX2_isLike_0 : decode cX2_isLike 0 = .ok (.iconst 0, 1) := by decide +kernel
theorem dX2_isLike_1 : decode cX2_isLike 1 = .ok (.istore_n 2, 1) := by decide +kernel
theorem dX2_isLike_2 : decode cX2_isLike 2 = .ok (.iload_n 2, 1) := by decide +kernel
theorem dX2_isLike_3 : decode cX2_isLike 3 = .ok (.aload_n 0, 1) := by decide +kernel
theorem dX2_isLike_4 : decode cX2_isLike 4 = .ok (.getfield 39, 3) := by decide +kernel
theorem dX2_isLike_7 : decode cX2_isLike 7 = .ok (.if_icmp .ge 49, 3) := by decide +kernel
theorem dX2_isLike_10 : decode cX2_isLike 10 = .ok (.aload_n 0, 1) := by decide +kernel
theorem dX2_isLike_11 : decode cX2_isLike 11 = .ok (.getfield 9, 3) := by decide +kernel
theorem dX2_isLike_14 : decode cX2_isLike 14 = .ok (.iload_n 2, 1) := by decide +kernel
theorem dX2_isLike_15 : decode cX2_isLike 15 = .ok (.invokestatic 51, 3) := by decide +kernel
theorem dX2_isLike_18 : decode cX2_isLike 18 = .ok (.aload_n 1, 1) := by decide +kernel
theorem dX2_isLike_19 : decode cX2_isLike 19 = .ok (.getfield 9, 3) := by decide +kernel
theorem dX2_isLike_22 : decode cX2_isLike 22 = .ok (.iload_n 2, 1) := by decide +kernel
theorem dX2_isLike_23 : decode cX2_isLike 23 = .ok (.invokestatic 51, 3) := by decide +kernel
theorem dX2_isLike_26 : decode cX2_isLike 26 = .ok (.if_icmp .ne 22, 3) := by decide +kernel
theorem dX2_isLike_29 : decode cX2_isLike 29 = .ok (.aload_n 0, 1) := by decide +kernel
theorem dX2_isLike_30 : decode cX2_isLike 30 = .ok (.getfield 24, 3) := by decide +kernel
theorem dX2_isLike_33 : decode cX2_isLike 33 = .ok (.iload_n 2, 1) := by decide +kernel
theorem dX2_isLike_34 : decode cX2_isLike 34 = .ok (.invokestatic 51, 3) := by decide +kernel
theorem dX2_isLike_37 : decode cX2_isLike 37 = .ok (.aload_n 1, 1) := by decide +kernel
theorem dX2_isLike_38 : decode cX2_isLike 38 = .ok (.getfield 24, 3) := by decide +kernel
theorem dX2_isLike_41 : decode cX2_isLike 41 = .ok (.iload_n 2, 1) := by decide +kernel
theorem dX2_isLike_42 : decode cX2_isLike 42 = .ok (.invokestatic 51, 3) := by decide +kernel
theorem dX2_isLike_45 : decode cX2_isLike 45 = .ok (.if_icmp .eq 5, 3) := by decide +kernel
theorem dX2_isLike_48 : decode cX2_isLike 48 = .ok (.iconst 0, 1) := by decide +kernel
theorem dX2_isLike_49 : decode cX2_isLike 49 = .ok (.ireturn, 1) := by decide +kernel
theorem dX2_isLike_50 : decode cX2_isLike 50 = .ok (.iinc 2 1, 3) := by decide +kernel
theorem dX2_isLike_53 : decode cX2_isLike 53 = .ok (.goto (-51), 3) := by decide +kernel
theorem dX2_isLike_56 : decode cX2_isLike 56 = .ok (.aload_n 0, 1) := by decide +kernel
theorem dX2_isLike_57 : decode cX2_isLike 57 = .ok (.getfield 39, 3) := by decide +kernel
theorem dX2_isLike_60 : decode cX2_isLike 60 = .ok (.aload_n 1, 1) := by decide +kernel
theorem dX2_isLike_61 : decode cX2_isLike 61 = .ok (.getfield 39, 3) := by decide +kernel
theorem dX2_isLike_64 : decode cX2_isLike 64 = .ok (.if_icmp .ne 7, 3) := by decide +kernel
theorem dX2_isLike_67 : decode cX2_isLike 67 = .ok (.iconst 1, 1) := by decide +kernel
theorem dX2_isLike_68 : decode cX2_isLike 68 = .ok (.goto 4, 3) := by decide +kernel
theorem dX2_isLike_71 : decode cX2_isLike 71 = .ok (.iconst 0, 1) := by decide +kernel
theorem dX2_isLike_72 : decode cX2_isLike 72 = .ok (.ireturn, 1) := by decide +kernel
theorem dX3_init_0 : decode cX3_init 0 = .ok (.aload_n 0, 1) := by decide +kernel
theorem dX3_init_1 : decode cX3_init 1 = .ok (.invokespecial 3, 3) := by decide +kernel
theorem dX3_init_4 : decode cX3_init 4 = .ok (.aload_n 0, 1) := by decide +kernel
theorem dX3_init_5 : decode cX3_init 5 = .ok (.bipush 8, 2) := by decide +kernel
theorem dX3_init_7 : decode cX3_init 7 = .ok (.newarray .int, 2) := by decide +kernel
theorem dX3_init_9 : decode cX3_init 9 = .ok (.putfield 9, 3) := by decide +kernel
theorem dX3_init_12 : decode cX3_init 12 = .ok (.aload_n 0, 1) := by decide +kernel
theorem dX3_init_13 : decode cX3_init 13 = .ok (.bipush 8, 2) := by decide +kernel
theorem dX3_init_15 : decode cX3_init 15 = .ok (.newarray .int, 2) := by decide +kernel
theorem dX3_init_17 : decode cX3_init 17 = .ok (.putfield 15, 3) := by decide +kernel
theorem dX3_init_20 : decode cX3_init 20 = .ok (.aload_n 0, 1) := by decide +kernel
theorem dX3_init_21 : decode cX3_init 21 = .ok (.bipush 8, 2) := by decide +kernel
theorem dX3_init_23 : decode cX3_init 23 = .ok (.newarray .int, 2) := by decide +kernel
theorem dX3_init_25 : decode cX3_init 25 = .ok (.putfield 18, 3) := by decide +kernel
theorem dX3_init_28 : decode cX3_init 28 = .ok (.aload_n 0, 1) := by decide +kernel
theorem dX3_init_29 : decode cX3_init 29 = .ok (.bipush 8, 2) := by decide +kernel
theorem dX3_init_31 : decode cX3_init 31 = .ok (.newarray .int, 2) := by decide +kernel
theorem dX3_init_33 : decode cX3_init 33 = .ok (.putfield 21, 3) := by decide +kernel
theorem dX3_init_36 : decode cX3_init 36 = .ok (.aload_n 0, 1) := by decide +kernel
theorem dX3_init_37 : decode cX3_init 37 = .ok (.bipush 8, 2) := by decide +kernel
theorem dX3_init_39 : decode cX3_init 39 = .ok (.newarray .int, 2) := by decide +kernel
theorem dX3_init_41 : decode cX3_init 41 = .ok (.putfield 24, 3) := by decide +kernel
theorem dX3_init_44 : decode cX3_init 44 = .ok (.iconst 0, 1) := by decide +kernel
theorem dX3_init_45 : decode cX3_init 45 = .ok (.istore_n 1, 1) := by decide +kernel
theorem dX3_init_46 : decode cX3_init 46 = .ok (.iload_n 1, 1) := by decide +kernel
theorem dX3_init_47 : decode cX3_init 47 = .ok (.bipush 8, 2) := by decide +kernel
theorem dX3_init_49 : decode cX3_init 49 = .ok (.if_icmp .ge 37, 3) := by decide +kernel
theorem dX3_init_52 : decode cX3_init 52 = .ok (.aload_n 0, 1) := by decide +kernel
theorem dX3_init_53 : decode cX3_init 53 = .ok (.getfield 9, 3) := by decide +kernel
theorem dX3_init_56 : decode cX3_init 56 = .ok (.iload_n 1, 1) := by decide +kernel
theorem dX3_init_57 : decode cX3_init 57 = .ok (.iconst 1, 1) := by decide +kernel
theorem dX3_init_58 : decode cX3_init 58 = .ok (.invokestatic 27, 3) := by decide +kernel
theorem dX3_init_61 : decode cX3_init 61 = .ok (.aload_n 0, 1) := by decide +kernel
theorem dX3_init_62 : decode cX3_init 62 = .ok (.getfield 18, 3) := by decide +kernel
theorem dX3_init_65 : decode cX3_init 65 = .ok (.iload_n 1, 1) := by decide +kernel
theorem dX3_init_66 : decode cX3_init 66 = .ok (.bipush 104, 2) := by decide +kernel
theorem dX3_init_68 : decode cX3_init 68 = .ok (.invokestatic 27, 3) := by decide +kernel
theorem dX3_init_71 : decode cX3_init 71 = .ok (.aload_n 0, 1) := by decide +kernel
theorem dX3_init_72 : decode cX3_init 72 = .ok (.getfield 21, 3) := by decide +kernel
theorem dX3_init_75 : decode cX3_init 75 = .ok (.iload_n 1, 1) := by decide +kernel
theorem dX3_init_76 : decode cX3_init 76 = .ok (.iconst 1, 1) := by decide +kernel
theorem dX3_init_77 : decode cX3_init 77 = .ok (.invokestatic 27, 3) := by decide +kernel
theorem dX3_init_80 : decode cX3_init 80 = .ok (.iinc 1 1, 3) := by decide +kernel
theorem dX3_init_83 : decode cX3_init 83 = .ok (.goto (-37), 3) := by decide +kernel
theorem dX3_init_86 : decode cX3_init 86 = .ok (.return_, 1) := by decide +kernel
theorem dX3_copy_0 : decode cX3_copy 0 = .ok (.aload_n 1, 1) := by decide +kernel
theorem dX3_copy_1 : decode cX3_copy 1 = .ok (.getfield 9, 3) := by decide +kernel
theorem dX3_copy_4 : decode cX3_copy 4 = .ok (.aload_n 0, 1) := by decide +kernel
theorem dX3_copy_5 : decode cX3_copy 5 = .ok (.getfield 9, 3) := by decide +kernel
theorem dX3_copy_8 : decode cX3_copy 8 = .ok (.invokestatic 31, 3) := by decide +kernel
theorem dX3_copy_11 : decode cX3_copy 11 = .ok (.aload_n 1, 1) := by decide +kernel
theorem dX3_copy_12 : decode cX3_copy 12 = .ok (.getfield 15, 3) := by decide +kernel
theorem dX3_copy_15 : decode cX3_copy 15 = .ok (.aload_n 0, 1) := by decide +kernel
theorem dX3_copy_16 : decode cX3_copy 16 = .ok (.getfield 15, 3) := by decide +kernel
theorem dX3_copy_19 : decode cX3_copy 19 = .ok (.invokestatic 31, 3) := by decide +kernel
theorem dX3_copy_22 : decode cX3_copy 22 = .ok (.aload_n 1, 1) := by decide +kernel
theorem dX3_copy_23 : decode cX3_copy 23 = .ok (.getfield 18, 3) := by decide +kernel
theorem dX3_copy_26 : decode cX3_copy 26 = .ok (.aload_n 0, 1) := by decide +kernel
theorem dX3_copy_27 : decode cX3_copy 27 = .ok (.getfield 18, 3) := by decide +kernel
theorem dX3_copy_30 : decode cX3_copy 30 = .ok (.invokestatic 31, 3) := by decide +kernel
theorem dX3_copy_33 : decode cX3_copy 33 = .ok (.aload_n 1, 1) := by decide +kernel
theorem dX3_copy_34 : decode cX3_copy 34 = .ok (.getfield 21, 3) := by decide +kernel
theorem dX3_copy_37 : decode cX3_copy 37 = .ok (.aload_n 0, 1) := by decide +kernel
theorem dX3_copy_38 : decode cX3_copy 38 = .ok (.getfield 21, 3) := by decide +kernel
theorem dX3_copy_41 : decode cX3_copy 41 = .ok (.invokestatic 31, 3) := by decide +kernel
theorem dX3_copy_44 : decode cX3_copy 44 = .ok (.aload_n 1, 1) := by decide +kernel
theorem dX3_copy_45 : decode cX3_copy 45 = .ok (.getfield 24, 3) := by decide +kernel
theorem dX3_copy_48 : decode cX3_copy 48 = .ok (.aload_n 0, 1) := by decide +kernel
theorem dX3_copy_49 : decode cX3_copy 49 = .ok (.getfield 24, 3) := by decide +kernel
theorem dX3_copy_52 : decode cX3_copy 52 = .ok (.invokestatic 31, 3) := by decide +kernel
theorem dX3_copy_55 : decode cX3_copy 55 = .ok (.return_, 1) := by decide +kernel
theorem dX3_tell_0 : decode cX3_tell 0 = .ok (.aload_n 0, 1) := by decide +kernel
theorem dX3_tell_1 : decode cX3_tell 1 = .ok (.getfield 9, 3) := by decide +kernel
theorem dX3_tell_4 : decode cX3_tell 4 = .ok (.iload_n 1, 1) := by decide +kernel
theorem dX3_tell_5 : decode cX3_tell 5 = .ok (.iload_n 2, 1) := by decide +kernel
theorem dX3_tell_6 : decode cX3_tell 6 = .ok (.invokestatic 27, 3) := by decide +kernel
theorem dX3_tell_9 : decode cX3_tell 9 = .ok (.aload_n 0, 1) := by decide +kernel
theorem dX3_tell_10 : decode cX3_tell 10 = .ok (.getfield 15, 3) := by decide +kernel
theorem dX3_tell_13 : decode cX3_tell 13 = .ok (.iload_n 1, 1) := by decide +kernel
theorem dX3_tell_14 : decode cX3_tell 14 = .ok (.iload_n 3, 1) := by decide +kernel
theorem dX3_tell_15 : decode cX3_tell 15 = .ok (.ifCond .eq 7, 3) := by decide +kernel
theorem dX3_tell_18 : decode cX3_tell 18 = .ok (.iconst 1, 1) := by decide +kernel
theorem dX3_tell_19 : decode cX3_tell 19 = .ok (.goto 4, 3) := by decide +kernel
theorem dX3_tell_22 : decode cX3_tell 22 = .ok (.iconst 0, 1) := by decide +kernel
theorem dX3_tell_23 : decode cX3_tell 23 = .ok (.invokestatic 27, 3) := by decide +kernel
theorem dX3_tell_26 : decode cX3_tell 26 = .ok (.return_, 1) := by decide +kernel
theorem dX3_tellEffect_0 : decode cX3_tellEffect 0 = .ok (.aload_n 0, 1) := by decide +kernel
theorem dX3_tellEffect_1 : decode cX3_tellEffect 1 = .ok (.getfield 18, 3) := by decide +kernel
theorem dX3_tellEffect_4 : decode cX3_tellEffect 4 = .ok (.iload_n 1, 1) := by decide +kernel
theorem dX3_tellEffect_5 : decode cX3_tellEffect 5 = .ok (.iload_n 2, 1) := by decide +kernel
theorem dX3_tellEffect_6 : decode cX3_tellEffect 6 = .ok (.invokestatic 27, 3) := by decide +kernel
theorem dX3_tellEffect_9 : decode cX3_tellEffect 9 = .ok (.aload_n 0, 1) := by decide +kernel
theorem dX3_tellEffect_10 : decode cX3_tellEffect 10 = .ok (.getfield 21, 3) := by decide +kernel
theorem dX3_tellEffect_13 : decode cX3_tellEffect 13 = .ok (.iload_n 1, 1) := by decide +kernel
theorem dX3_tellEffect_14 : decode cX3_tellEffect 14 = .ok (.iload_n 3, 1) := by decide +kernel
theorem dX3_tellEffect_15 : decode cX3_tellEffect 15 = .ok (.invokestatic 27, 3) := by decide +kernel
theorem dX3_tellEffect_18 : decode cX3_tellEffect 18 = .ok (.aload_n 0, 1) := by decide +kernel
theorem dX3_tellEffect_19 : decode cX3_tellEffect 19 = .ok (.getfield 24, 3) := by decide +kernel
theorem dX3_tellEffect_22 : decode cX3_tellEffect 22 = .ok (.iload_n 1, 1) := by decide +kernel
theorem dX3_tellEffect_23 : decode cX3_tellEffect 23 = .ok (.iload 4, 2) := by decide +kernel
theorem dX3_tellEffect_25 : decode cX3_tellEffect 25 = .ok (.invokestatic 27, 3) := by decide +kernel
theorem dX3_tellEffect_28 : decode cX3_tellEffect 28 = .ok (.return_, 1) := by decide +kernel
theorem dX3_effectOf_0 : decode cX3_effectOf 0 = .ok (.aload_n 0, 1) := by decide +kernel
theorem dX3_effectOf_1 : decode cX3_effectOf 1 = .ok (.getfield 18, 3) := by decide +kernel
theorem dX3_effectOf_4 : decode cX3_effectOf 4 = .ok (.iload_n 1, 1) := by decide +kernel
theorem dX3_effectOf_5 : decode cX3_effectOf 5 = .ok (.invokestatic 35, 3) := by decide +kernel
theorem dX3_effectOf_8 : decode cX3_effectOf 8 = .ok (.i2c, 1) := by decide +kernel
theorem dX3_effectOf_9 : decode cX3_effectOf 9 = .ok (.ireturn, 1) := by decide +kernel
theorem dX3_isWooden_0 : decode cX3_isWooden 0 = .ok (.aload_n 0, 1) := by decide +kernel
theorem dX3_isWooden_1 : decode cX3_isWooden 1 = .ok (.getfield 15, 3) := by decide +kernel
theorem dX3_isWooden_4 : decode cX3_isWooden 4 = .ok (.iload_n 1, 1) := by decide +kernel
theorem dX3_isWooden_5 : decode cX3_isWooden 5 = .ok (.invokestatic 35, 3) := by decide +kernel
theorem dX3_isWooden_8 : decode cX3_isWooden 8 = .ok (.iconst 1, 1) := by decide +kernel
theorem dX3_isWooden_9 : decode cX3_isWooden 9 = .ok (.if_icmp .ne 7, 3) := by decide +kernel
theorem dX3_isWooden_12 : decode cX3_isWooden 12 = .ok (.iconst 1, 1) := by decide +kernel
theorem dX3_isWooden_13 : decode cX3_isWooden 13 = .ok (.goto 4, 3) := by decide +kernel
theorem dX3_isWooden_16 : decode cX3_isWooden 16 = .ok (.iconst 0, 1) := by decide +kernel
theorem dX3_isWooden_17 : decode cX3_isWooden 17 = .ok (.ireturn, 1) := by decide +kernel
theorem dX4_init_0 : decode cX4_init 0 = .ok (.aload_n 0, 1) := by decide +kernel
theorem dX4_init_1 : decode cX4_init 1 = .ok (.invokespecial 3, 3) := by decide +kernel
theorem dX4_init_4 : decode cX4_init 4 = .ok (.aload_n 0, 1) := by decide +kernel
theorem dX4_init_5 : decode cX4_init 5 = .ok (.iconst 4, 1) := by decide +kernel
theorem dX4_init_6 : decode cX4_init 6 = .ok (.newarray .int, 2) := by decide +kernel
theorem dX4_init_8 : decode cX4_init 8 = .ok (.putfield 9, 3) := by decide +kernel
theorem dX4_init_11 : decode cX4_init 11 = .ok (.aload_n 0, 1) := by decide +kernel
theorem dX4_init_12 : decode cX4_init 12 = .ok (.iconst 4, 1) := by decide +kernel
theorem dX4_init_13 : decode cX4_init 13 = .ok (.newarray .int, 2) := by decide +kernel
theorem dX4_init_15 : decode cX4_init 15 = .ok (.putfield 15, 3) := by decide +kernel
theorem dX4_init_18 : decode cX4_init 18 = .ok (.aload_n 0, 1) := by decide +kernel
theorem dX4_init_19 : decode cX4_init 19 = .ok (.iconst 0, 1) := by decide +kernel
theorem dX4_init_20 : decode cX4_init 20 = .ok (.putfield 18, 3) := by decide +kernel
theorem dX4_init_23 : decode cX4_init 23 = .ok (.return_, 1) := by decide +kernel
theorem dX4_copy_0 : decode cX4_copy 0 = .ok (.aload_n 1, 1) := by decide +kernel
theorem dX4_copy_1 : decode cX4_copy 1 = .ok (.getfield 9, 3) := by decide +kernel
theorem dX4_copy_4 : decode cX4_copy 4 = .ok (.aload_n 0, 1) := by decide +kernel
theorem dX4_copy_5 : decode cX4_copy 5 = .ok (.getfield 9, 3) := by decide +kernel
theorem dX4_copy_8 : decode cX4_copy 8 = .ok (.invokestatic 22, 3) := by decide +kernel
theorem dX4_copy_11 : decode cX4_copy 11 = .ok (.aload_n 1, 1) := by decide +kernel
theorem dX4_copy_12 : decode cX4_copy 12 = .ok (.getfield 15, 3) := by decide +kernel
theorem dX4_copy_15 : decode cX4_copy 15 = .ok (.aload_n 0, 1) := by decide +kernel
theorem dX4_copy_16 : decode cX4_copy 16 = .ok (.getfield 15, 3) := by decide +kernel
theorem dX4_copy_19 : decode cX4_copy 19 = .ok (.invokestatic 22, 3) := by decide +kernel
theorem dX4_copy_22 : decode cX4_copy 22 = .ok (.aload_n 0, 1) := by decide +kernel
theorem dX4_copy_23 : decode cX4_copy 23 = .ok (.aload_n 1, 1) := by decide +kernel
theorem dX4_copy_24 : decode cX4_copy 24 = .ok (.getfield 18, 3) := by decide +kernel
theorem dX4_copy_27 : decode cX4_copy 27 = .ok (.putfield 18, 3) := by decide +kernel
theorem dX4_copy_30 : decode cX4_copy 30 = .ok (.return_, 1) := by decide +kernel
theorem dX4_add_0 : decode cX4_add 0 = .ok (.aload_n 0, 1) := by decide +kernel
theorem dX4_add_1 : decode cX4_add 1 = .ok (.getfield 9, 3) := by decide +kernel
theorem dX4_add_4 : decode cX4_add 4 = .ok (.aload_n 0, 1) := by decide +kernel
theorem dX4_add_5 : decode cX4_add 5 = .ok (.getfield 18, 3) := by decide +kernel
theorem dX4_add_8 : decode cX4_add 8 = .ok (.iload_n 1, 1) := by decide +kernel
theorem dX4_add_9 : decode cX4_add 9 = .ok (.invokestatic 26, 3) := by decide +kernel
theorem dX4_add_12 : decode cX4_add 12 = .ok (.aload_n 0, 1) := by decide +kernel
theorem dX4_add_13 : decode cX4_add 13 = .ok (.getfield 15, 3) := by decide +kernel
theorem dX4_add_16 : decode cX4_add 16 = .ok (.aload_n 0, 1) := by decide +kernel
theorem dX4_add_17 : decode cX4_add 17 = .ok (.getfield 18, 3) := by decide +kernel
theorem dX4_add_20 : decode cX4_add 20 = .ok (.iload_n 2, 1) := by decide +kernel
theorem dX4_add_21 : decode cX4_add 21 = .ok (.invokestatic 26, 3) := by decide +kernel
theorem dX4_add_24 : decode cX4_add 24 = .ok (.aload_n 0, 1) := by decide +kernel
theorem dX4_add_25 : decode cX4_add 25 = .ok (.dup, 1) := by decide +kernel
theorem dX4_add_26 : decode cX4_add 26 = .ok (.getfield 18, 3) := by decide +kernel
theorem dX4_add_29 : decode cX4_add 29 = .ok (.iconst 1, 1) := by decide +kernel
theorem dX4_add_30 : decode cX4_add 30 = .ok (.iadd, 1) := by decide +kernel
theorem dX4_add_31 : decode cX4_add 31 = .ok (.putfield 18, 3) := by decide +kernel
theorem dX4_add_34 : decode cX4_add 34 = .ok (.aload_n 0, 1) := by decide +kernel
theorem dX4_add_35 : decode cX4_add 35 = .ok (.getfield 18, 3) := by decide +kernel
theorem dX4_add_38 : decode cX4_add 38 = .ok (.ireturn, 1) := by decide +kernel
theorem dX5_init_0 : decode cX5_init 0 = .ok (.aload_n 0, 1) := by decide +kernel
theorem dX5_init_1 : decode cX5_init 1 = .ok (.invokespecial 3, 3) := by decide +kernel
theorem dX5_init_4 : decode cX5_init 4 = .ok (.aload_n 0, 1) := by decide +kernel
theorem dX5_init_5 : decode cX5_init 5 = .ok (.sipush 512, 3) := by decide +kernel
theorem dX5_init_8 : decode cX5_init 8 = .ok (.newarray .int, 2) := by decide +kernel
theorem dX5_init_10 : decode cX5_init 10 = .ok (.putfield 9, 3) := by decide +kernel
theorem dX5_init_13 : decode cX5_init 13 = .ok (.aload_n 0, 1) := by decide +kernel
theorem dX5_init_14 : decode cX5_init 14 = .ok (.sipush 512, 3) := by decide +kernel
theorem dX5_init_17 : decode cX5_init 17 = .ok (.newarray .int, 2) := by decide +kernel
theorem dX5_init_19 : decode cX5_init 19 = .ok (.putfield 15, 3) := by decide +kernel
theorem dX5_init_22 : decode cX5_init 22 = .ok (.aload_n 0, 1) := by decide +kernel
theorem dX5_init_23 : decode cX5_init 23 = .ok (.sipush 512, 3) := by decide +kernel
theorem dX5_init_26 : decode cX5_init 26 = .ok (.newarray .int, 2) := by decide +kernel
theorem dX5_init_28 : decode cX5_init 28 = .ok (.putfield 18, 3) := by decide +kernel
theorem dX5_init_31 : decode cX5_init 31 = .ok (.aload_n 0, 1) := by decide +kernel
theorem dX5_init_32 : decode cX5_init 32 = .ok (.iconst 0, 1) := by decide +kernel
theorem dX5_init_33 : decode cX5_init 33 = .ok (.putfield 21, 3) := by decide +kernel
theorem dX5_init_36 : decode cX5_init 36 = .ok (.return_, 1) := by decide +kernel
theorem dX5_add_0 : decode cX5_add 0 = .ok (.aload_n 0, 1) := by decide +kernel
theorem dX5_add_1 : decode cX5_add 1 = .ok (.getfield 21, 3) := by decide +kernel
theorem dX5_add_4 : decode cX5_add 4 = .ok (.sipush 512, 3) := by decide +kernel
theorem dX5_add_7 : decode cX5_add 7 = .ok (.if_icmp .ge 49, 3) := by decide +kernel
theorem dX5_add_10 : decode cX5_add 10 = .ok (.aload_n 0, 1) := by decide +kernel
theorem dX5_add_11 : decode cX5_add 11 = .ok (.getfield 9, 3) := by decide +kernel
theorem dX5_add_14 : decode cX5_add 14 = .ok (.aload_n 0, 1) := by decide +kernel
theorem dX5_add_15 : decode cX5_add 15 = .ok (.getfield 21, 3) := by decide +kernel
theorem dX5_add_18 : decode cX5_add 18 = .ok (.iload_n 1, 1) := by decide +kernel
theorem dX5_add_19 : decode cX5_add 19 = .ok (.invokestatic 25, 3) := by decide +kernel
theorem dX5_add_22 : decode cX5_add 22 = .ok (.aload_n 0, 1) := by decide +kernel
theorem dX5_add_23 : decode cX5_add 23 = .ok (.getfield 15, 3) := by decide +kernel
theorem dX5_add_26 : decode cX5_add 26 = .ok (.aload_n 0, 1) := by decide +kernel
theorem dX5_add_27 : decode cX5_add 27 = .ok (.getfield 21, 3) := by decide +kernel
theorem dX5_add_30 : decode cX5_add 30 = .ok (.iload_n 2, 1) := by decide +kernel
theorem dX5_add_31 : decode cX5_add 31 = .ok (.invokestatic 25, 3) := by decide +kernel
theorem dX5_add_34 : decode cX5_add 34 = .ok (.aload_n 0, 1) := by decide +kernel
theorem dX5_add_35 : decode cX5_add 35 = .ok (.getfield 18, 3) := by decide +kernel
theorem dX5_add_38 : decode cX5_add 38 = .ok (.aload_n 0, 1) := by decide +kernel
theorem dX5_add_39 : decode cX5_add 39 = .ok (.getfield 21, 3) := by decide +kernel
theorem dX5_add_42 : decode cX5_add 42 = .ok (.iload_n 3, 1) := by decide +kernel
theorem dX5_add_43 : decode cX5_add 43 = .ok (.invokestatic 25, 3) := by decide +kernel
theorem dX5_add_46 : decode cX5_add 46 = .ok (.aload_n 0, 1) := by decide +kernel
theorem dX5_add_47 : decode cX5_add 47 = .ok (.dup, 1) := by decide +kernel
theorem dX5_add_48 : decode cX5_add 48 = .ok (.getfield 21, 3) := by decide +kernel
theorem dX5_add_51 : decode cX5_add 51 = .ok (.iconst 1, 1) := by decide +kernel
theorem dX5_add_52 : decode cX5_add 52 = .ok (.iadd, 1) := by decide +kernel
theorem dX5_add_53 : decode cX5_add 53 = .ok (.putfield 21, 3) := by decide +kernel
theorem dX5_add_56 : decode cX5_add 56 = .ok (.return_, 1) := by decide +kernel
theorem dX6_init_0 : decode cX6_init 0 = .ok (.aload_n 0, 1) := by decide +kernel
theorem dX6_init_1 : decode cX6_init 1 = .ok (.invokespecial 3, 3) := by decide +kernel
theorem dX6_init_4 : decode cX6_init 4 = .ok (.aload_n 0, 1) := by decide +kernel
theorem dX6_init_5 : decode cX6_init 5 = .ok (.bipush 24, 2) := by decide +kernel
theorem dX6_init_7 : decode cX6_init 7 = .ok (.newarray .int, 2) := by decide +kernel
theorem dX6_init_9 : decode cX6_init 9 = .ok (.putfield 9, 3) := by decide +kernel
theorem dX6_init_12 : decode cX6_init 12 = .ok (.aload_n 0, 1) := by decide +kernel
theorem dX6_init_13 : decode cX6_init 13 = .ok (.bipush 24, 2) := by decide +kernel
theorem dX6_init_15 : decode cX6_init 15 = .ok (.newarray .int, 2) := by decide +kernel
theorem dX6_init_17 : decode cX6_init 17 = .ok (.putfield 15, 3) := by decide +kernel
theorem dX6_init_20 : decode cX6_init 20 = .ok (.aload_n 0, 1) := by decide +kernel
theorem dX6_init_21 : decode cX6_init 21 = .ok (.iconst 0, 1) := by decide +kernel
theorem dX6_init_22 : decode cX6_init 22 = .ok (.putfield 18, 3) := by decide +kernel
theorem dX6_init_25 : decode cX6_init 25 = .ok (.return_, 1) := by decide +kernel
theorem dX6_copy_0 : decode cX6_copy 0 = .ok (.aload_n 1, 1) := by decide +kernel
theorem dX6_copy_1 : decode cX6_copy 1 = .ok (.getfield 9, 3) := by decide +kernel
theorem dX6_copy_4 : decode cX6_copy 4 = .ok (.aload_n 0, 1) := by decide +kernel
theorem dX6_copy_5 : decode cX6_copy 5 = .ok (.getfield 9, 3) := by decide +kernel
theorem dX6_copy_8 : decode cX6_copy 8 = .ok (.invokestatic 22, 3) := by decide +kernel
theorem dX6_copy_11 : decode cX6_copy 11 = .ok (.aload_n 1, 1) := by decide +kernel
theorem dX6_copy_12 : decode cX6_copy 12 = .ok (.getfield 15, 3) := by decide +kernel
theorem dX6_copy_15 : decode cX6_copy 15 = .ok (.aload_n 0, 1) := by decide +kernel
theorem dX6_copy_16 : decode cX6_copy 16 = .ok (.getfield 15, 3) := by decide +kernel
theorem dX6_copy_19 : decode cX6_copy 19 = .ok (.invokestatic 22, 3) := by decide +kernel
theorem dX6_copy_22 : decode cX6_copy 22 = .ok (.aload_n 0, 1) := by decide +kernel
theorem dX6_copy_23 : decode cX6_copy 23 = .ok (.aload_n 1, 1) := by decide +kernel
theorem dX6_copy_24 : decode cX6_copy 24 = .ok (.getfield 18, 3) := by decide +kernel
theorem dX6_copy_27 : decode cX6_copy 27 = .ok (.putfield 18, 3) := by decide +kernel
theorem dX6_copy_30 : decode cX6_copy 30 = .ok (.return_, 1) := by decide +kernel
theorem dX6_add_0 : decode cX6_add 0 = .ok (.aload_n 0, 1) := by decide +kernel
theorem dX6_add_1 : decode cX6_add 1 = .ok (.getfield 18, 3) := by decide +kernel
theorem dX6_add_4 : decode cX6_add 4 = .ok (.istore_n 3, 1) := by decide +kernel
theorem dX6_add_5 : decode cX6_add 5 = .ok (.aload_n 0, 1) := by decide +kernel
theorem dX6_add_6 : decode cX6_add 6 = .ok (.getfield 9, 3) := by decide +kernel
theorem dX6_add_9 : decode cX6_add 9 = .ok (.iload_n 3, 1) := by decide +kernel
theorem dX6_add_10 : decode cX6_add 10 = .ok (.iload_n 1, 1) := by decide +kernel
theorem dX6_add_11 : decode cX6_add 11 = .ok (.invokestatic 26, 3) := by decide +kernel
theorem dX6_add_14 : decode cX6_add 14 = .ok (.aload_n 0, 1) := by decide +kernel
theorem dX6_add_15 : decode cX6_add 15 = .ok (.getfield 15, 3) := by decide +kernel
theorem dX6_add_18 : decode cX6_add 18 = .ok (.iload_n 3, 1) := by decide +kernel
theorem dX6_add_19 : decode cX6_add 19 = .ok (.iload_n 2, 1) := by decide +kernel
theorem dX6_add_20 : decode cX6_add 20 = .ok (.invokestatic 26, 3) := by decide +kernel
theorem dX6_add_23 : decode cX6_add 23 = .ok (.aload_n 0, 1) := by decide +kernel
theorem dX6_add_24 : decode cX6_add 24 = .ok (.iload_n 3, 1) := by decide +kernel
theorem dX6_add_25 : decode cX6_add 25 = .ok (.iconst 1, 1) := by decide +kernel
theorem dX6_add_26 : decode cX6_add 26 = .ok (.iadd, 1) := by decide +kernel
theorem dX6_add_27 : decode cX6_add 27 = .ok (.putfield 18, 3) := by decide +kernel
theorem dX6_add_30 : decode cX6_add 30 = .ok (.iload_n 3, 1) := by decide +kernel
theorem dX6_add_31 : decode cX6_add 31 = .ok (.ireturn, 1) := by decide +kernel
theorem dX6_bagOf_0 : decode cX6_bagOf 0 = .ok (.aload_n 0, 1) := by decide +kernel
theorem dX6_bagOf_1 : decode cX6_bagOf 1 = .ok (.getfield 15, 3) := by decide +kernel
theorem dX6_bagOf_4 : decode cX6_bagOf 4 = .ok (.iload_n 1, 1) := by decide +kernel
theorem dX6_bagOf_5 : decode cX6_bagOf 5 = .ok (.invokestatic 30, 3) := by decide +kernel
theorem dX6_bagOf_8 : decode cX6_bagOf 8 = .ok (.istore_n 2, 1) := by decide +kernel
theorem dX6_bagOf_9 : decode cX6_bagOf 9 = .ok (.iload_n 2, 1) := by decide +kernel
theorem dX6_bagOf_10 : decode cX6_bagOf 10 = .ok (.bipush (-3), 2) := by decide +kernel
theorem dX6_bagOf_12 : decode cX6_bagOf 12 = .ok (.if_icmp .gt 10, 3) := by decide +kernel
theorem dX6_bagOf_15 : decode cX6_bagOf 15 = .ok (.bipush (-3), 2) := by decide +kernel
theorem dX6_bagOf_17 : decode cX6_bagOf 17 = .ok (.iload_n 2, 1) := by decide +kernel
theorem dX6_bagOf_18 : decode cX6_bagOf 18 = .ok (.isub, 1) := by decide +kernel
theorem dX6_bagOf_19 : decode cX6_bagOf 19 = .ok (.goto 4, 3) := by decide +kernel
theorem dX6_bagOf_22 : decode cX6_bagOf 22 = .ok (.iconst (-1), 1) := by decide +kernel
theorem dX6_bagOf_23 : decode cX6_bagOf 23 = .ok (.ireturn, 1) := by decide +kernel
theorem dX6_isWithin_0 : decode cX6_isWithin 0 = .ok (.iload_n 1, 1) := by decide +kernel
theorem dX6_isWithin_1 : decode cX6_isWithin 1 = .ok (.istore_n 3, 1) := by decide +kernel
theorem dX6_isWithin_2 : decode cX6_isWithin 2 = .ok (.iconst 0, 1) := by decide +kernel
theorem dX6_isWithin_3 : decode cX6_isWithin 3 = .ok (.istore 4, 2) := by decide +kernel
theorem dX6_isWithin_5 : decode cX6_isWithin 5 = .ok (.iload 4, 2) := by decide +kernel
theorem dX6_isWithin_7 : decode cX6_isWithin 7 = .ok (.bipush 24, 2) := by decide +kernel
theorem dX6_isWithin_9 : decode cX6_isWithin 9 = .ok (.if_icmp .gt 27, 3) := by decide +kernel
theorem dX6_isWithin_12 : decode cX6_isWithin 12 = .ok (.iload_n 3, 1) := by decide +kernel
theorem dX6_isWithin_13 : decode cX6_isWithin 13 = .ok (.iconst (-1), 1) := by decide +kernel
theorem dX6_isWithin_14 : decode cX6_isWithin 14 = .ok (.if_icmp .eq 22, 3) := by decide +kernel
theorem dX6_isWithin_17 : decode cX6_isWithin 17 = .ok (.iload_n 3, 1) := by decide +kernel
theorem dX6_isWithin_18 : decode cX6_isWithin 18 = .ok (.iload_n 2, 1) := by decide +kernel
theorem dX6_isWithin_19 : decode cX6_isWithin 19 = .ok (.if_icmp .ne 5, 3) := by decide +kernel
theorem dX6_isWithin_22 : decode cX6_isWithin 22 = .ok (.iconst 1, 1) := by decide +kernel
theorem dX6_isWithin_23 : decode cX6_isWithin 23 = .ok (.ireturn, 1) := by decide +kernel
theorem dX6_isWithin_24 : decode cX6_isWithin 24 = .ok (.aload_n 0, 1) := by decide +kernel
theorem dX6_isWithin_25 : decode cX6_isWithin 25 = .ok (.iload_n 3, 1) := by decide +kernel
theorem dX6_isWithin_26 : decode cX6_isWithin 26 = .ok (.invokevirtual 34, 3) := by decide +kernel
theorem dX6_isWithin_29 : decode cX6_isWithin 29 = .ok (.istore_n 3, 1) := by decide +kernel
theorem dX6_isWithin_30 : decode cX6_isWithin 30 = .ok (.iinc 4 1, 3) := by decide +kernel
theorem dX6_isWithin_33 : decode cX6_isWithin 33 = .ok (.goto (-28), 3) := by decide +kernel
theorem dX6_isWithin_36 : decode cX6_isWithin 36 = .ok (.iconst 0, 1) := by decide +kernel
theorem dX6_isWithin_37 : decode cX6_isWithin 37 = .ok (.ireturn, 1) := by decide +kernel
theorem dX6_outerPlace_0 : decode cX6_outerPlace 0 = .ok (.iload_n 1, 1) := by decide +kernel
theorem dX6_outerPlace_1 : decode cX6_outerPlace 1 = .ok (.istore_n 2, 1) := by decide +kernel
theorem dX6_outerPlace_2 : decode cX6_outerPlace 2 = .ok (.iconst 0, 1) := by decide +kernel
theorem dX6_outerPlace_3 : decode cX6_outerPlace 3 = .ok (.istore_n 3, 1) := by decide +kernel
theorem dX6_outerPlace_4 : decode cX6_outerPlace 4 = .ok (.iload_n 3, 1) := by decide +kernel
theorem dX6_outerPlace_5 : decode cX6_outerPlace 5 = .ok (.bipush 24, 2) := by decide +kernel
theorem dX6_outerPlace_7 : decode cX6_outerPlace 7 = .ok (.if_icmp .ge 24, 3) := by decide +kernel
theorem dX6_outerPlace_10 : decode cX6_outerPlace 10 = .ok (.aload_n 0, 1) := by decide +kernel
theorem dX6_outerPlace_11 : decode cX6_outerPlace 11 = .ok (.iload_n 2, 1) := by decide +kernel
theorem dX6_outerPlace_12 : decode cX6_outerPlace 12 = .ok (.invokevirtual 34, 3) := by decide +kernel
theorem dX6_outerPlace_15 : decode cX6_outerPlace 15 = .ok (.iconst (-1), 1) := by decide +kernel
theorem dX6_outerPlace_16 : decode cX6_outerPlace 16 = .ok (.if_icmp .eq 15, 3) := by decide +kernel
theorem dX6_outerPlace_19 : decode cX6_outerPlace 19 = .ok (.aload_n 0, 1) := by decide +kernel
theorem dX6_outerPlace_20 : decode cX6_outerPlace 20 = .ok (.iload_n 2, 1) := by decide +kernel
theorem dX6_outerPlace_21 : decode cX6_outerPlace 21 = .ok (.invokevirtual 34, 3) := by decide +kernel
theorem dX6_outerPlace_24 : decode cX6_outerPlace 24 = .ok (.istore_n 2, 1) := by decide +kernel
theorem dX6_outerPlace_25 : decode cX6_outerPlace 25 = .ok (.iinc 3 1, 3) := by decide +kernel
theorem dX6_outerPlace_28 : decode cX6_outerPlace 28 = .ok (.goto (-24), 3) := by decide +kernel
theorem dX6_outerPlace_31 : decode cX6_outerPlace 31 = .ok (.aload_n 0, 1) := by decide +kernel
theorem dX6_outerPlace_32 : decode cX6_outerPlace 32 = .ok (.getfield 15, 3) := by decide +kernel
theorem dX6_outerPlace_35 : decode cX6_outerPlace 35 = .ok (.iload_n 2, 1) := by decide +kernel
theorem dX6_outerPlace_36 : decode cX6_outerPlace 36 = .ok (.invokestatic 30, 3) := by decide +kernel
theorem dX6_outerPlace_39 : decode cX6_outerPlace 39 = .ok (.ireturn, 1) := by decide +kernel
theorem dX6_wholeWeight_0 : decode cX6_wholeWeight 0 = .ok (.iconst 0, 1) := by decide +kernel
theorem dX6_wholeWeight_1 : decode cX6_wholeWeight 1 = .ok (.istore_n 3, 1) := by decide +kernel
theorem dX6_wholeWeight_2 : decode cX6_wholeWeight 2 = .ok (.iconst 0, 1) := by decide +kernel
theorem dX6_wholeWeight_3 : decode cX6_wholeWeight 3 = .ok (.istore 4, 2) := by decide +kernel
theorem dX6_wholeWeight_5 : decode cX6_wholeWeight 5 = .ok (.iload 4, 2) := by decide +kernel
theorem dX6_wholeWeight_7 : decode cX6_wholeWeight 7 = .ok (.aload_n 0, 1) := by decide +kernel
theorem dX6_wholeWeight_8 : decode cX6_wholeWeight 8 = .ok (.getfield 18, 3) := by decide +kernel
theorem dX6_wholeWeight_11 : decode cX6_wholeWeight 11 = .ok (.if_icmp .ge 38, 3) := by decide +kernel
theorem dX6_wholeWeight_14 : decode cX6_wholeWeight 14 = .ok (.aload_n 0, 1) := by decide +kernel
theorem dX6_wholeWeight_15 : decode cX6_wholeWeight 15 = .ok (.iload 4, 2) := by decide +kernel
theorem dX6_wholeWeight_17 : decode cX6_wholeWeight 17 = .ok (.iload_n 1, 1) := by decide +kernel
theorem dX6_wholeWeight_18 : decode cX6_wholeWeight 18 = .ok (.invokevirtual 38, 3) := by decide +kernel
theorem dX6_wholeWeight_21 : decode cX6_wholeWeight 21 = .ok (.ifCond .eq 22, 3) := by decide +kernel
theorem dX6_wholeWeight_24 : decode cX6_wholeWeight 24 = .ok (.iload_n 3, 1) := by decide +kernel
theorem dX6_wholeWeight_25 : decode cX6_wholeWeight 25 = .ok (.aload_n 2, 1) := by decide +kernel
theorem dX6_wholeWeight_26 : decode cX6_wholeWeight 26 = .ok (.getfield 42, 3) := by decide +kernel
theorem dX6_wholeWeight_29 : decode cX6_wholeWeight 29 = .ok (.aload_n 0, 1) := by decide +kernel
theorem dX6_wholeWeight_30 : decode cX6_wholeWeight 30 = .ok (.getfield 9, 3) := by decide +kernel
theorem dX6_wholeWeight_33 : decode cX6_wholeWeight 33 = .ok (.iload 4, 2) := by decide +kernel
theorem dX6_wholeWeight_35 : decode cX6_wholeWeight 35 = .ok (.invokestatic 30, 3) := by decide +kernel
theorem dX6_wholeWeight_38 : decode cX6_wholeWeight 38 = .ok (.invokestatic 30, 3) := by decide +kernel
theorem dX6_wholeWeight_41 : decode cX6_wholeWeight 41 = .ok (.iadd, 1) := by decide +kernel
theorem dX6_wholeWeight_42 : decode cX6_wholeWeight 42 = .ok (.istore_n 3, 1) := by decide +kernel
theorem dX6_wholeWeight_43 : decode cX6_wholeWeight 43 = .ok (.iinc 4 1, 3) := by decide +kernel
theorem dX6_wholeWeight_46 : decode cX6_wholeWeight 46 = .ok (.goto (-41), 3) := by decide +kernel
theorem dX6_wholeWeight_49 : decode cX6_wholeWeight 49 = .ok (.iload_n 3, 1) := by decide +kernel
theorem dX6_wholeWeight_50 : decode cX6_wholeWeight 50 = .ok (.ireturn, 1) := by decide +kernel
theorem dX6_carriedWeight_0 : decode cX6_carriedWeight 0 = .ok (.iconst 0, 1) := by decide +kernel
theorem dX6_carriedWeight_1 : decode cX6_carriedWeight 1 = .ok (.istore_n 2, 1) := by decide +kernel
theorem dX6_carriedWeight_2 : decode cX6_carriedWeight 2 = .ok (.iconst 0, 1) := by decide +kernel
theorem dX6_carriedWeight_3 : decode cX6_carriedWeight 3 = .ok (.istore_n 3, 1) := by decide +kernel
theorem dX6_carriedWeight_4 : decode cX6_carriedWeight 4 = .ok (.iload_n 3, 1) := by decide +kernel
theorem dX6_carriedWeight_5 : decode cX6_carriedWeight 5 = .ok (.aload_n 0, 1) := by decide +kernel
theorem dX6_carriedWeight_6 : decode cX6_carriedWeight 6 = .ok (.getfield 18, 3) := by decide +kernel
theorem dX6_carriedWeight_9 : decode cX6_carriedWeight 9 = .ok (.if_icmp .ge 36, 3) := by decide +kernel
theorem dX6_carriedWeight_12 : decode cX6_carriedWeight 12 = .ok (.aload_n 0, 1) := by decide +kernel
theorem dX6_carriedWeight_13 : decode cX6_carriedWeight 13 = .ok (.iload_n 3, 1) := by decide +kernel
theorem dX6_carriedWeight_14 : decode cX6_carriedWeight 14 = .ok (.invokevirtual 47, 3) := by decide +kernel
theorem dX6_carriedWeight_17 : decode cX6_carriedWeight 17 = .ok (.iconst (-1), 1) := by decide +kernel
theorem dX6_carriedWeight_18 : decode cX6_carriedWeight 18 = .ok (.if_icmp .ne 21, 3) := by decide +kernel
theorem dX6_carriedWeight_21 : decode cX6_carriedWeight 21 = .ok (.iload_n 2, 1) := by decide +kernel
theorem dX6_carriedWeight_22 : decode cX6_carriedWeight 22 = .ok (.aload_n 1, 1) := by decide +kernel
theorem dX6_carriedWeight_23 : decode cX6_carriedWeight 23 = .ok (.getfield 42, 3) := by decide +kernel
theorem dX6_carriedWeight_26 : decode cX6_carriedWeight 26 = .ok (.aload_n 0, 1) := by decide +kernel
theorem dX6_carriedWeight_27 : decode cX6_carriedWeight 27 = .ok (.getfield 9, 3) := by decide +kernel
theorem dX6_carriedWeight_30 : decode cX6_carriedWeight 30 = .ok (.iload_n 3, 1) := by decide +kernel
theorem dX6_carriedWeight_31 : decode cX6_carriedWeight 31 = .ok (.invokestatic 30, 3) := by decide +kernel
theorem dX6_carriedWeight_34 : decode cX6_carriedWeight 34 = .ok (.invokestatic 30, 3) := by decide +kernel
theorem dX6_carriedWeight_37 : decode cX6_carriedWeight 37 = .ok (.iadd, 1) := by decide +kernel
theorem dX6_carriedWeight_38 : decode cX6_carriedWeight 38 = .ok (.istore_n 2, 1) := by decide +kernel
theorem dX6_carriedWeight_39 : decode cX6_carriedWeight 39 = .ok (.iinc 3 1, 3) := by decide +kernel
theorem dX6_carriedWeight_42 : decode cX6_carriedWeight 42 = .ok (.goto (-38), 3) := by decide +kernel
theorem dX6_carriedWeight_45 : decode cX6_carriedWeight 45 = .ok (.iload_n 2, 1) := by decide +kernel
theorem dX6_carriedWeight_46 : decode cX6_carriedWeight 46 = .ok (.ireturn, 1) := by decide +kernel
theorem dX6_countAt_0 : decode cX6_countAt 0 = .ok (.iconst 0, 1) := by decide +kernel
theorem dX6_countAt_1 : decode cX6_countAt 1 = .ok (.istore_n 2, 1) := by decide +kernel
theorem dX6_countAt_2 : decode cX6_countAt 2 = .ok (.iconst 0, 1) := by decide +kernel
theorem dX6_countAt_3 : decode cX6_countAt 3 = .ok (.istore_n 3, 1) := by decide +kernel
theorem dX6_countAt_4 : decode cX6_countAt 4 = .ok (.iload_n 3, 1) := by decide +kernel
theorem dX6_countAt_5 : decode cX6_countAt 5 = .ok (.aload_n 0, 1) := by decide +kernel
theorem dX6_countAt_6 : decode cX6_countAt 6 = .ok (.getfield 18, 3) := by decide +kernel
theorem dX6_countAt_9 : decode cX6_countAt 9 = .ok (.if_icmp .ge 24, 3) := by decide +kernel
theorem dX6_countAt_12 : decode cX6_countAt 12 = .ok (.aload_n 0, 1) := by decide +kernel
theorem dX6_countAt_13 : decode cX6_countAt 13 = .ok (.getfield 15, 3) := by decide +kernel
theorem dX6_countAt_16 : decode cX6_countAt 16 = .ok (.iload_n 3, 1) := by decide +kernel
theorem dX6_countAt_17 : decode cX6_countAt 17 = .ok (.invokestatic 30, 3) := by decide +kernel
theorem dX6_countAt_20 : decode cX6_countAt 20 = .ok (.iload_n 1, 1) := by decide +kernel
theorem dX6_countAt_21 : decode cX6_countAt 21 = .ok (.if_icmp .ne 6, 3) := by decide +kernel
theorem dX6_countAt_24 : decode cX6_countAt 24 = .ok (.iinc 2 1, 3) := by decide +kernel
theorem dX6_countAt_27 : decode cX6_countAt 27 = .ok (.iinc 3 1, 3) := by decide +kernel
theorem dX6_countAt_30 : decode cX6_countAt 30 = .ok (.goto (-26), 3) := by decide +kernel
theorem dX6_countAt_33 : decode cX6_countAt 33 = .ok (.iload_n 2, 1) := by decide +kernel
theorem dX6_countAt_34 : decode cX6_countAt 34 = .ok (.ireturn, 1) := by decide +kernel
theorem dX6_moveAll_0 : decode cX6_moveAll 0 = .ok (.iconst 0, 1) := by decide +kernel
theorem dX6_moveAll_1 : decode cX6_moveAll 1 = .ok (.istore_n 3, 1) := by decide +kernel
theorem dX6_moveAll_2 : decode cX6_moveAll 2 = .ok (.iload_n 3, 1) := by decide +kernel
theorem dX6_moveAll_3 : decode cX6_moveAll 3 = .ok (.aload_n 0, 1) := by decide +kernel
theorem dX6_moveAll_4 : decode cX6_moveAll 4 = .ok (.getfield 18, 3) := by decide +kernel
theorem dX6_moveAll_7 : decode cX6_moveAll 7 = .ok (.if_icmp .ge 30, 3) := by decide +kernel
theorem dX6_moveAll_10 : decode cX6_moveAll 10 = .ok (.aload_n 0, 1) := by decide +kernel
theorem dX6_moveAll_11 : decode cX6_moveAll 11 = .ok (.getfield 15, 3) := by decide +kernel
theorem dX6_moveAll_14 : decode cX6_moveAll 14 = .ok (.iload_n 3, 1) := by decide +kernel
theorem dX6_moveAll_15 : decode cX6_moveAll 15 = .ok (.invokestatic 30, 3) := by decide +kernel
theorem dX6_moveAll_18 : decode cX6_moveAll 18 = .ok (.iload_n 1, 1) := by decide +kernel
theorem dX6_moveAll_19 : decode cX6_moveAll 19 = .ok (.if_icmp .ne 12, 3) := by decide +kernel
theorem dX6_moveAll_22 : decode cX6_moveAll 22 = .ok (.aload_n 0, 1) := by decide +kernel
theorem dX6_moveAll_23 : decode cX6_moveAll 23 = .ok (.getfield 15, 3) := by decide +kernel
theorem dX6_moveAll_26 : decode cX6_moveAll 26 = .ok (.iload_n 3, 1) := by decide +kernel
theorem dX6_moveAll_27 : decode cX6_moveAll 27 = .ok (.iload_n 2, 1) := by decide +kernel
theorem dX6_moveAll_28 : decode cX6_moveAll 28 = .ok (.invokestatic 26, 3) := by decide +kernel
theorem dX6_moveAll_31 : decode cX6_moveAll 31 = .ok (.iinc 3 1, 3) := by decide +kernel
theorem dX6_moveAll_34 : decode cX6_moveAll 34 = .ok (.goto (-32), 3) := by decide +kernel
theorem dX6_moveAll_37 : decode cX6_moveAll 37 = .ok (.return_, 1) := by decide +kernel
theorem dX6_hasInHands_0 : decode cX6_hasInHands 0 = .ok (.iconst 0, 1) := by decide +kernel
theorem dX6_hasInHands_1 : decode cX6_hasInHands 1 = .ok (.istore_n 2, 1) := by decide +kernel
theorem dX6_hasInHands_2 : decode cX6_hasInHands 2 = .ok (.iload_n 2, 1) := by decide +kernel
theorem dX6_hasInHands_3 : decode cX6_hasInHands 3 = .ok (.aload_n 0, 1) := by decide +kernel
theorem dX6_hasInHands_4 : decode cX6_hasInHands 4 = .ok (.getfield 18, 3) := by decide +kernel
theorem dX6_hasInHands_7 : decode cX6_hasInHands 7 = .ok (.if_icmp .ge 35, 3) := by decide +kernel
theorem dX6_hasInHands_10 : decode cX6_hasInHands 10 = .ok (.aload_n 0, 1) := by decide +kernel
theorem dX6_hasInHands_11 : decode cX6_hasInHands 11 = .ok (.getfield 9, 3) := by decide +kernel
theorem dX6_hasInHands_14 : decode cX6_hasInHands 14 = .ok (.iload_n 2, 1) := by decide +kernel
theorem dX6_hasInHands_15 : decode cX6_hasInHands 15 = .ok (.invokestatic 30, 3) := by decide +kernel
theorem dX6_hasInHands_18 : decode cX6_hasInHands 18 = .ok (.iload_n 1, 1) := by decide +kernel
theorem dX6_hasInHands_19 : decode cX6_hasInHands 19 = .ok (.if_icmp .ne 17, 3) := by decide +kernel
theorem dX6_hasInHands_22 : decode cX6_hasInHands 22 = .ok (.aload_n 0, 1) := by decide +kernel
theorem dX6_hasInHands_23 : decode cX6_hasInHands 23 = .ok (.getfield 15, 3) := by decide +kernel
theorem dX6_hasInHands_26 : decode cX6_hasInHands 26 = .ok (.iload_n 2, 1) := by decide +kernel
theorem dX6_hasInHands_27 : decode cX6_hasInHands 27 = .ok (.invokestatic 30, 3) := by decide +kernel
theorem dX6_hasInHands_30 : decode cX6_hasInHands 30 = .ok (.iconst (-1), 1) := by decide +kernel
theorem dX6_hasInHands_31 : decode cX6_hasInHands 31 = .ok (.if_icmp .ne 5, 3) := by decide +kernel
theorem dX6_hasInHands_34 : decode cX6_hasInHands 34 = .ok (.iconst 1, 1) := by decide +kernel
theorem dX6_hasInHands_35 : decode cX6_hasInHands 35 = .ok (.ireturn, 1) := by decide +kernel
theorem dX6_hasInHands_36 : decode cX6_hasInHands 36 = .ok (.iinc 2 1, 3) := by decide +kernel
theorem dX6_hasInHands_39 : decode cX6_hasInHands 39 = .ok (.goto (-37), 3) := by decide +kernel
theorem dX6_hasInHands_42 : decode cX6_hasInHands 42 = .ok (.iconst 0, 1) := by decide +kernel
theorem dX6_hasInHands_43 : decode cX6_hasInHands 43 = .ok (.ireturn, 1) := by decide +kernel
theorem dX6_isCarriedKey_0 : decode cX6_isCarriedKey 0 = .ok (.iconst 0, 1) := by decide +kernel
theorem dX6_isCarriedKey_1 : decode cX6_isCarriedKey 1 = .ok (.istore_n 2, 1) := by decide +kernel
theorem dX6_isCarriedKey_2 : decode cX6_isCarriedKey 2 = .ok (.iload_n 2, 1) := by decide +kernel
theorem dX6_isCarriedKey_3 : decode cX6_isCarriedKey 3 = .ok (.aload_n 0, 1) := by decide +kernel
theorem dX6_isCarriedKey_4 : decode cX6_isCarriedKey 4 = .ok (.getfield 18, 3) := by decide +kernel
theorem dX6_isCarriedKey_7 : decode cX6_isCarriedKey 7 = .ok (.if_icmp .ge 32, 3) := by decide +kernel
theorem dX6_isCarriedKey_10 : decode cX6_isCarriedKey 10 = .ok (.aload_n 0, 1) := by decide +kernel
theorem dX6_isCarriedKey_11 : decode cX6_isCarriedKey 11 = .ok (.getfield 9, 3) := by decide +kernel
theorem dX6_isCarriedKey_14 : decode cX6_isCarriedKey 14 = .ok (.iload_n 2, 1) := by decide +kernel
theorem dX6_isCarriedKey_15 : decode cX6_isCarriedKey 15 = .ok (.invokestatic 30, 3) := by decide +kernel
theorem dX6_isCarriedKey_18 : decode cX6_isCarriedKey 18 = .ok (.iload_n 1, 1) := by decide +kernel
theorem dX6_isCarriedKey_19 : decode cX6_isCarriedKey 19 = .ok (.if_icmp .ne 14, 3) := by decide +kernel
theorem dX6_isCarriedKey_22 : decode cX6_isCarriedKey 22 = .ok (.aload_n 0, 1) := by decide +kernel
theorem dX6_isCarriedKey_23 : decode cX6_isCarriedKey 23 = .ok (.iload_n 2, 1) := by decide +kernel
theorem dX6_isCarriedKey_24 : decode cX6_isCarriedKey 24 = .ok (.invokevirtual 47, 3) := by decide +kernel
theorem dX6_isCarriedKey_27 : decode cX6_isCarriedKey 27 = .ok (.iconst (-1), 1) := by decide +kernel
theorem dX6_isCarriedKey_28 : decode cX6_isCarriedKey 28 = .ok (.if_icmp .ne 5, 3) := by decide +kernel
theorem dX6_isCarriedKey_31 : decode cX6_isCarriedKey 31 = .ok (.iconst 1, 1) := by decide +kernel
theorem dX6_isCarriedKey_32 : decode cX6_isCarriedKey 32 = .ok (.ireturn, 1) := by decide +kernel
theorem dX6_isCarriedKey_33 : decode cX6_isCarriedKey 33 = .ok (.iinc 2 1, 3) := by decide +kernel
theorem dX6_isCarriedKey_36 : decode cX6_isCarriedKey 36 = .ok (.goto (-34), 3) := by decide +kernel
theorem dX6_isCarriedKey_39 : decode cX6_isCarriedKey 39 = .ok (.iconst 0, 1) := by decide +kernel
theorem dX6_isCarriedKey_40 : decode cX6_isCarriedKey 40 = .ok (.ireturn, 1) := by decide +kernel
theorem dX6_isLike_0 : decode cX6_isLike 0 = .ok (.iconst 0, 1) := by decide +kernel
theorem dX6_isLike_1 : decode cX6_isLike 1 = .ok (.istore_n 2, 1) := by decide +kernel
theorem dX6_isLike_2 : decode cX6_isLike 2 = .ok (.iload_n 2, 1) := by decide +kernel
theorem dX6_isLike_3 : decode cX6_isLike 3 = .ok (.aload_n 0, 1) := by decide +kernel
theorem dX6_isLike_4 : decode cX6_isLike 4 = .ok (.getfield 18, 3) := by decide +kernel
theorem dX6_isLike_7 : decode cX6_isLike 7 = .ok (.if_icmp .ge 30, 3) := by decide +kernel
theorem dX6_isLike_10 : decode cX6_isLike 10 = .ok (.aload_n 0, 1) := by decide +kernel
theorem dX6_isLike_11 : decode cX6_isLike 11 = .ok (.getfield 15, 3) := by decide +kernel
theorem dX6_isLike_14 : decode cX6_isLike 14 = .ok (.iload_n 2, 1) := by decide +kernel
theorem dX6_isLike_15 : decode cX6_isLike 15 = .ok (.invokestatic 30, 3) := by decide +kernel
theorem dX6_isLike_18 : decode cX6_isLike 18 = .ok (.aload_n 1, 1) := by decide +kernel
theorem dX6_isLike_19 : decode cX6_isLike 19 = .ok (.getfield 15, 3) := by decide +kernel
theorem dX6_isLike_22 : decode cX6_isLike 22 = .ok (.iload_n 2, 1) := by decide +kernel
theorem dX6_isLike_23 : decode cX6_isLike 23 = .ok (.invokestatic 30, 3) := by decide +kernel
theorem dX6_isLike_26 : decode cX6_isLike 26 = .ok (.if_icmp .eq 5, 3) := by decide +kernel
theorem dX6_isLike_29 : decode cX6_isLike 29 = .ok (.iconst 0, 1) := by decide +kernel
theorem dX6_isLike_30 : decode cX6_isLike 30 = .ok (.ireturn, 1) := by decide +kernel
theorem dX6_isLike_31 : decode cX6_isLike 31 = .ok (.iinc 2 1, 3) := by decide +kernel
theorem dX6_isLike_34 : decode cX6_isLike 34 = .ok (.goto (-32), 3) := by decide +kernel
theorem dX6_isLike_37 : decode cX6_isLike 37 = .ok (.aload_n 0, 1) := by decide +kernel
theorem dX6_isLike_38 : decode cX6_isLike 38 = .ok (.getfield 18, 3) := by decide +kernel
theorem dX6_isLike_41 : decode cX6_isLike 41 = .ok (.aload_n 1, 1) := by decide +kernel
theorem dX6_isLike_42 : decode cX6_isLike 42 = .ok (.getfield 18, 3) := by decide +kernel
theorem dX6_isLike_45 : decode cX6_isLike 45 = .ok (.if_icmp .ne 7, 3) := by decide +kernel
theorem dX6_isLike_48 : decode cX6_isLike 48 = .ok (.iconst 1, 1) := by decide +kernel
theorem dX6_isLike_49 : decode cX6_isLike 49 = .ok (.goto 4, 3) := by decide +kernel
theorem dX6_isLike_52 : decode cX6_isLike 52 = .ok (.iconst 0, 1) := by decide +kernel
theorem dX6_isLike_53 : decode cX6_isLike 53 = .ok (.ireturn, 1) := by decide +kernel
theorem dX7_init_0 : decode cX7_init 0 = .ok (.aload_n 0, 1) := by decide +kernel
theorem dX7_init_1 : decode cX7_init 1 = .ok (.invokespecial 3, 3) := by decide +kernel
theorem dX7_init_4 : decode cX7_init 4 = .ok (.aload_n 0, 1) := by decide +kernel
theorem dX7_init_5 : decode cX7_init 5 = .ok (.new 9, 3) := by decide +kernel
theorem dX7_init_8 : decode cX7_init 8 = .ok (.dup, 1) := by decide +kernel
theorem dX7_init_9 : decode cX7_init 9 = .ok (.invokespecial 11, 3) := by decide +kernel
theorem dX7_init_12 : decode cX7_init 12 = .ok (.putfield 12, 3) := by decide +kernel
theorem dX7_init_15 : decode cX7_init 15 = .ok (.aload_n 0, 1) := by decide +kernel
theorem dX7_init_16 : decode cX7_init 16 = .ok (.new 18, 3) := by decide +kernel
theorem dX7_init_19 : decode cX7_init 19 = .ok (.dup, 1) := by decide +kernel
theorem dX7_init_20 : decode cX7_init 20 = .ok (.invokespecial 20, 3) := by decide +kernel
theorem dX7_init_23 : decode cX7_init 23 = .ok (.putfield 21, 3) := by decide +kernel
theorem dX7_init_26 : decode cX7_init 26 = .ok (.aload_n 0, 1) := by decide +kernel
theorem dX7_init_27 : decode cX7_init 27 = .ok (.new 25, 3) := by decide +kernel
theorem dX7_init_30 : decode cX7_init 30 = .ok (.dup, 1) := by decide +kernel
theorem dX7_init_31 : decode cX7_init 31 = .ok (.invokespecial 27, 3) := by decide +kernel
theorem dX7_init_34 : decode cX7_init 34 = .ok (.putfield 28, 3) := by decide +kernel
theorem dX7_init_37 : decode cX7_init 37 = .ok (.aload_n 0, 1) := by decide +kernel
theorem dX7_init_38 : decode cX7_init 38 = .ok (.new 32, 3) := by decide +kernel
theorem dX7_init_41 : decode cX7_init 41 = .ok (.dup, 1) := by decide +kernel
theorem dX7_init_42 : decode cX7_init 42 = .ok (.invokespecial 34, 3) := by decide +kernel
theorem dX7_init_45 : decode cX7_init 45 = .ok (.putfield 35, 3) := by decide +kernel
theorem dX7_init_48 : decode cX7_init 48 = .ok (.aload_n 0, 1) := by decide +kernel
theorem dX7_init_49 : decode cX7_init 49 = .ok (.new 39, 3) := by decide +kernel
theorem dX7_init_52 : decode cX7_init 52 = .ok (.dup, 1) := by decide +kernel
theorem dX7_init_53 : decode cX7_init 53 = .ok (.invokespecial 41, 3) := by decide +kernel
theorem dX7_init_56 : decode cX7_init 56 = .ok (.putfield 42, 3) := by decide +kernel
theorem dX7_init_59 : decode cX7_init 59 = .ok (.aload_n 0, 1) := by decide +kernel
theorem dX7_init_60 : decode cX7_init 60 = .ok (.iconst 0, 1) := by decide +kernel
theorem dX7_init_61 : decode cX7_init 61 = .ok (.putfield 46, 3) := by decide +kernel
theorem dX7_init_64 : decode cX7_init 64 = .ok (.aload_n 0, 1) := by decide +kernel
theorem dX7_init_65 : decode cX7_init 65 = .ok (.iconst 0, 1) := by decide +kernel
theorem dX7_init_66 : decode cX7_init 66 = .ok (.putfield 50, 3) := by decide +kernel
theorem dX7_init_69 : decode cX7_init 69 = .ok (.aload_n 0, 1) := by decide +kernel
theorem dX7_init_70 : decode cX7_init 70 = .ok (.iconst 0, 1) := by decide +kernel
theorem dX7_init_71 : decode cX7_init 71 = .ok (.putfield 53, 3) := by decide +kernel
theorem dX7_init_74 : decode cX7_init 74 = .ok (.aload_n 0, 1) := by decide +kernel
theorem dX7_init_75 : decode cX7_init 75 = .ok (.iconst 0, 1) := by decide +kernel
theorem dX7_init_76 : decode cX7_init 76 = .ok (.putfield 56, 3) := by decide +kernel
theorem dX7_init_79 : decode cX7_init 79 = .ok (.aload_n 0, 1) := by decide +kernel
theorem dX7_init_80 : decode cX7_init 80 = .ok (.iconst 0, 1) := by decide +kernel
theorem dX7_init_81 : decode cX7_init 81 = .ok (.putfield 59, 3) := by decide +kernel
theorem dX7_init_84 : decode cX7_init 84 = .ok (.return_, 1) := by decide +kernel
theorem dX7_copy_0 : decode cX7_copy 0 = .ok (.aload_n 0, 1) := by decide +kernel
theorem dX7_copy_1 : decode cX7_copy 1 = .ok (.getfield 12, 3) := by decide +kernel
theorem dX7_copy_4 : decode cX7_copy 4 = .ok (.aload_n 1, 1) := by decide +kernel
theorem dX7_copy_5 : decode cX7_copy 5 = .ok (.getfield 12, 3) := by decide +kernel
theorem dX7_copy_8 : decode cX7_copy 8 = .ok (.invokevirtual 62, 3) := by decide +kernel
theorem dX7_copy_11 : decode cX7_copy 11 = .ok (.aload_n 0, 1) := by decide +kernel
theorem dX7_copy_12 : decode cX7_copy 12 = .ok (.getfield 21, 3) := by decide +kernel
theorem dX7_copy_15 : decode cX7_copy 15 = .ok (.aload_n 1, 1) := by decide +kernel
theorem dX7_copy_16 : decode cX7_copy 16 = .ok (.getfield 21, 3) := by decide +kernel
theorem dX7_copy_19 : decode cX7_copy 19 = .ok (.invokevirtual 66, 3) := by decide +kernel
theorem dX7_copy_22 : decode cX7_copy 22 = .ok (.aload_n 0, 1) := by decide +kernel
theorem dX7_copy_23 : decode cX7_copy 23 = .ok (.getfield 28, 3) := by decide +kernel
theorem dX7_copy_26 : decode cX7_copy 26 = .ok (.aload_n 1, 1) := by decide +kernel
theorem dX7_copy_27 : decode cX7_copy 27 = .ok (.getfield 28, 3) := by decide +kernel
theorem dX7_copy_30 : decode cX7_copy 30 = .ok (.invokevirtual 69, 3) := by decide +kernel
theorem dX7_copy_33 : decode cX7_copy 33 = .ok (.aload_n 0, 1) := by decide +kernel
theorem dX7_copy_34 : decode cX7_copy 34 = .ok (.getfield 35, 3) := by decide +kernel
theorem dX7_copy_37 : decode cX7_copy 37 = .ok (.aload_n 1, 1) := by decide +kernel
theorem dX7_copy_38 : decode cX7_copy 38 = .ok (.getfield 35, 3) := by decide +kernel
theorem dX7_copy_41 : decode cX7_copy 41 = .ok (.invokevirtual 72, 3) := by decide +kernel
theorem dX7_copy_44 : decode cX7_copy 44 = .ok (.aload_n 0, 1) := by decide +kernel
theorem dX7_copy_45 : decode cX7_copy 45 = .ok (.getfield 42, 3) := by decide +kernel
theorem dX7_copy_48 : decode cX7_copy 48 = .ok (.aload_n 1, 1) := by decide +kernel
theorem dX7_copy_49 : decode cX7_copy 49 = .ok (.getfield 42, 3) := by decide +kernel
theorem dX7_copy_52 : decode cX7_copy 52 = .ok (.invokevirtual 75, 3) := by decide +kernel
theorem dX7_copy_55 : decode cX7_copy 55 = .ok (.aload_n 0, 1) := by decide +kernel
theorem dX7_copy_56 : decode cX7_copy 56 = .ok (.iconst 0, 1) := by decide +kernel
theorem dX7_copy_57 : decode cX7_copy 57 = .ok (.putfield 46, 3) := by decide +kernel
theorem dX7_copy_60 : decode cX7_copy 60 = .ok (.aload_n 0, 1) := by decide +kernel
theorem dX7_copy_61 : decode cX7_copy 61 = .ok (.iconst 0, 1) := by decide +kernel
theorem dX7_copy_62 : decode cX7_copy 62 = .ok (.putfield 53, 3) := by decide +kernel
theorem dX7_copy_65 : decode cX7_copy 65 = .ok (.aload_n 0, 1) := by decide +kernel
theorem dX7_copy_66 : decode cX7_copy 66 = .ok (.iconst 0, 1) := by decide +kernel
theorem dX7_copy_67 : decode cX7_copy 67 = .ok (.putfield 56, 3) := by decide +kernel
theorem dX7_copy_70 : decode cX7_copy 70 = .ok (.aload_n 0, 1) := by decide +kernel
theorem dX7_copy_71 : decode cX7_copy 71 = .ok (.iconst 0, 1) := by decide +kernel
theorem dX7_copy_72 : decode cX7_copy 72 = .ok (.putfield 59, 3) := by decide +kernel
theorem dX7_copy_75 : decode cX7_copy 75 = .ok (.return_, 1) := by decide +kernel
theorem dX7_heroSpot_0 : decode cX7_heroSpot 0 = .ok (.aload_n 0, 1) := by decide +kernel
theorem dX7_heroSpot_1 : decode cX7_heroSpot 1 = .ok (.getfield 28, 3) := by decide +kernel
theorem dX7_heroSpot_4 : decode cX7_heroSpot 4 = .ok (.getfield 78, 3) := by decide +kernel
theorem dX7_heroSpot_7 : decode cX7_heroSpot 7 = .ok (.iconst 0, 1) := by decide +kernel
theorem dX7_heroSpot_8 : decode cX7_heroSpot 8 = .ok (.invokestatic 82, 3) := by decide +kernel
theorem dX7_heroSpot_11 : decode cX7_heroSpot 11 = .ok (.ireturn, 1) := by decide +kernel
theorem dX7_allStandFree_0 : decode cX7_allStandFree 0 = .ok (.iconst 0, 1) := by decide +kernel
theorem dX7_allStandFree_1 : decode cX7_allStandFree 1 = .ok (.istore_n 1, 1) := by decide +kernel
theorem dX7_allStandFree_2 : decode cX7_allStandFree 2 = .ok (.iload_n 1, 1) := by decide +kernel
theorem dX7_allStandFree_3 : decode cX7_allStandFree 3 = .ok (.aload_n 0, 1) := by decide +kernel
theorem dX7_allStandFree_4 : decode cX7_allStandFree 4 = .ok (.getfield 28, 3) := by decide +kernel
theorem dX7_allStandFree_7 : decode cX7_allStandFree 7 = .ok (.getfield 86, 3) := by decide +kernel
theorem dX7_allStandFree_10 : decode cX7_allStandFree 10 = .ok (.if_icmp .ge 32, 3) := by decide +kernel
theorem dX7_allStandFree_13 : decode cX7_allStandFree 13 = .ok (.aload_n 0, 1) := by decide +kernel
theorem dX7_allStandFree_14 : decode cX7_allStandFree 14 = .ok (.getfield 12, 3) := by decide +kernel
theorem dX7_allStandFree_17 : decode cX7_allStandFree 17 = .ok (.aload_n 0, 1) := by decide +kernel
theorem dX7_allStandFree_18 : decode cX7_allStandFree 18 = .ok (.getfield 28, 3) := by decide +kernel
theorem dX7_allStandFree_21 : decode cX7_allStandFree 21 = .ok (.getfield 78, 3) := by decide +kernel
theorem dX7_allStandFree_24 : decode cX7_allStandFree 24 = .ok (.iload_n 1, 1) := by decide +kernel
theorem dX7_allStandFree_25 : decode cX7_allStandFree 25 = .ok (.invokestatic 82, 3) := by decide +kernel
theorem dX7_allStandFree_28 : decode cX7_allStandFree 28 = .ok (.invokevirtual 89, 3) := by decide +kernel
theorem dX7_allStandFree_31 : decode cX7_allStandFree 31 = .ok (.ifCond .ne 5, 3) := by decide +kernel
theorem dX7_allStandFree_34 : decode cX7_allStandFree 34 = .ok (.iconst 0, 1) := by decide +kernel
theorem dX7_allStandFree_35 : decode cX7_allStandFree 35 = .ok (.ireturn, 1) := by decide +kernel
theorem dX7_allStandFree_36 : decode cX7_allStandFree 36 = .ok (.iinc 1 1, 3) := by decide +kernel
theorem dX7_allStandFree_39 : decode cX7_allStandFree 39 = .ok (.goto (-37), 3) := by decide +kernel
theorem dX7_allStandFree_42 : decode cX7_allStandFree 42 = .ok (.iconst 1, 1) := by decide +kernel
theorem dX7_allStandFree_43 : decode cX7_allStandFree 43 = .ok (.ireturn, 1) := by decide +kernel
theorem dX7_isLike_0 : decode cX7_isLike 0 = .ok (.aload_n 0, 1) := by decide +kernel
theorem dX7_isLike_1 : decode cX7_isLike 1 = .ok (.getfield 46, 3) := by decide +kernel
theorem dX7_isLike_4 : decode cX7_isLike 4 = .ok (.aload_n 1, 1) := by decide +kernel
theorem dX7_isLike_5 : decode cX7_isLike 5 = .ok (.getfield 46, 3) := by decide +kernel
theorem dX7_isLike_8 : decode cX7_isLike 8 = .ok (.if_icmp .ne 49, 3) := by decide +kernel
theorem dX7_isLike_11 : decode cX7_isLike 11 = .ok (.aload_n 0, 1) := by decide +kernel
theorem dX7_isLike_12 : decode cX7_isLike 12 = .ok (.getfield 12, 3) := by decide +kernel
theorem dX7_isLike_15 : decode cX7_isLike 15 = .ok (.aload_n 1, 1) := by decide +kernel
theorem dX7_isLike_16 : decode cX7_isLike 16 = .ok (.getfield 12, 3) := by decide +kernel
theorem dX7_isLike_19 : decode cX7_isLike 19 = .ok (.invokevirtual 127, 3) := by decide +kernel
theorem dX7_isLike_22 : decode cX7_isLike 22 = .ok (.ifCond .eq 35, 3) := by decide +kernel
theorem dX7_isLike_25 : decode cX7_isLike 25 = .ok (.aload_n 0, 1) := by decide +kernel
theorem dX7_isLike_26 : decode cX7_isLike 26 = .ok (.getfield 28, 3) := by decide +kernel
theorem dX7_isLike_29 : decode cX7_isLike 29 = .ok (.aload_n 1, 1) := by decide +kernel
theorem dX7_isLike_30 : decode cX7_isLike 30 = .ok (.getfield 28, 3) := by decide +kernel
theorem dX7_isLike_33 : decode cX7_isLike 33 = .ok (.invokevirtual 131, 3) := by decide +kernel
theorem dX7_isLike_36 : decode cX7_isLike 36 = .ok (.ifCond .eq 21, 3) := by decide +kernel
theorem dX7_isLike_39 : decode cX7_isLike 39 = .ok (.aload_n 0, 1) := by decide +kernel
theorem dX7_isLike_40 : decode cX7_isLike 40 = .ok (.getfield 35, 3) := by decide +kernel
theorem dX7_isLike_43 : decode cX7_isLike 43 = .ok (.aload_n 1, 1) := by decide +kernel
theorem dX7_isLike_44 : decode cX7_isLike 44 = .ok (.getfield 35, 3) := by decide +kernel
theorem dX7_isLike_47 : decode cX7_isLike 47 = .ok (.invokevirtual 134, 3) := by decide +kernel
theorem dX7_isLike_50 : decode cX7_isLike 50 = .ok (.ifCond .eq 7, 3) := by decide +kernel
theorem dX7_isLike_53 : decode cX7_isLike 53 = .ok (.iconst 1, 1) := by decide +kernel
theorem dX7_isLike_54 : decode cX7_isLike 54 = .ok (.goto 4, 3) := by decide +kernel
theorem dX7_isLike_57 : decode cX7_isLike 57 = .ok (.iconst 0, 1) := by decide +kernel
theorem dX7_isLike_58 : decode cX7_isLike 58 = .ok (.ireturn, 1) := by decide +kernel
theorem dX7_perform_0 : decode cX7_perform 0 = .ok (.iconst 0, 1) := by decide +kernel
theorem dX7_perform_1 : decode cX7_perform 1 = .ok (.istore 4, 2) := by decide +kernel
theorem dX7_perform_3 : decode cX7_perform 3 = .ok (.iload_n 1, 1) := by decide +kernel
theorem dX7_perform_4 : decode cX7_perform 4 = .ok (.tableswitch 188 0 8 #[52, 188, 62, 90, 121, 144, 154, 165, 179], 52) := by decide +kernel
theorem dX7_perform_56 : decode cX7_perform 56 = .ok (.aload_n 0, 1) := by decide +kernel
theorem dX7_perform_57 : decode cX7_perform 57 = .ok (.iload_n 2, 1) := by decide +kernel
theorem dX7_perform_58 : decode cX7_perform 58 = .ok (.invokevirtual 137, 3) := by decide +kernel
theorem dX7_perform_61 : decode cX7_perform 61 = .ok (.istore 4, 2) := by decide +kernel
theorem dX7_perform_63 : decode cX7_perform 63 = .ok (.goto 129, 3) := by decide +kernel
theorem dX7_perform_66 : decode cX7_perform 66 = .ok (.aload_n 0, 1) := by decide +kernel
theorem dX7_perform_67 : decode cX7_perform 67 = .ok (.getfield 35, 3) := by decide +kernel
theorem dX7_perform_70 : decode cX7_perform 70 = .ok (.getfield 141, 3) := by decide +kernel
theorem dX7_perform_73 : decode cX7_perform 73 = .ok (.iload_n 2, 1) := by decide +kernel
theorem dX7_perform_74 : decode cX7_perform 74 = .ok (.iconst (-1), 1) := by decide +kernel
theorem dX7_perform_75 : decode cX7_perform 75 = .ok (.invokestatic 142, 3) := by decide +kernel
theorem dX7_perform_78 : decode cX7_perform 78 = .ok (.aload_n 0, 1) := by decide +kernel
theorem dX7_perform_79 : decode cX7_perform 79 = .ok (.getfield 35, 3) := by decide +kernel
theorem dX7_perform_82 : decode cX7_perform 82 = .ok (.aload_n 0, 1) := by decide +kernel
theorem dX7_perform_83 : decode cX7_perform 83 = .ok (.getfield 21, 3) := by decide +kernel
theorem dX7_perform_86 : decode cX7_perform 86 = .ok (.invokevirtual 146, 3) := by decide +kernel
theorem dX7_perform_89 : decode cX7_perform 89 = .ok (.istore 4, 2) := by decide +kernel
theorem dX7_perform_91 : decode cX7_perform 91 = .ok (.goto 101, 3) := by decide +kernel
theorem dX7_perform_94 : decode cX7_perform 94 = .ok (.aload_n 0, 1) := by decide +kernel
theorem dX7_perform_95 : decode cX7_perform 95 = .ok (.getfield 35, 3) := by decide +kernel
theorem dX7_perform_98 : decode cX7_perform 98 = .ok (.getfield 141, 3) := by decide +kernel
theorem dX7_perform_101 : decode cX7_perform 101 = .ok (.iload_n 2, 1) := by decide +kernel
theorem dX7_perform_102 : decode cX7_perform 102 = .ok (.aload_n 0, 1) := by decide +kernel
theorem dX7_perform_103 : decode cX7_perform 103 = .ok (.invokevirtual 93, 3) := by decide +kernel
theorem dX7_perform_106 : decode cX7_perform 106 = .ok (.invokestatic 142, 3) := by decide +kernel
theorem dX7_perform_109 : decode cX7_perform 109 = .ok (.aload_n 0, 1) := by decide +kernel
theorem dX7_perform_110 : decode cX7_perform 110 = .ok (.getfield 35, 3) := by decide +kernel
theorem dX7_perform_113 : decode cX7_perform 113 = .ok (.aload_n 0, 1) := by decide +kernel
theorem dX7_perform_114 : decode cX7_perform 114 = .ok (.getfield 21, 3) := by decide +kernel
theorem dX7_perform_117 : decode cX7_perform 117 = .ok (.invokevirtual 146, 3) := by decide +kernel
theorem dX7_perform_120 : decode cX7_perform 120 = .ok (.istore 4, 2) := by decide +kernel
theorem dX7_perform_122 : decode cX7_perform 122 = .ok (.goto 70, 3) := by decide +kernel
theorem dX7_perform_125 : decode cX7_perform 125 = .ok (.aload_n 0, 1) := by decide +kernel
theorem dX7_perform_126 : decode cX7_perform 126 = .ok (.iload_n 2, 1) := by decide +kernel
theorem dX7_perform_127 : decode cX7_perform 127 = .ok (.iload_n 3, 1) := by decide +kernel
theorem dX7_perform_128 : decode cX7_perform 128 = .ok (.iconst (-1), 1) := by decide +kernel
theorem dX7_perform_129 : decode cX7_perform 129 = .ok (.if_icmp .ne 7, 3) := by decide +kernel
theorem dX7_perform_132 : decode cX7_perform 132 = .ok (.iconst (-1), 1) := by decide +kernel
theorem dX7_perform_133 : decode cX7_perform 133 = .ok (.goto 7, 3) := by decide +kernel
theorem dX7_perform_136 : decode cX7_perform 136 = .ok (.bipush (-3), 2) := by decide +kernel
theorem dX7_perform_138 : decode cX7_perform 138 = .ok (.iload_n 3, 1) := by decide +kernel
theorem dX7_perform_139 : decode cX7_perform 139 = .ok (.isub, 1) := by decide +kernel
theorem dX7_perform_140 : decode cX7_perform 140 = .ok (.invokevirtual 150, 3) := by decide +kernel
theorem dX7_perform_143 : decode cX7_perform 143 = .ok (.istore 4, 2) := by decide +kernel
theorem dX7_perform_145 : decode cX7_perform 145 = .ok (.goto 47, 3) := by decide +kernel
theorem dX7_perform_148 : decode cX7_perform 148 = .ok (.aload_n 0, 1) := by decide +kernel
theorem dX7_perform_149 : decode cX7_perform 149 = .ok (.iload_n 2, 1) := by decide +kernel
theorem dX7_perform_150 : decode cX7_perform 150 = .ok (.invokevirtual 153, 3) := by decide +kernel
theorem dX7_perform_153 : decode cX7_perform 153 = .ok (.istore 4, 2) := by decide +kernel
theorem dX7_perform_155 : decode cX7_perform 155 = .ok (.goto 37, 3) := by decide +kernel
theorem dX7_perform_158 : decode cX7_perform 158 = .ok (.aload_n 0, 1) := by decide +kernel
theorem dX7_perform_159 : decode cX7_perform 159 = .ok (.iload_n 2, 1) := by decide +kernel
theorem dX7_perform_160 : decode cX7_perform 160 = .ok (.iload_n 3, 1) := by decide +kernel
theorem dX7_perform_161 : decode cX7_perform 161 = .ok (.invokevirtual 156, 3) := by decide +kernel
theorem dX7_perform_164 : decode cX7_perform 164 = .ok (.istore 4, 2) := by decide +kernel
theorem dX7_perform_166 : decode cX7_perform 166 = .ok (.goto 26, 3) := by decide +kernel
theorem dX7_perform_169 : decode cX7_perform 169 = .ok (.aload_n 0, 1) := by decide +kernel
theorem dX7_perform_170 : decode cX7_perform 170 = .ok (.aload_n 0, 1) := by decide +kernel
theorem dX7_perform_171 : decode cX7_perform 171 = .ok (.invokevirtual 93, 3) := by decide +kernel
theorem dX7_perform_174 : decode cX7_perform 174 = .ok (.iload_n 2, 1) := by decide +kernel
theorem dX7_perform_175 : decode cX7_perform 175 = .ok (.invokevirtual 159, 3) := by decide +kernel
theorem dX7_perform_178 : decode cX7_perform 178 = .ok (.istore 4, 2) := by decide +kernel
theorem dX7_perform_180 : decode cX7_perform 180 = .ok (.goto 12, 3) := by decide +kernel
theorem dX7_perform_183 : decode cX7_perform 183 = .ok (.aload_n 0, 1) := by decide +kernel
theorem dX7_perform_184 : decode cX7_perform 184 = .ok (.invokevirtual 162, 3) := by decide +kernel
theorem dX7_perform_187 : decode cX7_perform 187 = .ok (.istore 4, 2) := by decide +kernel
theorem dX7_perform_189 : decode cX7_perform 189 = .ok (.goto 3, 3) := by decide +kernel
theorem dX7_perform_192 : decode cX7_perform 192 = .ok (.iload 4, 2) := by decide +kernel
theorem dX7_perform_194 : decode cX7_perform 194 = .ok (.ldc 165, 2) := by decide +kernel
theorem dX7_perform_196 : decode cX7_perform 196 = .ok (.if_icmp .eq 11, 3) := by decide +kernel
theorem dX7_perform_199 : decode cX7_perform 199 = .ok (.aload_n 0, 1) := by decide +kernel
theorem dX7_perform_200 : decode cX7_perform 200 = .ok (.getfield 28, 3) := by decide +kernel
theorem dX7_perform_203 : decode cX7_perform 203 = .ok (.iconst 0, 1) := by decide +kernel
theorem dX7_perform_204 : decode cX7_perform 204 = .ok (.invokevirtual 166, 3) := by decide +kernel
theorem dX7_perform_207 : decode cX7_perform 207 = .ok (.iload 4, 2) := by decide +kernel
theorem dX7_perform_209 : decode cX7_perform 209 = .ok (.ireturn, 1) := by decide +kernel
theorem dX7_heroGoes_0 : decode cX7_heroGoes 0 = .ok (.aload_n 0, 1) := by decide +kernel
theorem dX7_heroGoes_1 : decode cX7_heroGoes 1 = .ok (.invokevirtual 93, 3) := by decide +kernel
theorem dX7_heroGoes_4 : decode cX7_heroGoes 4 = .ok (.iload_n 1, 1) := by decide +kernel
theorem dX7_heroGoes_5 : decode cX7_heroGoes 5 = .ok (.invokestatic 170, 3) := by decide +kernel
theorem dX7_heroGoes_8 : decode cX7_heroGoes 8 = .ok (.istore_n 2, 1) := by decide +kernel
theorem dX7_heroGoes_9 : decode cX7_heroGoes 9 = .ok (.aload_n 0, 1) := by decide +kernel
theorem dX7_heroGoes_10 : decode cX7_heroGoes 10 = .ok (.getfield 28, 3) := by decide +kernel
theorem dX7_heroGoes_13 : decode cX7_heroGoes 13 = .ok (.iload_n 2, 1) := by decide +kernel
theorem dX7_heroGoes_14 : decode cX7_heroGoes 14 = .ok (.invokevirtual 173, 3) := by decide +kernel
theorem dX7_heroGoes_17 : decode cX7_heroGoes 17 = .ok (.istore_n 3, 1) := by decide +kernel
theorem dX7_heroGoes_18 : decode cX7_heroGoes 18 = .ok (.aload_n 0, 1) := by decide +kernel
theorem dX7_heroGoes_19 : decode cX7_heroGoes 19 = .ok (.getfield 12, 3) := by decide +kernel
theorem dX7_heroGoes_22 : decode cX7_heroGoes 22 = .ok (.iload_n 2, 1) := by decide +kernel
theorem dX7_heroGoes_23 : decode cX7_heroGoes 23 = .ok (.invokevirtual 176, 3) := by decide +kernel
theorem dX7_heroGoes_26 : decode cX7_heroGoes 26 = .ok (.istore 4, 2) := by decide +kernel
theorem dX7_heroGoes_28 : decode cX7_heroGoes 28 = .ok (.iload_n 3, 1) := by decide +kernel
theorem dX7_heroGoes_29 : decode cX7_heroGoes 29 = .ok (.ifCond .le 37, 3) := by decide +kernel
theorem dX7_heroGoes_32 : decode cX7_heroGoes 32 = .ok (.aload_n 0, 1) := by decide +kernel
theorem dX7_heroGoes_33 : decode cX7_heroGoes 33 = .ok (.iload_n 3, 1) := by decide +kernel
theorem dX7_heroGoes_34 : decode cX7_heroGoes 34 = .ok (.aload_n 0, 1) := by decide +kernel
theorem dX7_heroGoes_35 : decode cX7_heroGoes 35 = .ok (.getfield 35, 3) := by decide +kernel
theorem dX7_heroGoes_38 : decode cX7_heroGoes 38 = .ok (.bipush 7, 2) := by decide +kernel
theorem dX7_heroGoes_40 : decode cX7_heroGoes 40 = .ok (.invokevirtual 180, 3) := by decide +kernel
theorem dX7_heroGoes_43 : decode cX7_heroGoes 43 = .ok (.ifCond .eq 8, 3) := by decide +kernel
theorem dX7_heroGoes_46 : decode cX7_heroGoes 46 = .ok (.bipush 7, 2) := by decide +kernel
theorem dX7_heroGoes_48 : decode cX7_heroGoes 48 = .ok (.goto 4, 3) := by decide +kernel
theorem dX7_heroGoes_51 : decode cX7_heroGoes 51 = .ok (.iconst 3, 1) := by decide +kernel
theorem dX7_heroGoes_52 : decode cX7_heroGoes 52 = .ok (.invokevirtual 183, 3) := by decide +kernel
theorem dX7_heroGoes_55 : decode cX7_heroGoes 55 = .ok (.aload_n 0, 1) := by decide +kernel
theorem dX7_heroGoes_56 : decode cX7_heroGoes 56 = .ok (.iload_n 2, 1) := by decide +kernel
theorem dX7_heroGoes_57 : decode cX7_heroGoes 57 = .ok (.bipush 6, 2) := by decide +kernel
theorem dX7_heroGoes_59 : decode cX7_heroGoes 59 = .ok (.invokevirtual 159, 3) := by decide +kernel
theorem dX7_heroGoes_62 : decode cX7_heroGoes 62 = .ok (.pop, 1) := by decide +kernel
theorem dX7_heroGoes_63 : decode cX7_heroGoes 63 = .ok (.bipush 97, 2) := by decide +kernel
theorem dX7_heroGoes_65 : decode cX7_heroGoes 65 = .ok (.ireturn, 1) := by decide +kernel
theorem dX7_heroGoes_66 : decode cX7_heroGoes 66 = .ok (.iload 4, 2) := by decide +kernel
theorem dX7_heroGoes_68 : decode cX7_heroGoes 68 = .ok (.bipush 43, 2) := by decide +kernel
theorem dX7_heroGoes_70 : decode cX7_heroGoes 70 = .ok (.if_icmp .eq 32, 3) := by decide +kernel
theorem dX7_heroGoes_73 : decode cX7_heroGoes 73 = .ok (.iload 4, 2) := by decide +kernel
theorem dX7_heroGoes_75 : decode cX7_heroGoes 75 = .ok (.bipush 48, 2) := by decide +kernel
theorem dX7_heroGoes_77 : decode cX7_heroGoes 77 = .ok (.if_icmp .lt 38, 3) := by decide +kernel
theorem dX7_heroGoes_80 : decode cX7_heroGoes 80 = .ok (.iload 4, 2) := by decide +kernel
theorem dX7_heroGoes_82 : decode cX7_heroGoes 82 = .ok (.bipush 50, 2) := by decide +kernel
theorem dX7_heroGoes_84 : decode cX7_heroGoes 84 = .ok (.if_icmp .gt 31, 3) := by decide +kernel
theorem dX7_heroGoes_87 : decode cX7_heroGoes 87 = .ok (.aload_n 0, 1) := by decide +kernel
theorem dX7_heroGoes_88 : decode cX7_heroGoes 88 = .ok (.getfield 35, 3) := by decide +kernel
theorem dX7_heroGoes_91 : decode cX7_heroGoes 91 = .ok (.iload 4, 2) := by decide +kernel
theorem dX7_heroGoes_93 : decode cX7_heroGoes 93 = .ok (.bipush 48, 2) := by decide +kernel
theorem dX7_heroGoes_95 : decode cX7_heroGoes 95 = .ok (.isub, 1) := by decide +kernel
theorem dX7_heroGoes_96 : decode cX7_heroGoes 96 = .ok (.invokevirtual 187, 3) := by decide +kernel
theorem dX7_heroGoes_99 : decode cX7_heroGoes 99 = .ok (.ifCond .eq 16, 3) := by decide +kernel
theorem dX7_heroGoes_102 : decode cX7_heroGoes 102 = .ok (.aload_n 0, 1) := by decide +kernel
theorem dX7_heroGoes_103 : decode cX7_heroGoes 103 = .ok (.getfield 12, 3) := by decide +kernel
theorem dX7_heroGoes_106 : decode cX7_heroGoes 106 = .ok (.iload_n 2, 1) := by decide +kernel
theorem dX7_heroGoes_107 : decode cX7_heroGoes 107 = .ok (.bipush 47, 2) := by decide +kernel
theorem dX7_heroGoes_109 : decode cX7_heroGoes 109 = .ok (.invokevirtual 190, 3) := by decide +kernel
theorem dX7_heroGoes_112 : decode cX7_heroGoes 112 = .ok (.bipush 111, 2) := by decide +kernel
theorem dX7_heroGoes_114 : decode cX7_heroGoes 114 = .ok (.ireturn, 1) := by decide +kernel
theorem dX7_heroGoes_115 : decode cX7_heroGoes 115 = .ok (.iload 4, 2) := by decide +kernel
theorem dX7_heroGoes_117 : decode cX7_heroGoes 117 = .ok (.invokestatic 194, 3) := by decide +kernel
theorem dX7_heroGoes_120 : decode cX7_heroGoes 120 = .ok (.ifCond .eq 18, 3) := by decide +kernel
theorem dX7_heroGoes_123 : decode cX7_heroGoes 123 = .ok (.aload_n 0, 1) := by decide +kernel
theorem dX7_heroGoes_124 : decode cX7_heroGoes 124 = .ok (.getfield 28, 3) := by decide +kernel
theorem dX7_heroGoes_127 : decode cX7_heroGoes 127 = .ok (.getfield 78, 3) := by decide +kernel
theorem dX7_heroGoes_130 : decode cX7_heroGoes 130 = .ok (.iconst 0, 1) := by decide +kernel
theorem dX7_heroGoes_131 : decode cX7_heroGoes 131 = .ok (.iload_n 2, 1) := by decide +kernel
theorem dX7_heroGoes_132 : decode cX7_heroGoes 132 = .ok (.invokestatic 142, 3) := by decide +kernel
theorem dX7_heroGoes_135 : decode cX7_heroGoes 135 = .ok (.bipush 109, 2) := by decide +kernel
theorem dX7_heroGoes_137 : decode cX7_heroGoes 137 = .ok (.ireturn, 1) := by decide +kernel
theorem dX7_heroGoes_138 : decode cX7_heroGoes 138 = .ok (.ldc 165, 2) := by decide +kernel
theorem dX7_heroGoes_140 : decode cX7_heroGoes 140 = .ok (.ireturn, 1) := by decide +kernel
theorem dX7_strike_0 : decode cX7_strike 0 = .ok (.aload_n 0, 1) := by decide +kernel
theorem dX7_strike_1 : decode cX7_strike 1 = .ok (.getfield 28, 3) := by decide +kernel
theorem dX7_strike_4 : decode cX7_strike 4 = .ok (.iload_n 1, 1) := by decide +kernel
theorem dX7_strike_5 : decode cX7_strike 5 = .ok (.invokevirtual 198, 3) := by decide +kernel
theorem dX7_strike_8 : decode cX7_strike 8 = .ok (.istore_n 3, 1) := by decide +kernel
theorem dX7_strike_9 : decode cX7_strike 9 = .ok (.aload_n 0, 1) := by decide +kernel
theorem dX7_strike_10 : decode cX7_strike 10 = .ok (.getfield 28, 3) := by decide +kernel
theorem dX7_strike_13 : decode cX7_strike 13 = .ok (.iload_n 1, 1) := by decide +kernel
theorem dX7_strike_14 : decode cX7_strike 14 = .ok (.iload_n 2, 1) := by decide +kernel
theorem dX7_strike_15 : decode cX7_strike 15 = .ok (.invokevirtual 201, 3) := by decide +kernel
theorem dX7_strike_18 : decode cX7_strike 18 = .ok (.aload_n 0, 1) := by decide +kernel
theorem dX7_strike_19 : decode cX7_strike 19 = .ok (.getfield 28, 3) := by decide +kernel
theorem dX7_strike_22 : decode cX7_strike 22 = .ok (.iload_n 1, 1) := by decide +kernel
theorem dX7_strike_23 : decode cX7_strike 23 = .ok (.invokevirtual 204, 3) := by decide +kernel
theorem dX7_strike_26 : decode cX7_strike 26 = .ok (.ifCond .ne 22, 3) := by decide +kernel
theorem dX7_strike_29 : decode cX7_strike 29 = .ok (.aload_n 0, 1) := by decide +kernel
theorem dX7_strike_30 : decode cX7_strike 30 = .ok (.dup, 1) := by decide +kernel
theorem dX7_strike_31 : decode cX7_strike 31 = .ok (.getfield 53, 3) := by decide +kernel
theorem dX7_strike_34 : decode cX7_strike 34 = .ok (.iload_n 3, 1) := by decide +kernel
theorem dX7_strike_35 : decode cX7_strike 35 = .ok (.ifCond .eq 8, 3) := by decide +kernel
theorem dX7_strike_38 : decode cX7_strike 38 = .ok (.bipush (-2), 2) := by decide +kernel
theorem dX7_strike_40 : decode cX7_strike 40 = .ok (.goto 4, 3) := by decide +kernel
theorem dX7_strike_43 : decode cX7_strike 43 = .ok (.iconst 1, 1) := by decide +kernel
theorem dX7_strike_44 : decode cX7_strike 44 = .ok (.iadd, 1) := by decide +kernel
theorem dX7_strike_45 : decode cX7_strike 45 = .ok (.putfield 53, 3) := by decide +kernel
theorem dX7_strike_48 : decode cX7_strike 48 = .ok (.return_, 1) := by decide +kernel
theorem dX7_heroPacks_0 : decode cX7_heroPacks 0 = .ok (.aload_n 0, 1) := by decide +kernel
theorem dX7_heroPacks_1 : decode cX7_heroPacks 1 = .ok (.getfield 35, 3) := by decide +kernel
theorem dX7_heroPacks_4 : decode cX7_heroPacks 4 = .ok (.getfield 141, 3) := by decide +kernel
theorem dX7_heroPacks_7 : decode cX7_heroPacks 7 = .ok (.iload_n 1, 1) := by decide +kernel
theorem dX7_heroPacks_8 : decode cX7_heroPacks 8 = .ok (.iload_n 2, 1) := by decide +kernel
theorem dX7_heroPacks_9 : decode cX7_heroPacks 9 = .ok (.invokestatic 142, 3) := by decide +kernel
theorem dX7_heroPacks_12 : decode cX7_heroPacks 12 = .ok (.aload_n 0, 1) := by decide +kernel
theorem dX7_heroPacks_13 : decode cX7_heroPacks 13 = .ok (.getfield 35, 3) := by decide +kernel
theorem dX7_heroPacks_16 : decode cX7_heroPacks 16 = .ok (.iload_n 2, 1) := by decide +kernel
theorem dX7_heroPacks_17 : decode cX7_heroPacks 17 = .ok (.invokevirtual 207, 3) := by decide +kernel
theorem dX7_heroPacks_20 : decode cX7_heroPacks 20 = .ok (.ireturn, 1) := by decide +kernel
theorem dX7_heroDrinks_0 : decode cX7_heroDrinks 0 = .ok (.aload_n 0, 1) := by decide +kernel
theorem dX7_heroDrinks_1 : decode cX7_heroDrinks 1 = .ok (.getfield 35, 3) := by decide +kernel
theorem dX7_heroDrinks_4 : decode cX7_heroDrinks 4 = .ok (.getfield 210, 3) := by decide +kernel
theorem dX7_heroDrinks_7 : decode cX7_heroDrinks 7 = .ok (.iload_n 1, 1) := by decide +kernel
theorem dX7_heroDrinks_8 : decode cX7_heroDrinks 8 = .ok (.invokestatic 82, 3) := by decide +kernel
theorem dX7_heroDrinks_11 : decode cX7_heroDrinks 11 = .ok (.istore_n 2, 1) := by decide +kernel
theorem dX7_heroDrinks_12 : decode cX7_heroDrinks 12 = .ok (.aload_n 0, 1) := by decide +kernel
theorem dX7_heroDrinks_13 : decode cX7_heroDrinks 13 = .ok (.iload_n 1, 1) := by decide +kernel
theorem dX7_heroDrinks_14 : decode cX7_heroDrinks 14 = .ok (.invokevirtual 213, 3) := by decide +kernel
theorem dX7_heroDrinks_17 : decode cX7_heroDrinks 17 = .ok (.aload_n 0, 1) := by decide +kernel
theorem dX7_heroDrinks_18 : decode cX7_heroDrinks 18 = .ok (.iload_n 2, 1) := by decide +kernel
theorem dX7_heroDrinks_19 : decode cX7_heroDrinks 19 = .ok (.iconst 0, 1) := by decide +kernel
theorem dX7_heroDrinks_20 : decode cX7_heroDrinks 20 = .ok (.invokevirtual 216, 3) := by decide +kernel
theorem dX7_heroDrinks_23 : decode cX7_heroDrinks 23 = .ok (.aload_n 0, 1) := by decide +kernel
theorem dX7_heroDrinks_24 : decode cX7_heroDrinks 24 = .ok (.iload_n 2, 1) := by decide +kernel
theorem dX7_heroDrinks_25 : decode cX7_heroDrinks 25 = .ok (.aload_n 0, 1) := by decide +kernel
theorem dX7_heroDrinks_26 : decode cX7_heroDrinks 26 = .ok (.invokevirtual 93, 3) := by decide +kernel
theorem dX7_heroDrinks_29 : decode cX7_heroDrinks 29 = .ok (.iconst 0, 1) := by decide +kernel
theorem dX7_heroDrinks_30 : decode cX7_heroDrinks 30 = .ok (.invokevirtual 219, 3) := by decide +kernel
theorem dX7_heroDrinks_33 : decode cX7_heroDrinks 33 = .ok (.aload_n 0, 1) := by decide +kernel
theorem dX7_heroDrinks_34 : decode cX7_heroDrinks 34 = .ok (.getfield 28, 3) := by decide +kernel
theorem dX7_heroDrinks_37 : decode cX7_heroDrinks 37 = .ok (.getfield 223, 3) := by decide +kernel
theorem dX7_heroDrinks_40 : decode cX7_heroDrinks 40 = .ok (.iconst 0, 1) := by decide +kernel
theorem dX7_heroDrinks_41 : decode cX7_heroDrinks 41 = .ok (.invokestatic 82, 3) := by decide +kernel
theorem dX7_heroDrinks_44 : decode cX7_heroDrinks 44 = .ok (.ireturn, 1) := by decide +kernel
theorem dX7_heroHurls_0 : decode cX7_heroHurls 0 = .ok (.iconst 0, 1) := by decide +kernel
theorem dX7_heroHurls_1 : decode cX7_heroHurls 1 = .ok (.istore_n 3, 1) := by decide +kernel
theorem dX7_heroHurls_2 : decode cX7_heroHurls 2 = .ok (.aload_n 0, 1) := by decide +kernel
theorem dX7_heroHurls_3 : decode cX7_heroHurls 3 = .ok (.invokevirtual 93, 3) := by decide +kernel
theorem dX7_heroHurls_6 : decode cX7_heroHurls 6 = .ok (.istore 4, 2) := by decide +kernel
theorem dX7_heroHurls_8 : decode cX7_heroHurls 8 = .ok (.iconst 0, 1) := by decide +kernel
theorem dX7_heroHurls_9 : decode cX7_heroHurls 9 = .ok (.istore 5, 2) := by decide +kernel
theorem dX7_heroHurls_11 : decode cX7_heroHurls 11 = .ok (.iload_n 3, 1) := by decide +kernel
theorem dX7_heroHurls_12 : decode cX7_heroHurls 12 = .ok (.iconst 5, 1) := by decide +kernel
theorem dX7_heroHurls_13 : decode cX7_heroHurls 13 = .ok (.if_icmp .ge 57, 3) := by decide +kernel
theorem dX7_heroHurls_16 : decode cX7_heroHurls 16 = .ok (.iload 5, 2) := by decide +kernel
theorem dX7_heroHurls_18 : decode cX7_heroHurls 18 = .ok (.ifCond .ne 52, 3) := by decide +kernel
theorem dX7_heroHurls_21 : decode cX7_heroHurls 21 = .ok (.aload_n 0, 1) := by decide +kernel
theorem dX7_heroHurls_22 : decode cX7_heroHurls 22 = .ok (.getfield 12, 3) := by decide +kernel
theorem dX7_heroHurls_25 : decode cX7_heroHurls 25 = .ok (.iload 4, 2) := by decide +kernel
theorem dX7_heroHurls_27 : decode cX7_heroHurls 27 = .ok (.iload_n 2, 1) := by decide +kernel
theorem dX7_heroHurls_28 : decode cX7_heroHurls 28 = .ok (.invokestatic 170, 3) := by decide +kernel
theorem dX7_heroHurls_31 : decode cX7_heroHurls 31 = .ok (.invokevirtual 89, 3) := by decide +kernel
theorem dX7_heroHurls_34 : decode cX7_heroHurls 34 = .ok (.ifCond .eq 36, 3) := by decide +kernel
theorem dX7_heroHurls_37 : decode cX7_heroHurls 37 = .ok (.iload 4, 2) := by decide +kernel
theorem dX7_heroHurls_39 : decode cX7_heroHurls 39 = .ok (.iload_n 2, 1) := by decide +kernel
theorem dX7_heroHurls_40 : decode cX7_heroHurls 40 = .ok (.invokestatic 170, 3) := by decide +kernel
theorem dX7_heroHurls_43 : decode cX7_heroHurls 43 = .ok (.istore 4, 2) := by decide +kernel
theorem dX7_heroHurls_45 : decode cX7_heroHurls 45 = .ok (.iinc 3 1, 3) := by decide +kernel
theorem dX7_heroHurls_48 : decode cX7_heroHurls 48 = .ok (.aload_n 0, 1) := by decide +kernel
theorem dX7_heroHurls_49 : decode cX7_heroHurls 49 = .ok (.getfield 28, 3) := by decide +kernel
theorem dX7_heroHurls_52 : decode cX7_heroHurls 52 = .ok (.iload 4, 2) := by decide +kernel
theorem dX7_heroHurls_54 : decode cX7_heroHurls 54 = .ok (.invokevirtual 173, 3) := by decide +kernel
theorem dX7_heroHurls_57 : decode cX7_heroHurls 57 = .ok (.ifCond .le 7, 3) := by decide +kernel
theorem dX7_heroHurls_60 : decode cX7_heroHurls 60 = .ok (.iconst 1, 1) := by decide +kernel
theorem dX7_heroHurls_61 : decode cX7_heroHurls 61 = .ok (.goto 4, 3) := by decide +kernel
theorem dX7_heroHurls_64 : decode cX7_heroHurls 64 = .ok (.iconst 0, 1) := by decide +kernel
theorem dX7_heroHurls_65 : decode cX7_heroHurls 65 = .ok (.istore 5, 2) := by decide +kernel
theorem dX7_heroHurls_67 : decode cX7_heroHurls 67 = .ok (.goto (-56), 3) := by decide +kernel
theorem dX7_heroHurls_70 : decode cX7_heroHurls 70 = .ok (.aload_n 0, 1) := by decide +kernel
theorem dX7_heroHurls_71 : decode cX7_heroHurls 71 = .ok (.getfield 35, 3) := by decide +kernel
theorem dX7_heroHurls_74 : decode cX7_heroHurls 74 = .ok (.getfield 141, 3) := by decide +kernel
theorem dX7_heroHurls_77 : decode cX7_heroHurls 77 = .ok (.iload_n 1, 1) := by decide +kernel
theorem dX7_heroHurls_78 : decode cX7_heroHurls 78 = .ok (.iload 4, 2) := by decide +kernel
theorem dX7_heroHurls_80 : decode cX7_heroHurls 80 = .ok (.invokestatic 142, 3) := by decide +kernel
theorem dX7_heroHurls_83 : decode cX7_heroHurls 83 = .ok (.aload_n 0, 1) := by decide +kernel
theorem dX7_heroHurls_84 : decode cX7_heroHurls 84 = .ok (.getfield 35, 3) := by decide +kernel
theorem dX7_heroHurls_87 : decode cX7_heroHurls 87 = .ok (.getfield 210, 3) := by decide +kernel
theorem dX7_heroHurls_90 : decode cX7_heroHurls 90 = .ok (.iload_n 1, 1) := by decide +kernel
theorem dX7_heroHurls_91 : decode cX7_heroHurls 91 = .ok (.invokestatic 82, 3) := by decide +kernel
theorem dX7_heroHurls_94 : decode cX7_heroHurls 94 = .ok (.istore 6, 2) := by decide +kernel
theorem dX7_heroHurls_96 : decode cX7_heroHurls 96 = .ok (.iload 6, 2) := by decide +kernel
theorem dX7_heroHurls_98 : decode cX7_heroHurls 98 = .ok (.invokestatic 109, 3) := by decide +kernel
theorem dX7_heroHurls_101 : decode cX7_heroHurls 101 = .ok (.ifCond .eq 42, 3) := by decide +kernel
theorem dX7_heroHurls_104 : decode cX7_heroHurls 104 = .ok (.aload_n 0, 1) := by decide +kernel
theorem dX7_heroHurls_105 : decode cX7_heroHurls 105 = .ok (.iload_n 1, 1) := by decide +kernel
theorem dX7_heroHurls_106 : decode cX7_heroHurls 106 = .ok (.iload 4, 2) := by decide +kernel
theorem dX7_heroHurls_108 : decode cX7_heroHurls 108 = .ok (.invokevirtual 226, 3) := by decide +kernel
theorem dX7_heroHurls_111 : decode cX7_heroHurls 111 = .ok (.aload_n 0, 1) := by decide +kernel
theorem dX7_heroHurls_112 : decode cX7_heroHurls 112 = .ok (.iload 6, 2) := by decide +kernel
theorem dX7_heroHurls_114 : decode cX7_heroHurls 114 = .ok (.iload 4, 2) := by decide +kernel
theorem dX7_heroHurls_116 : decode cX7_heroHurls 116 = .ok (.aload_n 0, 1) := by decide +kernel
theorem dX7_heroHurls_117 : decode cX7_heroHurls 117 = .ok (.getfield 21, 3) := by decide +kernel
theorem dX7_heroHurls_120 : decode cX7_heroHurls 120 = .ok (.getfield 229, 3) := by decide +kernel
theorem dX7_heroHurls_123 : decode cX7_heroHurls 123 = .ok (.iload 6, 2) := by decide +kernel
theorem dX7_heroHurls_125 : decode cX7_heroHurls 125 = .ok (.invokestatic 82, 3) := by decide +kernel
theorem dX7_heroHurls_128 : decode cX7_heroHurls 128 = .ok (.invokevirtual 219, 3) := by decide +kernel
theorem dX7_heroHurls_131 : decode cX7_heroHurls 131 = .ok (.aload_n 0, 1) := by decide +kernel
theorem dX7_heroHurls_132 : decode cX7_heroHurls 132 = .ok (.iload 4, 2) := by decide +kernel
theorem dX7_heroHurls_134 : decode cX7_heroHurls 134 = .ok (.bipush 6, 2) := by decide +kernel
theorem dX7_heroHurls_136 : decode cX7_heroHurls 136 = .ok (.invokevirtual 159, 3) := by decide +kernel
theorem dX7_heroHurls_139 : decode cX7_heroHurls 139 = .ok (.pop, 1) := by decide +kernel
theorem dX7_heroHurls_140 : decode cX7_heroHurls 140 = .ok (.goto 38, 3) := by decide +kernel
theorem dX7_heroHurls_143 : decode cX7_heroHurls 143 = .ok (.iload 6, 2) := by decide +kernel
theorem dX7_heroHurls_145 : decode cX7_heroHurls 145 = .ok (.bipush 7, 2) := by decide +kernel
theorem dX7_heroHurls_147 : decode cX7_heroHurls 147 = .ok (.if_icmp .ne 31, 3) := by decide +kernel
theorem dX7_heroHurls_150 : decode cX7_heroHurls 150 = .ok (.iload 5, 2) := by decide +kernel
theorem dX7_heroHurls_152 : decode cX7_heroHurls 152 = .ok (.ifCond .eq 26, 3) := by decide +kernel
theorem dX7_heroHurls_155 : decode cX7_heroHurls 155 = .ok (.aload_n 0, 1) := by decide +kernel
theorem dX7_heroHurls_156 : decode cX7_heroHurls 156 = .ok (.aload_n 0, 1) := by decide +kernel
theorem dX7_heroHurls_157 : decode cX7_heroHurls 157 = .ok (.getfield 28, 3) := by decide +kernel
theorem dX7_heroHurls_160 : decode cX7_heroHurls 160 = .ok (.iload 4, 2) := by decide +kernel
theorem dX7_heroHurls_162 : decode cX7_heroHurls 162 = .ok (.invokevirtual 173, 3) := by decide +kernel
theorem dX7_heroHurls_165 : decode cX7_heroHurls 165 = .ok (.iconst 4, 1) := by decide +kernel
theorem dX7_heroHurls_166 : decode cX7_heroHurls 166 = .ok (.invokevirtual 183, 3) := by decide +kernel
theorem dX7_heroHurls_169 : decode cX7_heroHurls 169 = .ok (.aload_n 0, 1) := by decide +kernel
theorem dX7_heroHurls_170 : decode cX7_heroHurls 170 = .ok (.iload 4, 2) := by decide +kernel
theorem dX7_heroHurls_172 : decode cX7_heroHurls 172 = .ok (.bipush 6, 2) := by decide +kernel
theorem dX7_heroHurls_174 : decode cX7_heroHurls 174 = .ok (.invokevirtual 159, 3) := by decide +kernel
theorem dX7_heroHurls_177 : decode cX7_heroHurls 177 = .ok (.pop, 1) := by decide +kernel
theorem dX7_heroHurls_178 : decode cX7_heroHurls 178 = .ok (.iload_n 3, 1) := by decide +kernel
theorem dX7_heroHurls_179 : decode cX7_heroHurls 179 = .ok (.ireturn, 1) := by decide +kernel
theorem dX7_shatter_0 : decode cX7_shatter 0 = .ok (.aload_n 0, 1) := by decide +kernel
theorem dX7_shatter_1 : decode cX7_shatter 1 = .ok (.getfield 35, 3) := by decide +kernel
theorem dX7_shatter_4 : decode cX7_shatter 4 = .ok (.getfield 210, 3) := by decide +kernel
theorem dX7_shatter_7 : decode cX7_shatter 7 = .ok (.iload_n 1, 1) := by decide +kernel
theorem dX7_shatter_8 : decode cX7_shatter 8 = .ok (.invokestatic 82, 3) := by decide +kernel
theorem dX7_shatter_11 : decode cX7_shatter 11 = .ok (.istore_n 3, 1) := by decide +kernel
theorem dX7_shatter_12 : decode cX7_shatter 12 = .ok (.aload_n 0, 1) := by decide +kernel
theorem dX7_shatter_13 : decode cX7_shatter 13 = .ok (.getfield 21, 3) := by decide +kernel
theorem dX7_shatter_16 : decode cX7_shatter 16 = .ok (.getfield 229, 3) := by decide +kernel
theorem dX7_shatter_19 : decode cX7_shatter 19 = .ok (.iload_n 3, 1) := by decide +kernel
theorem dX7_shatter_20 : decode cX7_shatter 20 = .ok (.invokestatic 82, 3) := by decide +kernel
theorem dX7_shatter_23 : decode cX7_shatter 23 = .ok (.istore 4, 2) := by decide +kernel
theorem dX7_shatter_25 : decode cX7_shatter 25 = .ok (.aload_n 0, 1) := by decide +kernel
theorem dX7_shatter_26 : decode cX7_shatter 26 = .ok (.iload_n 1, 1) := by decide +kernel
theorem dX7_shatter_27 : decode cX7_shatter 27 = .ok (.invokevirtual 213, 3) := by decide +kernel
theorem dX7_shatter_30 : decode cX7_shatter 30 = .ok (.iconst 0, 1) := by decide +kernel
theorem dX7_shatter_31 : decode cX7_shatter 31 = .ok (.istore 5, 2) := by decide +kernel
theorem dX7_shatter_33 : decode cX7_shatter 33 = .ok (.iload 5, 2) := by decide +kernel
theorem dX7_shatter_35 : decode cX7_shatter 35 = .ok (.aload_n 0, 1) := by decide +kernel
theorem dX7_shatter_36 : decode cX7_shatter 36 = .ok (.getfield 28, 3) := by decide +kernel
theorem dX7_shatter_39 : decode cX7_shatter 39 = .ok (.getfield 86, 3) := by decide +kernel
theorem dX7_shatter_42 : decode cX7_shatter 42 = .ok (.if_icmp .ge 49, 3) := by decide +kernel
theorem dX7_shatter_45 : decode cX7_shatter 45 = .ok (.aload_n 0, 1) := by decide +kernel
theorem dX7_shatter_46 : decode cX7_shatter 46 = .ok (.getfield 28, 3) := by decide +kernel
theorem dX7_shatter_49 : decode cX7_shatter 49 = .ok (.iload 5, 2) := by decide +kernel
theorem dX7_shatter_51 : decode cX7_shatter 51 = .ok (.invokevirtual 204, 3) := by decide +kernel
theorem dX7_shatter_54 : decode cX7_shatter 54 = .ok (.ifCond .eq 31, 3) := by decide +kernel
theorem dX7_shatter_57 : decode cX7_shatter 57 = .ok (.aload_n 0, 1) := by decide +kernel
theorem dX7_shatter_58 : decode cX7_shatter 58 = .ok (.getfield 28, 3) := by decide +kernel
theorem dX7_shatter_61 : decode cX7_shatter 61 = .ok (.getfield 78, 3) := by decide +kernel
theorem dX7_shatter_64 : decode cX7_shatter 64 = .ok (.iload 5, 2) := by decide +kernel
theorem dX7_shatter_66 : decode cX7_shatter 66 = .ok (.invokestatic 82, 3) := by decide +kernel
theorem dX7_shatter_69 : decode cX7_shatter 69 = .ok (.iload_n 2, 1) := by decide +kernel
theorem dX7_shatter_70 : decode cX7_shatter 70 = .ok (.invokestatic 101, 3) := by decide +kernel
theorem dX7_shatter_73 : decode cX7_shatter 73 = .ok (.iload 4, 2) := by decide +kernel
theorem dX7_shatter_75 : decode cX7_shatter 75 = .ok (.if_icmp .gt 10, 3) := by decide +kernel
theorem dX7_shatter_78 : decode cX7_shatter 78 = .ok (.aload_n 0, 1) := by decide +kernel
theorem dX7_shatter_79 : decode cX7_shatter 79 = .ok (.iload_n 3, 1) := by decide +kernel
theorem dX7_shatter_80 : decode cX7_shatter 80 = .ok (.iload 5, 2) := by decide +kernel
theorem dX7_shatter_82 : decode cX7_shatter 82 = .ok (.invokevirtual 216, 3) := by decide +kernel
theorem dX7_shatter_85 : decode cX7_shatter 85 = .ok (.iinc 5 1, 3) := by decide +kernel
theorem dX7_shatter_88 : decode cX7_shatter 88 = .ok (.goto (-55), 3) := by decide +kernel
theorem dX7_shatter_91 : decode cX7_shatter 91 = .ok (.return_, 1) := by decide +kernel
theorem dX7_useUp_0 : decode cX7_useUp 0 = .ok (.aload_n 0, 1) := by decide +kernel
theorem dX7_useUp_1 : decode cX7_useUp 1 = .ok (.getfield 35, 3) := by decide +kernel
theorem dX7_useUp_4 : decode cX7_useUp 4 = .ok (.getfield 141, 3) := by decide +kernel
theorem dX7_useUp_7 : decode cX7_useUp 7 = .ok (.iload_n 1, 1) := by decide +kernel
theorem dX7_useUp_8 : decode cX7_useUp 8 = .ok (.bipush (-2), 2) := by decide +kernel
theorem dX7_useUp_10 : decode cX7_useUp 10 = .ok (.invokestatic 142, 3) := by decide +kernel
theorem dX7_useUp_13 : decode cX7_useUp 13 = .ok (.aload_n 0, 1) := by decide +kernel
theorem dX7_useUp_14 : decode cX7_useUp 14 = .ok (.dup, 1) := by decide +kernel
theorem dX7_useUp_15 : decode cX7_useUp 15 = .ok (.getfield 59, 3) := by decide +kernel
theorem dX7_useUp_18 : decode cX7_useUp 18 = .ok (.iconst 1, 1) := by decide +kernel
theorem dX7_useUp_19 : decode cX7_useUp 19 = .ok (.aload_n 0, 1) := by decide +kernel
theorem dX7_useUp_20 : decode cX7_useUp 20 = .ok (.getfield 35, 3) := by decide +kernel
theorem dX7_useUp_23 : decode cX7_useUp 23 = .ok (.getfield 210, 3) := by decide +kernel
theorem dX7_useUp_26 : decode cX7_useUp 26 = .ok (.iload_n 1, 1) := by decide +kernel
theorem dX7_useUp_27 : decode cX7_useUp 27 = .ok (.invokestatic 82, 3) := by decide +kernel
theorem dX7_useUp_30 : decode cX7_useUp 30 = .ok (.ishl, 1) := by decide +kernel
theorem dX7_useUp_31 : decode cX7_useUp 31 = .ok (.ior, 1) := by decide +kernel
theorem dX7_useUp_32 : decode cX7_useUp 32 = .ok (.putfield 59, 3) := by decide +kernel
theorem dX7_useUp_35 : decode cX7_useUp 35 = .ok (.return_, 1) := by decide +kernel
theorem dX7_work_0 : decode cX7_work 0 = .ok (.aload_n 0, 1) := by decide +kernel
theorem dX7_work_1 : decode cX7_work 1 = .ok (.getfield 21, 3) := by decide +kernel
theorem dX7_work_4 : decode cX7_work 4 = .ok (.getfield 232, 3) := by decide +kernel
theorem dX7_work_7 : decode cX7_work 7 = .ok (.iload_n 1, 1) := by decide +kernel
theorem dX7_work_8 : decode cX7_work 8 = .ok (.invokestatic 82, 3) := by decide +kernel
theorem dX7_work_11 : decode cX7_work 11 = .ok (.istore_n 3, 1) := by decide +kernel
theorem dX7_work_12 : decode cX7_work 12 = .ok (.aload_n 0, 1) := by decide +kernel
theorem dX7_work_13 : decode cX7_work 13 = .ok (.getfield 21, 3) := by decide +kernel
theorem dX7_work_16 : decode cX7_work 16 = .ok (.getfield 235, 3) := by decide +kernel
theorem dX7_work_19 : decode cX7_work 19 = .ok (.iload_n 1, 1) := by decide +kernel
theorem dX7_work_20 : decode cX7_work 20 = .ok (.invokestatic 82, 3) := by decide +kernel
theorem dX7_work_23 : decode cX7_work 23 = .ok (.lookupswitch 96 #[(98, 77), (100, 53), (104, 41), (115, 65)], 41) := by decide +kernel
theorem dX7_work_64 : decode cX7_work 64 = .ok (.aload_n 0, 1) := by decide +kernel
theorem dX7_work_65 : decode cX7_work 65 = .ok (.getfield 28, 3) := by decide +kernel
theorem dX7_work_68 : decode cX7_work 68 = .ok (.iload_n 2, 1) := by decide +kernel
theorem dX7_work_69 : decode cX7_work 69 = .ok (.iload_n 3, 1) := by decide +kernel
theorem dX7_work_70 : decode cX7_work 70 = .ok (.invokevirtual 238, 3) := by decide +kernel
theorem dX7_work_73 : decode cX7_work 73 = .ok (.goto 46, 3) := by decide +kernel
theorem dX7_work_76 : decode cX7_work 76 = .ok (.aload_n 0, 1) := by decide +kernel
theorem dX7_work_77 : decode cX7_work 77 = .ok (.getfield 28, 3) := by decide +kernel
theorem dX7_work_80 : decode cX7_work 80 = .ok (.iload_n 2, 1) := by decide +kernel
theorem dX7_work_81 : decode cX7_work 81 = .ok (.iload_n 3, 1) := by decide +kernel
theorem dX7_work_82 : decode cX7_work 82 = .ok (.invokevirtual 201, 3) := by decide +kernel
theorem dX7_work_85 : decode cX7_work 85 = .ok (.goto 34, 3) := by decide +kernel
theorem dX7_work_88 : decode cX7_work 88 = .ok (.aload_n 0, 1) := by decide +kernel
theorem dX7_work_89 : decode cX7_work 89 = .ok (.getfield 28, 3) := by decide +kernel
theorem dX7_work_92 : decode cX7_work 92 = .ok (.iload_n 2, 1) := by decide +kernel
theorem dX7_work_93 : decode cX7_work 93 = .ok (.iload_n 3, 1) := by decide +kernel
theorem dX7_work_94 : decode cX7_work 94 = .ok (.invokevirtual 241, 3) := by decide +kernel
theorem dX7_work_97 : decode cX7_work 97 = .ok (.goto 22, 3) := by decide +kernel
theorem dX7_work_100 : decode cX7_work 100 = .ok (.aload_n 0, 1) := by decide +kernel
theorem dX7_work_101 : decode cX7_work 101 = .ok (.iload_n 2, 1) := by decide +kernel
theorem dX7_work_102 : decode cX7_work 102 = .ok (.ifCond .ne 7, 3) := by decide +kernel
theorem dX7_work_105 : decode cX7_work 105 = .ok (.iload_n 3, 1) := by decide +kernel
theorem dX7_work_106 : decode cX7_work 106 = .ok (.goto 7, 3) := by decide +kernel
theorem dX7_work_109 : decode cX7_work 109 = .ok (.aload_n 0, 1) := by decide +kernel
theorem dX7_work_110 : decode cX7_work 110 = .ok (.getfield 56, 3) := by decide +kernel
theorem dX7_work_113 : decode cX7_work 113 = .ok (.putfield 56, 3) := by decide +kernel
theorem dX7_work_116 : decode cX7_work 116 = .ok (.goto 3, 3) := by decide +kernel
theorem dX7_work_119 : decode cX7_work 119 = .ok (.return_, 1) := by decide +kernel
theorem dX7_burnBy_0 : decode cX7_burnBy 0 = .ok (.aload_n 0, 1) := by decide +kernel
theorem dX7_burnBy_1 : decode cX7_burnBy 1 = .ok (.getfield 21, 3) := by decide +kernel
theorem dX7_burnBy_4 : decode cX7_burnBy 4 = .ok (.iload_n 1, 1) := by decide +kernel
theorem dX7_burnBy_5 : decode cX7_burnBy 5 = .ok (.invokevirtual 244, 3) := by decide +kernel
theorem dX7_burnBy_8 : decode cX7_burnBy 8 = .ok (.bipush 102, 2) := by decide +kernel
theorem dX7_burnBy_10 : decode cX7_burnBy 10 = .ok (.if_icmp .eq 4, 3) := by decide +kernel
theorem dX7_burnBy_13 : decode cX7_burnBy 13 = .ok (.return_, 1) := by decide +kernel
theorem dX7_burnBy_14 : decode cX7_burnBy 14 = .ok (.iconst 0, 1) := by decide +kernel
theorem dX7_burnBy_15 : decode cX7_burnBy 15 = .ok (.istore 4, 2) := by decide +kernel
theorem dX7_burnBy_17 : decode cX7_burnBy 17 = .ok (.iload 4, 2) := by decide +kernel
theorem dX7_burnBy_19 : decode cX7_burnBy 19 = .ok (.aload_n 0, 1) := by decide +kernel
theorem dX7_burnBy_20 : decode cX7_burnBy 20 = .ok (.getfield 35, 3) := by decide +kernel
theorem dX7_burnBy_23 : decode cX7_burnBy 23 = .ok (.getfield 247, 3) := by decide +kernel
theorem dX7_burnBy_26 : decode cX7_burnBy 26 = .ok (.if_icmp .ge 88, 3) := by decide +kernel
theorem dX7_burnBy_29 : decode cX7_burnBy 29 = .ok (.aload_n 0, 1) := by decide +kernel
theorem dX7_burnBy_30 : decode cX7_burnBy 30 = .ok (.getfield 35, 3) := by decide +kernel
theorem dX7_burnBy_33 : decode cX7_burnBy 33 = .ok (.getfield 141, 3) := by decide +kernel
theorem dX7_burnBy_36 : decode cX7_burnBy 36 = .ok (.iload 4, 2) := by decide +kernel
theorem dX7_burnBy_38 : decode cX7_burnBy 38 = .ok (.invokestatic 82, 3) := by decide +kernel
theorem dX7_burnBy_41 : decode cX7_burnBy 41 = .ok (.istore 5, 2) := by decide +kernel
theorem dX7_burnBy_43 : decode cX7_burnBy 43 = .ok (.iload 5, 2) := by decide +kernel
theorem dX7_burnBy_45 : decode cX7_burnBy 45 = .ok (.ifCond .lt 63, 3) := by decide +kernel
theorem dX7_burnBy_48 : decode cX7_burnBy 48 = .ok (.iload 5, 2) := by decide +kernel
theorem dX7_burnBy_50 : decode cX7_burnBy 50 = .ok (.iload_n 2, 1) := by decide +kernel
theorem dX7_burnBy_51 : decode cX7_burnBy 51 = .ok (.invokestatic 101, 3) := by decide +kernel
theorem dX7_burnBy_54 : decode cX7_burnBy 54 = .ok (.iload_n 3, 1) := by decide +kernel
theorem dX7_burnBy_55 : decode cX7_burnBy 55 = .ok (.if_icmp .gt 53, 3) := by decide +kernel
theorem dX7_burnBy_58 : decode cX7_burnBy 58 = .ok (.aload_n 0, 1) := by decide +kernel
theorem dX7_burnBy_59 : decode cX7_burnBy 59 = .ok (.getfield 21, 3) := by decide +kernel
theorem dX7_burnBy_62 : decode cX7_burnBy 62 = .ok (.aload_n 0, 1) := by decide +kernel
theorem dX7_burnBy_63 : decode cX7_burnBy 63 = .ok (.getfield 35, 3) := by decide +kernel
theorem dX7_burnBy_66 : decode cX7_burnBy 66 = .ok (.getfield 210, 3) := by decide +kernel
theorem dX7_burnBy_69 : decode cX7_burnBy 69 = .ok (.iload 4, 2) := by decide +kernel
theorem dX7_burnBy_71 : decode cX7_burnBy 71 = .ok (.invokestatic 82, 3) := by decide +kernel
theorem dX7_burnBy_74 : decode cX7_burnBy 74 = .ok (.invokevirtual 248, 3) := by decide +kernel
theorem dX7_burnBy_77 : decode cX7_burnBy 77 = .ok (.ifCond .eq 31, 3) := by decide +kernel
theorem dX7_burnBy_80 : decode cX7_burnBy 80 = .ok (.aload_n 0, 1) := by decide +kernel
theorem dX7_burnBy_81 : decode cX7_burnBy 81 = .ok (.getfield 35, 3) := by decide +kernel
theorem dX7_burnBy_84 : decode cX7_burnBy 84 = .ok (.getfield 141, 3) := by decide +kernel
theorem dX7_burnBy_87 : decode cX7_burnBy 87 = .ok (.iload 4, 2) := by decide +kernel
theorem dX7_burnBy_89 : decode cX7_burnBy 89 = .ok (.bipush (-2), 2) := by decide +kernel
theorem dX7_burnBy_91 : decode cX7_burnBy 91 = .ok (.invokestatic 142, 3) := by decide +kernel
theorem dX7_burnBy_94 : decode cX7_burnBy 94 = .ok (.aload_n 0, 1) := by decide +kernel
theorem dX7_burnBy_95 : decode cX7_burnBy 95 = .ok (.getfield 35, 3) := by decide +kernel
theorem dX7_burnBy_98 : decode cX7_burnBy 98 = .ok (.bipush (-3), 2) := by decide +kernel
theorem dX7_burnBy_100 : decode cX7_burnBy 100 = .ok (.iload 4, 2) := by decide +kernel
theorem dX7_burnBy_102 : decode cX7_burnBy 102 = .ok (.isub, 1) := by decide +kernel
theorem dX7_burnBy_103 : decode cX7_burnBy 103 = .ok (.iload 5, 2) := by decide +kernel
theorem dX7_burnBy_105 : decode cX7_burnBy 105 = .ok (.invokevirtual 251, 3) := by decide +kernel
theorem dX7_burnBy_108 : decode cX7_burnBy 108 = .ok (.iinc 4 1, 3) := by decide +kernel
theorem dX7_burnBy_111 : decode cX7_burnBy 111 = .ok (.goto (-94), 3) := by decide +kernel
theorem dX7_burnBy_114 : decode cX7_burnBy 114 = .ok (.return_, 1) := by decide +kernel
theorem dX7_heroPrays_0 : decode cX7_heroPrays 0 = .ok (.aload_n 0, 1) := by decide +kernel
theorem dX7_heroPrays_1 : decode cX7_heroPrays 1 = .ok (.getfield 28, 3) := by decide +kernel
theorem dX7_heroPrays_4 : decode cX7_heroPrays 4 = .ok (.iconst 0, 1) := by decide +kernel
theorem dX7_heroPrays_5 : decode cX7_heroPrays 5 = .ok (.invokevirtual 198, 3) := by decide +kernel
theorem dX7_heroPrays_8 : decode cX7_heroPrays 8 = .ok (.ifCond .eq 45, 3) := by decide +kernel
theorem dX7_heroPrays_11 : decode cX7_heroPrays 11 = .ok (.aload_n 0, 1) := by decide +kernel
theorem dX7_heroPrays_12 : decode cX7_heroPrays 12 = .ok (.getfield 53, 3) := by decide +kernel
theorem dX7_heroPrays_15 : decode cX7_heroPrays 15 = .ok (.ifCond .lt 38, 3) := by decide +kernel
theorem dX7_heroPrays_18 : decode cX7_heroPrays 18 = .ok (.aload_n 0, 1) := by decide +kernel
theorem dX7_heroPrays_19 : decode cX7_heroPrays 19 = .ok (.getfield 28, 3) := by decide +kernel
theorem dX7_heroPrays_22 : decode cX7_heroPrays 22 = .ok (.getfield 223, 3) := by decide +kernel
theorem dX7_heroPrays_25 : decode cX7_heroPrays 25 = .ok (.iconst 0, 1) := by decide +kernel
theorem dX7_heroPrays_26 : decode cX7_heroPrays 26 = .ok (.aload_n 0, 1) := by decide +kernel
theorem dX7_heroPrays_27 : decode cX7_heroPrays 27 = .ok (.getfield 28, 3) := by decide +kernel
theorem dX7_heroPrays_30 : decode cX7_heroPrays 30 = .ok (.getfield 254, 3) := by decide +kernel
theorem dX7_heroPrays_33 : decode cX7_heroPrays 33 = .ok (.iconst 0, 1) := by decide +kernel
theorem dX7_heroPrays_34 : decode cX7_heroPrays 34 = .ok (.invokestatic 82, 3) := by decide +kernel
theorem dX7_heroPrays_37 : decode cX7_heroPrays 37 = .ok (.invokestatic 142, 3) := by decide +kernel
theorem dX7_heroPrays_40 : decode cX7_heroPrays 40 = .ok (.aload_n 0, 1) := by decide +kernel
theorem dX7_heroPrays_41 : decode cX7_heroPrays 41 = .ok (.dup, 1) := by decide +kernel
theorem dX7_heroPrays_42 : decode cX7_heroPrays 42 = .ok (.getfield 53, 3) := by decide +kernel
theorem dX7_heroPrays_45 : decode cX7_heroPrays 45 = .ok (.iconst 5, 1) := by decide +kernel
theorem dX7_heroPrays_46 : decode cX7_heroPrays 46 = .ok (.isub, 1) := by decide +kernel
theorem dX7_heroPrays_47 : decode cX7_heroPrays 47 = .ok (.putfield 53, 3) := by decide +kernel
theorem dX7_heroPrays_50 : decode cX7_heroPrays 50 = .ok (.goto 13, 3) := by decide +kernel
theorem dX7_heroPrays_53 : decode cX7_heroPrays 53 = .ok (.aload_n 0, 1) := by decide +kernel
theorem dX7_heroPrays_54 : decode cX7_heroPrays 54 = .ok (.dup, 1) := by decide +kernel
theorem dX7_heroPrays_55 : decode cX7_heroPrays 55 = .ok (.getfield 53, 3) := by decide +kernel
theorem dX7_heroPrays_58 : decode cX7_heroPrays 58 = .ok (.iconst 1, 1) := by decide +kernel
theorem dX7_heroPrays_59 : decode cX7_heroPrays 59 = .ok (.isub, 1) := by decide +kernel
theorem dX7_heroPrays_60 : decode cX7_heroPrays 60 = .ok (.putfield 53, 3) := by decide +kernel
theorem dX7_heroPrays_63 : decode cX7_heroPrays 63 = .ok (.aload_n 0, 1) := by decide +kernel
theorem dX7_heroPrays_64 : decode cX7_heroPrays 64 = .ok (.getfield 53, 3) := by decide +kernel
theorem dX7_heroPrays_67 : decode cX7_heroPrays 67 = .ok (.ireturn, 1) := by decide +kernel
theorem dX7_layHands_0 : decode cX7_layHands 0 = .ok (.aload_n 0, 1) := by decide +kernel
theorem dX7_layHands_1 : decode cX7_layHands 1 = .ok (.getfield 35, 3) := by decide +kernel
theorem dX7_layHands_4 : decode cX7_layHands 4 = .ok (.iconst (-1), 1) := by decide +kernel
theorem dX7_layHands_5 : decode cX7_layHands 5 = .ok (.aload_n 0, 1) := by decide +kernel
theorem dX7_layHands_6 : decode cX7_layHands 6 = .ok (.invokevirtual 93, 3) := by decide +kernel
theorem dX7_layHands_9 : decode cX7_layHands 9 = .ok (.invokevirtual 251, 3) := by decide +kernel
theorem dX7_layHands_12 : decode cX7_layHands 12 = .ok (.return_, 1) := by decide +kernel
theorem dX7_waitForHero_0 : decode cX7_waitForHero 0 = .ok (.iconst 0, 1) := by decide +kernel
theorem dX7_waitForHero_1 : decode cX7_waitForHero 1 = .ok (.istore_n 1, 1) := by decide +kernel
theorem dX7_waitForHero_2 : decode cX7_waitForHero 2 = .ok (.iload_n 1, 1) := by decide +kernel
theorem dX7_waitForHero_3 : decode cX7_waitForHero 3 = .ok (.ldc 118, 2) := by decide +kernel
theorem dX7_waitForHero_5 : decode cX7_waitForHero 5 = .ok (.if_icmp .ge 85, 3) := by decide +kernel
theorem dX7_waitForHero_8 : decode cX7_waitForHero 8 = .ok (.aload_n 0, 1) := by decide +kernel
theorem dX7_waitForHero_9 : decode cX7_waitForHero 9 = .ok (.getfield 28, 3) := by decide +kernel
theorem dX7_waitForHero_12 : decode cX7_waitForHero 12 = .ok (.iconst 0, 1) := by decide +kernel
theorem dX7_waitForHero_13 : decode cX7_waitForHero 13 = .ok (.invokevirtual 204, 3) := by decide +kernel
theorem dX7_waitForHero_16 : decode cX7_waitForHero 16 = .ok (.ifCond .eq 74, 3) := by decide +kernel
theorem dX7_waitForHero_19 : decode cX7_waitForHero 19 = .ok (.aload_n 0, 1) := by decide +kernel
theorem dX7_waitForHero_20 : decode cX7_waitForHero 20 = .ok (.getfield 28, 3) := by decide +kernel
theorem dX7_waitForHero_23 : decode cX7_waitForHero 23 = .ok (.invokevirtual 257, 3) := by decide +kernel
theorem dX7_waitForHero_26 : decode cX7_waitForHero 26 = .ok (.istore_n 2, 1) := by decide +kernel
theorem dX7_waitForHero_27 : decode cX7_waitForHero 27 = .ok (.iload_n 2, 1) := by decide +kernel
theorem dX7_waitForHero_28 : decode cX7_waitForHero 28 = .ok (.ifCond .ne 4, 3) := by decide +kernel
theorem dX7_waitForHero_31 : decode cX7_waitForHero 31 = .ok (.return_, 1) := by decide +kernel
theorem dX7_waitForHero_32 : decode cX7_waitForHero 32 = .ok (.iload_n 2, 1) := by decide +kernel
theorem dX7_waitForHero_33 : decode cX7_waitForHero 33 = .ok (.iconst (-1), 1) := by decide +kernel
theorem dX7_waitForHero_34 : decode cX7_waitForHero 34 = .ok (.if_icmp .ne 37, 3) := by decide +kernel
theorem dX7_waitForHero_37 : decode cX7_waitForHero 37 = .ok (.aload_n 0, 1) := by decide +kernel
theorem dX7_waitForHero_38 : decode cX7_waitForHero 38 = .ok (.getfield 28, 3) := by decide +kernel
theorem dX7_waitForHero_41 : decode cX7_waitForHero 41 = .ok (.invokevirtual 260, 3) := by decide +kernel
theorem dX7_waitForHero_44 : decode cX7_waitForHero 44 = .ok (.aload_n 0, 1) := by decide +kernel
theorem dX7_waitForHero_45 : decode cX7_waitForHero 45 = .ok (.iconst 0, 1) := by decide +kernel
theorem dX7_waitForHero_46 : decode cX7_waitForHero 46 = .ok (.aload_n 0, 1) := by decide +kernel
theorem dX7_waitForHero_47 : decode cX7_waitForHero 47 = .ok (.getfield 56, 3) := by decide +kernel
theorem dX7_waitForHero_50 : decode cX7_waitForHero 50 = .ok (.iconst 1, 1) := by decide +kernel
theorem dX7_waitForHero_51 : decode cX7_waitForHero 51 = .ok (.isub, 1) := by decide +kernel
theorem dX7_waitForHero_52 : decode cX7_waitForHero 52 = .ok (.invokestatic 263, 3) := by decide +kernel
theorem dX7_waitForHero_55 : decode cX7_waitForHero 55 = .ok (.putfield 56, 3) := by decide +kernel
theorem dX7_waitForHero_58 : decode cX7_waitForHero 58 = .ok (.aload_n 0, 1) := by decide +kernel
theorem dX7_waitForHero_59 : decode cX7_waitForHero 59 = .ok (.dup, 1) := by decide +kernel
theorem dX7_waitForHero_60 : decode cX7_waitForHero 60 = .ok (.getfield 46, 3) := by decide +kernel
theorem dX7_waitForHero_63 : decode cX7_waitForHero 63 = .ok (.iconst 1, 1) := by decide +kernel
theorem dX7_waitForHero_64 : decode cX7_waitForHero 64 = .ok (.iadd, 1) := by decide +kernel
theorem dX7_waitForHero_65 : decode cX7_waitForHero 65 = .ok (.putfield 46, 3) := by decide +kernel
theorem dX7_waitForHero_68 : decode cX7_waitForHero 68 = .ok (.goto 16, 3) := by decide +kernel
theorem dX7_waitForHero_71 : decode cX7_waitForHero 71 = .ok (.aload_n 0, 1) := by decide +kernel
theorem dX7_waitForHero_72 : decode cX7_waitForHero 72 = .ok (.getfield 28, 3) := by decide +kernel
theorem dX7_waitForHero_75 : decode cX7_waitForHero 75 = .ok (.iload_n 2, 1) := by decide +kernel
theorem dX7_waitForHero_76 : decode cX7_waitForHero 76 = .ok (.invokevirtual 166, 3) := by decide +kernel
theorem dX7_waitForHero_79 : decode cX7_waitForHero 79 = .ok (.aload_n 0, 1) := by decide +kernel
theorem dX7_waitForHero_80 : decode cX7_waitForHero 80 = .ok (.iload_n 2, 1) := by decide +kernel
theorem dX7_waitForHero_81 : decode cX7_waitForHero 81 = .ok (.invokevirtual 268, 3) := by decide +kernel
theorem dX7_waitForHero_84 : decode cX7_waitForHero 84 = .ok (.iinc 1 1, 3) := by decide +kernel
theorem dX7_waitForHero_87 : decode cX7_waitForHero 87 = .ok (.goto (-85), 3) := by decide +kernel
theorem dX7_waitForHero_90 : decode cX7_waitForHero 90 = .ok (.return_, 1) := by decide +kernel
theorem dX7_moveBeast_0 : decode cX7_moveBeast 0 = .ok (.aload_n 0, 1) := by decide +kernel
theorem dX7_moveBeast_1 : decode cX7_moveBeast 1 = .ok (.invokevirtual 93, 3) := by decide +kernel
theorem dX7_moveBeast_4 : decode cX7_moveBeast 4 = .ok (.istore_n 2, 1) := by decide +kernel
theorem dX7_moveBeast_5 : decode cX7_moveBeast 5 = .ok (.aload_n 0, 1) := by decide +kernel
theorem dX7_moveBeast_6 : decode cX7_moveBeast 6 = .ok (.getfield 28, 3) := by decide +kernel
theorem dX7_moveBeast_9 : decode cX7_moveBeast 9 = .ok (.getfield 78, 3) := by decide +kernel
theorem dX7_moveBeast_12 : decode cX7_moveBeast 12 = .ok (.iload_n 1, 1) := by decide +kernel
theorem dX7_moveBeast_13 : decode cX7_moveBeast 13 = .ok (.invokestatic 82, 3) := by decide +kernel
theorem dX7_moveBeast_16 : decode cX7_moveBeast 16 = .ok (.istore_n 3, 1) := by decide +kernel
theorem dX7_moveBeast_17 : decode cX7_moveBeast 17 = .ok (.aload_n 0, 1) := by decide +kernel
theorem dX7_moveBeast_18 : decode cX7_moveBeast 18 = .ok (.getfield 12, 3) := by decide +kernel
theorem dX7_moveBeast_21 : decode cX7_moveBeast 21 = .ok (.iload_n 3, 1) := by decide +kernel
theorem dX7_moveBeast_22 : decode cX7_moveBeast 22 = .ok (.iload_n 2, 1) := by decide +kernel
theorem dX7_moveBeast_23 : decode cX7_moveBeast 23 = .ok (.invokevirtual 97, 3) := by decide +kernel
theorem dX7_moveBeast_26 : decode cX7_moveBeast 26 = .ok (.ifCond .eq 15, 3) := by decide +kernel
theorem dX7_moveBeast_29 : decode cX7_moveBeast 29 = .ok (.aload_n 0, 1) := by decide +kernel
theorem dX7_moveBeast_30 : decode cX7_moveBeast 30 = .ok (.getfield 28, 3) := by decide +kernel
theorem dX7_moveBeast_33 : decode cX7_moveBeast 33 = .ok (.getfield 271, 3) := by decide +kernel
theorem dX7_moveBeast_36 : decode cX7_moveBeast 36 = .ok (.iload_n 1, 1) := by decide +kernel
theorem dX7_moveBeast_37 : decode cX7_moveBeast 37 = .ok (.iload_n 2, 1) := by decide +kernel
theorem dX7_moveBeast_38 : decode cX7_moveBeast 38 = .ok (.invokestatic 142, 3) := by decide +kernel
theorem dX7_moveBeast_41 : decode cX7_moveBeast 41 = .ok (.aload_n 0, 1) := by decide +kernel
theorem dX7_moveBeast_42 : decode cX7_moveBeast 42 = .ok (.getfield 28, 3) := by decide +kernel
theorem dX7_moveBeast_45 : decode cX7_moveBeast 45 = .ok (.getfield 271, 3) := by decide +kernel
theorem dX7_moveBeast_48 : decode cX7_moveBeast 48 = .ok (.iload_n 1, 1) := by decide +kernel
theorem dX7_moveBeast_49 : decode cX7_moveBeast 49 = .ok (.invokestatic 82, 3) := by decide +kernel
theorem dX7_moveBeast_52 : decode cX7_moveBeast 52 = .ok (.istore 4, 2) := by decide +kernel
theorem dX7_moveBeast_54 : decode cX7_moveBeast 54 = .ok (.iload 4, 2) := by decide +kernel
theorem dX7_moveBeast_56 : decode cX7_moveBeast 56 = .ok (.iconst (-1), 1) := by decide +kernel
theorem dX7_moveBeast_57 : decode cX7_moveBeast 57 = .ok (.if_icmp .ne 4, 3) := by decide +kernel
theorem dX7_moveBeast_60 : decode cX7_moveBeast 60 = .ok (.return_, 1) := by decide +kernel
theorem dX7_moveBeast_61 : decode cX7_moveBeast 61 = .ok (.aload_n 0, 1) := by decide +kernel
theorem dX7_moveBeast_62 : decode cX7_moveBeast 62 = .ok (.getfield 12, 3) := by decide +kernel
theorem dX7_moveBeast_65 : decode cX7_moveBeast 65 = .ok (.iload 4, 2) := by decide +kernel
theorem dX7_moveBeast_67 : decode cX7_moveBeast 67 = .ok (.invokevirtual 274, 3) := by decide +kernel
theorem dX7_moveBeast_70 : decode cX7_moveBeast 70 = .ok (.aload_n 0, 1) := by decide +kernel
theorem dX7_moveBeast_71 : decode cX7_moveBeast 71 = .ok (.getfield 28, 3) := by decide +kernel
theorem dX7_moveBeast_74 : decode cX7_moveBeast 74 = .ok (.iload_n 1, 1) := by decide +kernel
theorem dX7_moveBeast_75 : decode cX7_moveBeast 75 = .ok (.invokevirtual 198, 3) := by decide +kernel
theorem dX7_moveBeast_78 : decode cX7_moveBeast 78 = .ok (.ifCond .eq 11, 3) := by decide +kernel
theorem dX7_moveBeast_81 : decode cX7_moveBeast 81 = .ok (.aload_n 0, 1) := by decide +kernel
theorem dX7_moveBeast_82 : decode cX7_moveBeast 82 = .ok (.iload_n 1, 1) := by decide +kernel
theorem dX7_moveBeast_83 : decode cX7_moveBeast 83 = .ok (.invokevirtual 277, 3) := by decide +kernel
theorem dX7_moveBeast_86 : decode cX7_moveBeast 86 = .ok (.goto 46, 3) := by decide +kernel
theorem dX7_moveBeast_89 : decode cX7_moveBeast 89 = .ok (.iload_n 3, 1) := by decide +kernel
theorem dX7_moveBeast_90 : decode cX7_moveBeast 90 = .ok (.iload_n 2, 1) := by decide +kernel
theorem dX7_moveBeast_91 : decode cX7_moveBeast 91 = .ok (.invokestatic 280, 3) := by decide +kernel
theorem dX7_moveBeast_94 : decode cX7_moveBeast 94 = .ok (.ifCond .eq 33, 3) := by decide +kernel
theorem dX7_moveBeast_97 : decode cX7_moveBeast 97 = .ok (.aload_n 0, 1) := by decide +kernel
theorem dX7_moveBeast_98 : decode cX7_moveBeast 98 = .ok (.getfield 28, 3) := by decide +kernel
theorem dX7_moveBeast_101 : decode cX7_moveBeast 101 = .ok (.iconst 0, 1) := by decide +kernel
theorem dX7_moveBeast_102 : decode cX7_moveBeast 102 = .ok (.aload_n 0, 1) := by decide +kernel
theorem dX7_moveBeast_103 : decode cX7_moveBeast 103 = .ok (.getfield 28, 3) := by decide +kernel
theorem dX7_moveBeast_106 : decode cX7_moveBeast 106 = .ok (.getfield 283, 3) := by decide +kernel
theorem dX7_moveBeast_109 : decode cX7_moveBeast 109 = .ok (.iload_n 1, 1) := by decide +kernel
theorem dX7_moveBeast_110 : decode cX7_moveBeast 110 = .ok (.invokestatic 82, 3) := by decide +kernel
theorem dX7_moveBeast_113 : decode cX7_moveBeast 113 = .ok (.invokevirtual 201, 3) := by decide +kernel
theorem dX7_moveBeast_116 : decode cX7_moveBeast 116 = .ok (.aload_n 0, 1) := by decide +kernel
theorem dX7_moveBeast_117 : decode cX7_moveBeast 117 = .ok (.iload_n 2, 1) := by decide +kernel
theorem dX7_moveBeast_118 : decode cX7_moveBeast 118 = .ok (.bipush 6, 2) := by decide +kernel
theorem dX7_moveBeast_120 : decode cX7_moveBeast 120 = .ok (.invokevirtual 159, 3) := by decide +kernel
theorem dX7_moveBeast_123 : decode cX7_moveBeast 123 = .ok (.pop, 1) := by decide +kernel
theorem dX7_moveBeast_124 : decode cX7_moveBeast 124 = .ok (.goto 8, 3) := by decide +kernel
theorem dX7_moveBeast_127 : decode cX7_moveBeast 127 = .ok (.aload_n 0, 1) := by decide +kernel
theorem dX7_moveBeast_128 : decode cX7_moveBeast 128 = .ok (.iload_n 1, 1) := by decide +kernel
theorem dX7_moveBeast_129 : decode cX7_moveBeast 129 = .ok (.invokevirtual 284, 3) := by decide +kernel
theorem dX7_moveBeast_132 : decode cX7_moveBeast 132 = .ok (.aload_n 0, 1) := by decide +kernel
theorem dX7_moveBeast_133 : decode cX7_moveBeast 133 = .ok (.getfield 28, 3) := by decide +kernel
theorem dX7_moveBeast_136 : decode cX7_moveBeast 136 = .ok (.getfield 78, 3) := by decide +kernel
theorem dX7_moveBeast_139 : decode cX7_moveBeast 139 = .ok (.iload_n 1, 1) := by decide +kernel
theorem dX7_moveBeast_140 : decode cX7_moveBeast 140 = .ok (.invokestatic 82, 3) := by decide +kernel
theorem dX7_moveBeast_143 : decode cX7_moveBeast 143 = .ok (.istore 5, 2) := by decide +kernel
theorem dX7_moveBeast_145 : decode cX7_moveBeast 145 = .ok (.iload 5, 2) := by decide +kernel
theorem dX7_moveBeast_147 : decode cX7_moveBeast 147 = .ok (.iload 4, 2) := by decide +kernel
theorem dX7_moveBeast_149 : decode cX7_moveBeast 149 = .ok (.if_icmp .ne 28, 3) := by decide +kernel
theorem dX7_moveBeast_152 : decode cX7_moveBeast 152 = .ok (.aload_n 0, 1) := by decide +kernel
theorem dX7_moveBeast_153 : decode cX7_moveBeast 153 = .ok (.getfield 12, 3) := by decide +kernel
theorem dX7_moveBeast_156 : decode cX7_moveBeast 156 = .ok (.iload 5, 2) := by decide +kernel
theorem dX7_moveBeast_158 : decode cX7_moveBeast 158 = .ok (.iload_n 2, 1) := by decide +kernel
theorem dX7_moveBeast_159 : decode cX7_moveBeast 159 = .ok (.invokevirtual 97, 3) := by decide +kernel
theorem dX7_moveBeast_162 : decode cX7_moveBeast 162 = .ok (.ifCond .ne 15, 3) := by decide +kernel
theorem dX7_moveBeast_165 : decode cX7_moveBeast 165 = .ok (.aload_n 0, 1) := by decide +kernel
theorem dX7_moveBeast_166 : decode cX7_moveBeast 166 = .ok (.getfield 28, 3) := by decide +kernel
theorem dX7_moveBeast_169 : decode cX7_moveBeast 169 = .ok (.getfield 271, 3) := by decide +kernel
theorem dX7_moveBeast_172 : decode cX7_moveBeast 172 = .ok (.iload_n 1, 1) := by decide +kernel
theorem dX7_moveBeast_173 : decode cX7_moveBeast 173 = .ok (.iconst (-1), 1) := by decide +kernel
theorem dX7_moveBeast_174 : decode cX7_moveBeast 174 = .ok (.invokestatic 142, 3) := by decide +kernel
theorem dX7_moveBeast_177 : decode cX7_moveBeast 177 = .ok (.return_, 1) := by decide +kernel
theorem dX7_flee_0 : decode cX7_flee 0 = .ok (.aload_n 0, 1) := by decide +kernel
theorem dX7_flee_1 : decode cX7_flee 1 = .ok (.getfield 28, 3) := by decide +kernel
theorem dX7_flee_4 : decode cX7_flee 4 = .ok (.getfield 78, 3) := by decide +kernel
theorem dX7_flee_7 : decode cX7_flee 7 = .ok (.iload_n 1, 1) := by decide +kernel
theorem dX7_flee_8 : decode cX7_flee 8 = .ok (.invokestatic 82, 3) := by decide +kernel
theorem dX7_flee_11 : decode cX7_flee 11 = .ok (.istore_n 2, 1) := by decide +kernel
theorem dX7_flee_12 : decode cX7_flee 12 = .ok (.iload_n 2, 1) := by decide +kernel
theorem dX7_flee_13 : decode cX7_flee 13 = .ok (.istore_n 3, 1) := by decide +kernel
theorem dX7_flee_14 : decode cX7_flee 14 = .ok (.iconst 0, 1) := by decide +kernel
theorem dX7_flee_15 : decode cX7_flee 15 = .ok (.istore 4, 2) := by decide +kernel
theorem dX7_flee_17 : decode cX7_flee 17 = .ok (.iload 4, 2) := by decide +kernel
theorem dX7_flee_19 : decode cX7_flee 19 = .ok (.iconst 4, 1) := by decide +kernel
theorem dX7_flee_20 : decode cX7_flee 20 = .ok (.if_icmp .ge 55, 3) := by decide +kernel
theorem dX7_flee_23 : decode cX7_flee 23 = .ok (.iload_n 2, 1) := by decide +kernel
theorem dX7_flee_24 : decode cX7_flee 24 = .ok (.iload 4, 2) := by decide +kernel
theorem dX7_flee_26 : decode cX7_flee 26 = .ok (.invokestatic 170, 3) := by decide +kernel
theorem dX7_flee_29 : decode cX7_flee 29 = .ok (.istore 5, 2) := by decide +kernel
theorem dX7_flee_31 : decode cX7_flee 31 = .ok (.aload_n 0, 1) := by decide +kernel
theorem dX7_flee_32 : decode cX7_flee 32 = .ok (.iload 5, 2) := by decide +kernel
theorem dX7_flee_34 : decode cX7_flee 34 = .ok (.invokevirtual 287, 3) := by decide +kernel
theorem dX7_flee_37 : decode cX7_flee 37 = .ok (.ifCond .eq 32, 3) := by decide +kernel
theorem dX7_flee_40 : decode cX7_flee 40 = .ok (.aload_n 0, 1) := by decide +kernel
theorem dX7_flee_41 : decode cX7_flee 41 = .ok (.getfield 12, 3) := by decide +kernel
theorem dX7_flee_44 : decode cX7_flee 44 = .ok (.getfield 290, 3) := by decide +kernel
theorem dX7_flee_47 : decode cX7_flee 47 = .ok (.iload 5, 2) := by decide +kernel
theorem dX7_flee_49 : decode cX7_flee 49 = .ok (.invokestatic 82, 3) := by decide +kernel
theorem dX7_flee_52 : decode cX7_flee 52 = .ok (.aload_n 0, 1) := by decide +kernel
theorem dX7_flee_53 : decode cX7_flee 53 = .ok (.getfield 12, 3) := by decide +kernel
theorem dX7_flee_56 : decode cX7_flee 56 = .ok (.getfield 290, 3) := by decide +kernel
theorem dX7_flee_59 : decode cX7_flee 59 = .ok (.iload_n 3, 1) := by decide +kernel
theorem dX7_flee_60 : decode cX7_flee 60 = .ok (.invokestatic 82, 3) := by decide +kernel
theorem dX7_flee_63 : decode cX7_flee 63 = .ok (.if_icmp .le 6, 3) := by decide +kernel
theorem dX7_flee_66 : decode cX7_flee 66 = .ok (.iload 5, 2) := by decide +kernel
theorem dX7_flee_68 : decode cX7_flee 68 = .ok (.istore_n 3, 1) := by decide +kernel
theorem dX7_flee_69 : decode cX7_flee 69 = .ok (.iinc 4 1, 3) := by decide +kernel
theorem dX7_flee_72 : decode cX7_flee 72 = .ok (.goto (-55), 3) := by decide +kernel
theorem dX7_flee_75 : decode cX7_flee 75 = .ok (.aload_n 0, 1) := by decide +kernel
theorem dX7_flee_76 : decode cX7_flee 76 = .ok (.getfield 28, 3) := by decide +kernel
theorem dX7_flee_79 : decode cX7_flee 79 = .ok (.getfield 78, 3) := by decide +kernel
theorem dX7_flee_82 : decode cX7_flee 82 = .ok (.iload_n 1, 1) := by decide +kernel
theorem dX7_flee_83 : decode cX7_flee 83 = .ok (.iload_n 3, 1) := by decide +kernel
theorem dX7_flee_84 : decode cX7_flee 84 = .ok (.invokestatic 142, 3) := by decide +kernel
theorem dX7_flee_87 : decode cX7_flee 87 = .ok (.return_, 1) := by decide +kernel
theorem dX7_comeNearer_0 : decode cX7_comeNearer 0 = .ok (.aload_n 0, 1) := by decide +kernel
theorem dX7_comeNearer_1 : decode cX7_comeNearer 1 = .ok (.getfield 28, 3) := by decide +kernel
theorem dX7_comeNearer_4 : decode cX7_comeNearer 4 = .ok (.getfield 78, 3) := by decide +kernel
theorem dX7_comeNearer_7 : decode cX7_comeNearer 7 = .ok (.iload_n 1, 1) := by decide +kernel
theorem dX7_comeNearer_8 : decode cX7_comeNearer 8 = .ok (.invokestatic 82, 3) := by decide +kernel
theorem dX7_comeNearer_11 : decode cX7_comeNearer 11 = .ok (.istore_n 2, 1) := by decide +kernel
theorem dX7_comeNearer_12 : decode cX7_comeNearer 12 = .ok (.iload_n 2, 1) := by decide +kernel
theorem dX7_comeNearer_13 : decode cX7_comeNearer 13 = .ok (.istore_n 3, 1) := by decide +kernel
theorem dX7_comeNearer_14 : decode cX7_comeNearer 14 = .ok (.iconst 0, 1) := by decide +kernel
theorem dX7_comeNearer_15 : decode cX7_comeNearer 15 = .ok (.istore 4, 2) := by decide +kernel
theorem dX7_comeNearer_17 : decode cX7_comeNearer 17 = .ok (.iload 4, 2) := by decide +kernel
theorem dX7_comeNearer_19 : decode cX7_comeNearer 19 = .ok (.iconst 4, 1) := by decide +kernel
theorem dX7_comeNearer_20 : decode cX7_comeNearer 20 = .ok (.if_icmp .ge 90, 3) := by decide +kernel
theorem dX7_comeNearer_23 : decode cX7_comeNearer 23 = .ok (.iload_n 2, 1) := by decide +kernel
theorem dX7_comeNearer_24 : decode cX7_comeNearer 24 = .ok (.iload 4, 2) := by decide +kernel
theorem dX7_comeNearer_26 : decode cX7_comeNearer 26 = .ok (.invokestatic 170, 3) := by decide +kernel
theorem dX7_comeNearer_29 : decode cX7_comeNearer 29 = .ok (.istore 5, 2) := by decide +kernel
theorem dX7_comeNearer_31 : decode cX7_comeNearer 31 = .ok (.aload_n 0, 1) := by decide +kernel
theorem dX7_comeNearer_32 : decode cX7_comeNearer 32 = .ok (.iload 5, 2) := by decide +kernel
theorem dX7_comeNearer_34 : decode cX7_comeNearer 34 = .ok (.invokevirtual 287, 3) := by decide +kernel
theorem dX7_comeNearer_37 : decode cX7_comeNearer 37 = .ok (.ifCond .ne 17, 3) := by decide +kernel
theorem dX7_comeNearer_40 : decode cX7_comeNearer 40 = .ok (.aload_n 0, 1) := by decide +kernel
theorem dX7_comeNearer_41 : decode cX7_comeNearer 41 = .ok (.getfield 12, 3) := by decide +kernel
theorem dX7_comeNearer_44 : decode cX7_comeNearer 44 = .ok (.iload 5, 2) := by decide +kernel
theorem dX7_comeNearer_46 : decode cX7_comeNearer 46 = .ok (.invokevirtual 176, 3) := by decide +kernel
theorem dX7_comeNearer_49 : decode cX7_comeNearer 49 = .ok (.bipush 43, 2) := by decide +kernel
theorem dX7_comeNearer_51 : decode cX7_comeNearer 51 = .ok (.if_icmp .ne 7, 3) := by decide +kernel
theorem dX7_comeNearer_54 : decode cX7_comeNearer 54 = .ok (.iconst 1, 1) := by decide +kernel
theorem dX7_comeNearer_55 : decode cX7_comeNearer 55 = .ok (.goto 4, 3) := by decide +kernel
theorem dX7_comeNearer_58 : decode cX7_comeNearer 58 = .ok (.iconst 0, 1) := by decide +kernel
theorem dX7_comeNearer_59 : decode cX7_comeNearer 59 = .ok (.istore 6, 2) := by decide +kernel
theorem dX7_comeNearer_61 : decode cX7_comeNearer 61 = .ok (.aload_n 0, 1) := by decide +kernel
theorem dX7_comeNearer_62 : decode cX7_comeNearer 62 = .ok (.getfield 12, 3) := by decide +kernel
theorem dX7_comeNearer_65 : decode cX7_comeNearer 65 = .ok (.getfield 290, 3) := by decide +kernel
theorem dX7_comeNearer_68 : decode cX7_comeNearer 68 = .ok (.iload 5, 2) := by decide +kernel
theorem dX7_comeNearer_70 : decode cX7_comeNearer 70 = .ok (.invokestatic 82, 3) := by decide +kernel
theorem dX7_comeNearer_73 : decode cX7_comeNearer 73 = .ok (.istore 7, 2) := by decide +kernel
theorem dX7_comeNearer_75 : decode cX7_comeNearer 75 = .ok (.iload 6, 2) := by decide +kernel
theorem dX7_comeNearer_77 : decode cX7_comeNearer 77 = .ok (.ifCond .eq 27, 3) := by decide +kernel
theorem dX7_comeNearer_80 : decode cX7_comeNearer 80 = .ok (.iload 7, 2) := by decide +kernel
theorem dX7_comeNearer_82 : decode cX7_comeNearer 82 = .ok (.ifCond .lt 22, 3) := by decide +kernel
theorem dX7_comeNearer_85 : decode cX7_comeNearer 85 = .ok (.iload 7, 2) := by decide +kernel
theorem dX7_comeNearer_87 : decode cX7_comeNearer 87 = .ok (.aload_n 0, 1) := by decide +kernel
theorem dX7_comeNearer_88 : decode cX7_comeNearer 88 = .ok (.getfield 12, 3) := by decide +kernel
theorem dX7_comeNearer_91 : decode cX7_comeNearer 91 = .ok (.getfield 290, 3) := by decide +kernel
theorem dX7_comeNearer_94 : decode cX7_comeNearer 94 = .ok (.iload_n 3, 1) := by decide +kernel
theorem dX7_comeNearer_95 : decode cX7_comeNearer 95 = .ok (.invokestatic 82, 3) := by decide +kernel
theorem dX7_comeNearer_98 : decode cX7_comeNearer 98 = .ok (.if_icmp .ge 6, 3) := by decide +kernel
theorem dX7_comeNearer_101 : decode cX7_comeNearer 101 = .ok (.iload 5, 2) := by decide +kernel
theorem dX7_comeNearer_103 : decode cX7_comeNearer 103 = .ok (.istore_n 3, 1) := by decide +kernel
theorem dX7_comeNearer_104 : decode cX7_comeNearer 104 = .ok (.iinc 4 1, 3) := by decide +kernel
theorem dX7_comeNearer_107 : decode cX7_comeNearer 107 = .ok (.goto (-90), 3) := by decide +kernel
theorem dX7_comeNearer_110 : decode cX7_comeNearer 110 = .ok (.aload_n 0, 1) := by decide +kernel
theorem dX7_comeNearer_111 : decode cX7_comeNearer 111 = .ok (.getfield 12, 3) := by decide +kernel
theorem dX7_comeNearer_114 : decode cX7_comeNearer 114 = .ok (.iload_n 3, 1) := by decide +kernel
theorem dX7_comeNearer_115 : decode cX7_comeNearer 115 = .ok (.invokevirtual 176, 3) := by decide +kernel
theorem dX7_comeNearer_118 : decode cX7_comeNearer 118 = .ok (.bipush 43, 2) := by decide +kernel
theorem dX7_comeNearer_120 : decode cX7_comeNearer 120 = .ok (.if_icmp .ne 16, 3) := by decide +kernel
theorem dX7_comeNearer_123 : decode cX7_comeNearer 123 = .ok (.aload_n 0, 1) := by decide +kernel
theorem dX7_comeNearer_124 : decode cX7_comeNearer 124 = .ok (.getfield 12, 3) := by decide +kernel
theorem dX7_comeNearer_127 : decode cX7_comeNearer 127 = .ok (.iload_n 3, 1) := by decide +kernel
theorem dX7_comeNearer_128 : decode cX7_comeNearer 128 = .ok (.bipush 47, 2) := by decide +kernel
theorem dX7_comeNearer_130 : decode cX7_comeNearer 130 = .ok (.invokevirtual 190, 3) := by decide +kernel
theorem dX7_comeNearer_133 : decode cX7_comeNearer 133 = .ok (.goto 15, 3) := by decide +kernel
theorem dX7_comeNearer_136 : decode cX7_comeNearer 136 = .ok (.aload_n 0, 1) := by decide +kernel
theorem dX7_comeNearer_137 : decode cX7_comeNearer 137 = .ok (.getfield 28, 3) := by decide +kernel
theorem dX7_comeNearer_140 : decode cX7_comeNearer 140 = .ok (.getfield 78, 3) := by decide +kernel
theorem dX7_comeNearer_143 : decode cX7_comeNearer 143 = .ok (.iload_n 1, 1) := by decide +kernel
theorem dX7_comeNearer_144 : decode cX7_comeNearer 144 = .ok (.iload_n 3, 1) := by decide +kernel
theorem dX7_comeNearer_145 : decode cX7_comeNearer 145 = .ok (.invokestatic 142, 3) := by decide +kernel
theorem dX7_comeNearer_148 : decode cX7_comeNearer 148 = .ok (.return_, 1) := by decide +kernel
theorem dX7_isOpenTo_0 : decode cX7_isOpenTo 0 = .ok (.aload_n 0, 1) := by decide +kernel
theorem dX7_isOpenTo_1 : decode cX7_isOpenTo 1 = .ok (.getfield 12, 3) := by decide +kernel
theorem dX7_isOpenTo_4 : decode cX7_isOpenTo 4 = .ok (.iload_n 1, 1) := by decide +kernel
theorem dX7_isOpenTo_5 : decode cX7_isOpenTo 5 = .ok (.invokevirtual 176, 3) := by decide +kernel
theorem dX7_isOpenTo_8 : decode cX7_isOpenTo 8 = .ok (.invokestatic 194, 3) := by decide +kernel
theorem dX7_isOpenTo_11 : decode cX7_isOpenTo 11 = .ok (.ifCond .eq 19, 3) := by decide +kernel
theorem dX7_isOpenTo_14 : decode cX7_isOpenTo 14 = .ok (.aload_n 0, 1) := by decide +kernel
theorem dX7_isOpenTo_15 : decode cX7_isOpenTo 15 = .ok (.getfield 28, 3) := by decide +kernel
theorem dX7_isOpenTo_18 : decode cX7_isOpenTo 18 = .ok (.iload_n 1, 1) := by decide +kernel
theorem dX7_isOpenTo_19 : decode cX7_isOpenTo 19 = .ok (.invokevirtual 173, 3) := by decide +kernel
theorem dX7_isOpenTo_22 : decode cX7_isOpenTo 22 = .ok (.iconst (-1), 1) := by decide +kernel
theorem dX7_isOpenTo_23 : decode cX7_isOpenTo 23 = .ok (.if_icmp .ne 7, 3) := by decide +kernel
theorem dX7_isOpenTo_26 : decode cX7_isOpenTo 26 = .ok (.iconst 1, 1) := by decide +kernel
theorem dX7_isOpenTo_27 : decode cX7_isOpenTo 27 = .ok (.goto 4, 3) := by decide +kernel
theorem dX7_isOpenTo_30 : decode cX7_isOpenTo 30 = .ok (.iconst 0, 1) := by decide +kernel
theorem dX7_isOpenTo_31 : decode cX7_isOpenTo 31 = .ok (.ireturn, 1) := by decide +kernel
theorem dX7_makeNoise_0 : decode cX7_makeNoise 0 = .ok (.aload_n 0, 1) := by decide +kernel
theorem dX7_makeNoise_1 : decode cX7_makeNoise 1 = .ok (.getfield 12, 3) := by decide +kernel
theorem dX7_makeNoise_4 : decode cX7_makeNoise 4 = .ok (.aload_n 0, 1) := by decide +kernel
theorem dX7_makeNoise_5 : decode cX7_makeNoise 5 = .ok (.getfield 12, 3) := by decide +kernel
theorem dX7_makeNoise_8 : decode cX7_makeNoise 8 = .ok (.getfield 115, 3) := by decide +kernel
theorem dX7_makeNoise_11 : decode cX7_makeNoise 11 = .ok (.iload_n 1, 1) := by decide +kernel
theorem dX7_makeNoise_12 : decode cX7_makeNoise 12 = .ok (.iconst 3, 1) := by decide +kernel
theorem dX7_makeNoise_13 : decode cX7_makeNoise 13 = .ok (.bipush 7, 2) := by decide +kernel
theorem dX7_makeNoise_15 : decode cX7_makeNoise 15 = .ok (.iload_n 2, 1) := by decide +kernel
theorem dX7_makeNoise_16 : decode cX7_makeNoise 16 = .ok (.invokevirtual 119, 3) := by decide +kernel
theorem dX7_makeNoise_19 : decode cX7_makeNoise 19 = .ok (.iconst 0, 1) := by decide +kernel
theorem dX7_makeNoise_20 : decode cX7_makeNoise 20 = .ok (.istore_n 3, 1) := by decide +kernel
theorem dX7_makeNoise_21 : decode cX7_makeNoise 21 = .ok (.iconst 1, 1) := by decide +kernel
theorem dX7_makeNoise_22 : decode cX7_makeNoise 22 = .ok (.istore 4, 2) := by decide +kernel
theorem dX7_makeNoise_24 : decode cX7_makeNoise 24 = .ok (.iload 4, 2) := by decide +kernel
theorem dX7_makeNoise_26 : decode cX7_makeNoise 26 = .ok (.aload_n 0, 1) := by decide +kernel
theorem dX7_makeNoise_27 : decode cX7_makeNoise 27 = .ok (.getfield 28, 3) := by decide +kernel
theorem dX7_makeNoise_30 : decode cX7_makeNoise 30 = .ok (.getfield 86, 3) := by decide +kernel
theorem dX7_makeNoise_33 : decode cX7_makeNoise 33 = .ok (.if_icmp .ge 72, 3) := by decide +kernel
theorem dX7_makeNoise_36 : decode cX7_makeNoise 36 = .ok (.aload_n 0, 1) := by decide +kernel
theorem dX7_makeNoise_37 : decode cX7_makeNoise 37 = .ok (.getfield 12, 3) := by decide +kernel
theorem dX7_makeNoise_40 : decode cX7_makeNoise 40 = .ok (.getfield 115, 3) := by decide +kernel
theorem dX7_makeNoise_43 : decode cX7_makeNoise 43 = .ok (.aload_n 0, 1) := by decide +kernel
theorem dX7_makeNoise_44 : decode cX7_makeNoise 44 = .ok (.getfield 28, 3) := by decide +kernel
theorem dX7_makeNoise_47 : decode cX7_makeNoise 47 = .ok (.getfield 78, 3) := by decide +kernel
theorem dX7_makeNoise_50 : decode cX7_makeNoise 50 = .ok (.iload 4, 2) := by decide +kernel
theorem dX7_makeNoise_52 : decode cX7_makeNoise 52 = .ok (.invokestatic 82, 3) := by decide +kernel
theorem dX7_makeNoise_55 : decode cX7_makeNoise 55 = .ok (.invokestatic 82, 3) := by decide +kernel
theorem dX7_makeNoise_58 : decode cX7_makeNoise 58 = .ok (.istore 5, 2) := by decide +kernel
theorem dX7_makeNoise_60 : decode cX7_makeNoise 60 = .ok (.aload_n 0, 1) := by decide +kernel
theorem dX7_makeNoise_61 : decode cX7_makeNoise 61 = .ok (.getfield 28, 3) := by decide +kernel
theorem dX7_makeNoise_64 : decode cX7_makeNoise 64 = .ok (.iload 4, 2) := by decide +kernel
theorem dX7_makeNoise_66 : decode cX7_makeNoise 66 = .ok (.invokevirtual 204, 3) := by decide +kernel
theorem dX7_makeNoise_69 : decode cX7_makeNoise 69 = .ok (.ifCond .eq 30, 3) := by decide +kernel
theorem dX7_makeNoise_72 : decode cX7_makeNoise 72 = .ok (.iload 5, 2) := by decide +kernel
theorem dX7_makeNoise_74 : decode cX7_makeNoise 74 = .ok (.ifCond .lt 25, 3) := by decide +kernel
theorem dX7_makeNoise_77 : decode cX7_makeNoise 77 = .ok (.iload 5, 2) := by decide +kernel
theorem dX7_makeNoise_79 : decode cX7_makeNoise 79 = .ok (.iload_n 2, 1) := by decide +kernel
theorem dX7_makeNoise_80 : decode cX7_makeNoise 80 = .ok (.if_icmp .gt 19, 3) := by decide +kernel
theorem dX7_makeNoise_83 : decode cX7_makeNoise 83 = .ok (.aload_n 0, 1) := by decide +kernel
theorem dX7_makeNoise_84 : decode cX7_makeNoise 84 = .ok (.getfield 28, 3) := by decide +kernel
theorem dX7_makeNoise_87 : decode cX7_makeNoise 87 = .ok (.getfield 271, 3) := by decide +kernel
theorem dX7_makeNoise_90 : decode cX7_makeNoise 90 = .ok (.iload 4, 2) := by decide +kernel
theorem dX7_makeNoise_92 : decode cX7_makeNoise 92 = .ok (.iload_n 1, 1) := by decide +kernel
theorem dX7_makeNoise_93 : decode cX7_makeNoise 93 = .ok (.invokestatic 142, 3) := by decide +kernel
theorem dX7_makeNoise_96 : decode cX7_makeNoise 96 = .ok (.iinc 3 1, 3) := by decide +kernel
theorem dX7_makeNoise_99 : decode cX7_makeNoise 99 = .ok (.iinc 4 1, 3) := by decide +kernel
theorem dX7_makeNoise_102 : decode cX7_makeNoise 102 = .ok (.goto (-78), 3) := by decide +kernel
theorem dX7_makeNoise_105 : decode cX7_makeNoise 105 = .ok (.iload_n 3, 1) := by decide +kernel
theorem dX7_makeNoise_106 : decode cX7_makeNoise 106 = .ok (.ireturn, 1) := by decide +kernel
theorem dX8_init_0 : decode cX8_init 0 = .ok (.aload_n 0, 1) := by decide +kernel
theorem dX8_init_1 : decode cX8_init 1 = .ok (.invokespecial 3, 3) := by decide +kernel
theorem dX8_init_4 : decode cX8_init 4 = .ok (.aload_n 0, 1) := by decide +kernel
theorem dX8_init_5 : decode cX8_init 5 = .ok (.new 9, 3) := by decide +kernel
theorem dX8_init_8 : decode cX8_init 8 = .ok (.dup, 1) := by decide +kernel
theorem dX8_init_9 : decode cX8_init 9 = .ok (.invokespecial 11, 3) := by decide +kernel
theorem dX8_init_12 : decode cX8_init 12 = .ok (.putfield 12, 3) := by decide +kernel
theorem dX8_init_15 : decode cX8_init 15 = .ok (.aload_n 0, 1) := by decide +kernel
theorem dX8_init_16 : decode cX8_init 16 = .ok (.new 9, 3) := by decide +kernel
theorem dX8_init_19 : decode cX8_init 19 = .ok (.dup, 1) := by decide +kernel
theorem dX8_init_20 : decode cX8_init 20 = .ok (.invokespecial 11, 3) := by decide +kernel
theorem dX8_init_23 : decode cX8_init 23 = .ok (.putfield 16, 3) := by decide +kernel
theorem dX8_init_26 : decode cX8_init 26 = .ok (.aload_n 0, 1) := by decide +kernel
theorem dX8_init_27 : decode cX8_init 27 = .ok (.new 9, 3) := by decide +kernel
theorem dX8_init_30 : decode cX8_init 30 = .ok (.dup, 1) := by decide +kernel
theorem dX8_init_31 : decode cX8_init 31 = .ok (.invokespecial 11, 3) := by decide +kernel
theorem dX8_init_34 : decode cX8_init 34 = .ok (.putfield 19, 3) := by decide +kernel
theorem dX8_init_37 : decode cX8_init 37 = .ok (.aload_n 0, 1) := by decide +kernel
theorem dX8_init_38 : decode cX8_init 38 = .ok (.new 22, 3) := by decide +kernel
theorem dX8_init_41 : decode cX8_init 41 = .ok (.dup, 1) := by decide +kernel
theorem dX8_init_42 : decode cX8_init 42 = .ok (.invokespecial 24, 3) := by decide +kernel
theorem dX8_init_45 : decode cX8_init 45 = .ok (.putfield 25, 3) := by decide +kernel
theorem dX8_init_48 : decode cX8_init 48 = .ok (.aload_n 0, 1) := by decide +kernel
theorem dX8_init_49 : decode cX8_init 49 = .ok (.new 29, 3) := by decide +kernel
theorem dX8_init_52 : decode cX8_init 52 = .ok (.dup, 1) := by decide +kernel
theorem dX8_init_53 : decode cX8_init 53 = .ok (.invokespecial 31, 3) := by decide +kernel
theorem dX8_init_56 : decode cX8_init 56 = .ok (.putfield 32, 3) := by decide +kernel
theorem dX8_init_59 : decode cX8_init 59 = .ok (.aload_n 0, 1) := by decide +kernel
theorem dX8_init_60 : decode cX8_init 60 = .ok (.bipush 110, 2) := by decide +kernel
theorem dX8_init_62 : decode cX8_init 62 = .ok (.putfield 36, 3) := by decide +kernel
theorem dX8_init_65 : decode cX8_init 65 = .ok (.aload_n 0, 1) := by decide +kernel
theorem dX8_init_66 : decode cX8_init 66 = .ok (.iconst 0, 1) := by decide +kernel
theorem dX8_init_67 : decode cX8_init 67 = .ok (.putfield 40, 3) := by decide +kernel
theorem dX8_init_70 : decode cX8_init 70 = .ok (.return_, 1) := by decide +kernel
theorem dX8_dig_0 : decode cX8_dig 0 = .ok (.iload_n 1, 1) := by decide +kernel
theorem dX8_dig_1 : decode cX8_dig 1 = .ok (.iload_n 2, 1) := by decide +kernel
theorem dX8_dig_2 : decode cX8_dig 2 = .ok (.invokestatic 44, 3) := by decide +kernel
theorem dX8_dig_5 : decode cX8_dig 5 = .ok (.ldc 48, 2) := by decide +kernel
theorem dX8_dig_7 : decode cX8_dig 7 = .ok (.iload_n 3, 1) := by decide +kernel
theorem dX8_dig_8 : decode cX8_dig 8 = .ok (.invokevirtual 50, 3) := by decide +kernel
theorem dX8_dig_11 : decode cX8_dig 11 = .ok (.ifCond .ge 11, 3) := by decide +kernel
theorem dX8_dig_14 : decode cX8_dig 14 = .ok (.new 56, 3) := by decide +kernel
theorem dX8_dig_17 : decode cX8_dig 17 = .ok (.dup, 1) := by decide +kernel
theorem dX8_dig_18 : decode cX8_dig 18 = .ok (.invokespecial 58, 3) := by decide +kernel
theorem dX8_dig_21 : decode cX8_dig 21 = .ok (.athrow, 1) := by decide +kernel
theorem dX8_dig_22 : decode cX8_dig 22 = .ok (.aload_n 0, 1) := by decide +kernel
theorem dX8_dig_23 : decode cX8_dig 23 = .ok (.invokevirtual 59, 3) := by decide +kernel
theorem dX8_dig_26 : decode cX8_dig 26 = .ok (.aload_n 0, 1) := by decide +kernel
theorem dX8_dig_27 : decode cX8_dig 27 = .ok (.getfield 12, 3) := by decide +kernel
theorem dX8_dig_30 : decode cX8_dig 30 = .ok (.getfield 62, 3) := by decide +kernel
theorem dX8_dig_33 : decode cX8_dig 33 = .ok (.iload_n 1, 1) := by decide +kernel
theorem dX8_dig_34 : decode cX8_dig 34 = .ok (.iload_n 2, 1) := by decide +kernel
theorem dX8_dig_35 : decode cX8_dig 35 = .ok (.invokestatic 66, 3) := by decide +kernel
theorem dX8_dig_38 : decode cX8_dig 38 = .ok (.invokevirtual 70, 3) := by decide +kernel
theorem dX8_dig_41 : decode cX8_dig 41 = .ok (.istore 4, 2) := by decide +kernel
theorem dX8_dig_43 : decode cX8_dig 43 = .ok (.aload_n 0, 1) := by decide +kernel
theorem dX8_dig_44 : decode cX8_dig 44 = .ok (.getfield 12, 3) := by decide +kernel
theorem dX8_dig_47 : decode cX8_dig 47 = .ok (.getfield 62, 3) := by decide +kernel
theorem dX8_dig_50 : decode cX8_dig 50 = .ok (.iload_n 1, 1) := by decide +kernel
theorem dX8_dig_51 : decode cX8_dig 51 = .ok (.iload_n 2, 1) := by decide +kernel
theorem dX8_dig_52 : decode cX8_dig 52 = .ok (.invokestatic 66, 3) := by decide +kernel
theorem dX8_dig_55 : decode cX8_dig 55 = .ok (.iload_n 3, 1) := by decide +kernel
theorem dX8_dig_56 : decode cX8_dig 56 = .ok (.invokevirtual 76, 3) := by decide +kernel
theorem dX8_dig_59 : decode cX8_dig 59 = .ok (.aload_n 0, 1) := by decide +kernel
theorem dX8_dig_60 : decode cX8_dig 60 = .ok (.bipush 110, 2) := by decide +kernel
theorem dX8_dig_62 : decode cX8_dig 62 = .ok (.putfield 36, 3) := by decide +kernel
theorem dX8_dig_65 : decode cX8_dig 65 = .ok (.iload 4, 2) := by decide +kernel
theorem dX8_dig_67 : decode cX8_dig 67 = .ok (.ireturn, 1) := by decide +kernel
theorem dX8_setKind_0 : decode cX8_setKind 0 = .ok (.iload_n 1, 1) := by decide +kernel
theorem dX8_setKind_1 : decode cX8_setKind 1 = .ok (.iconst 0, 1) := by decide +kernel
theorem dX8_setKind_2 : decode cX8_setKind 2 = .ok (.bipush 7, 2) := by decide +kernel
theorem dX8_setKind_4 : decode cX8_setKind 4 = .ok (.invokestatic 80, 3) := by decide +kernel
theorem dX8_setKind_7 : decode cX8_setKind 7 = .ok (.iload_n 2, 1) := by decide +kernel
theorem dX8_setKind_8 : decode cX8_setKind 8 = .ok (.iconst 0, 1) := by decide +kernel
theorem dX8_setKind_9 : decode cX8_setKind 9 = .ok (.bipush 9, 2) := by decide +kernel
theorem dX8_setKind_11 : decode cX8_setKind 11 = .ok (.invokestatic 80, 3) := by decide +kernel
theorem dX8_setKind_14 : decode cX8_setKind 14 = .ok (.aload_n 0, 1) := by decide +kernel
theorem dX8_setKind_15 : decode cX8_setKind 15 = .ok (.invokevirtual 59, 3) := by decide +kernel
theorem dX8_setKind_18 : decode cX8_setKind 18 = .ok (.aload_n 0, 1) := by decide +kernel
theorem dX8_setKind_19 : decode cX8_setKind 19 = .ok (.getfield 12, 3) := by decide +kernel
theorem dX8_setKind_22 : decode cX8_setKind 22 = .ok (.getfield 84, 3) := by decide +kernel
theorem dX8_setKind_25 : decode cX8_setKind 25 = .ok (.getfield 88, 3) := by decide +kernel
theorem dX8_setKind_28 : decode cX8_setKind 28 = .ok (.iload_n 1, 1) := by decide +kernel
theorem dX8_setKind_29 : decode cX8_setKind 29 = .ok (.invokestatic 94, 3) := by decide +kernel
theorem dX8_setKind_32 : decode cX8_setKind 32 = .ok (.istore 4, 2) := by decide +kernel
theorem dX8_setKind_34 : decode cX8_setKind 34 = .ok (.aload_n 0, 1) := by decide +kernel
theorem dX8_setKind_35 : decode cX8_setKind 35 = .ok (.getfield 12, 3) := by decide +kernel
theorem dX8_setKind_38 : decode cX8_setKind 38 = .ok (.getfield 84, 3) := by decide +kernel
theorem dX8_setKind_41 : decode cX8_setKind 41 = .ok (.iload_n 1, 1) := by decide +kernel
theorem dX8_setKind_42 : decode cX8_setKind 42 = .ok (.iload_n 2, 1) := by decide +kernel
theorem dX8_setKind_43 : decode cX8_setKind 43 = .ok (.iload_n 3, 1) := by decide +kernel
theorem dX8_setKind_44 : decode cX8_setKind 44 = .ok (.invokevirtual 98, 3) := by decide +kernel
theorem dX8_setKind_47 : decode cX8_setKind 47 = .ok (.aload_n 0, 1) := by decide +kernel
theorem dX8_setKind_48 : decode cX8_setKind 48 = .ok (.bipush 110, 2) := by decide +kernel
theorem dX8_setKind_50 : decode cX8_setKind 50 = .ok (.putfield 36, 3) := by decide +kernel
theorem dX8_setKind_53 : decode cX8_setKind 53 = .ok (.iload 4, 2) := by decide +kernel
theorem dX8_setKind_55 : decode cX8_setKind 55 = .ok (.ireturn, 1) := by decide +kernel
theorem dX8_setEffect_0 : decode cX8_setEffect 0 = .ok (.iload_n 1, 1) := by decide +kernel
theorem dX8_setEffect_1 : decode cX8_setEffect 1 = .ok (.iconst 3, 1) := by decide +kernel
theorem dX8_setEffect_2 : decode cX8_setEffect 2 = .ok (.iconst 5, 1) := by decide +kernel
theorem dX8_setEffect_3 : decode cX8_setEffect 3 = .ok (.invokestatic 80, 3) := by decide +kernel
theorem dX8_setEffect_6 : decode cX8_setEffect 6 = .ok (.ldc 102, 2) := by decide +kernel
theorem dX8_setEffect_8 : decode cX8_setEffect 8 = .ok (.iload_n 2, 1) := by decide +kernel
theorem dX8_setEffect_9 : decode cX8_setEffect 9 = .ok (.invokevirtual 50, 3) := by decide +kernel
theorem dX8_setEffect_12 : decode cX8_setEffect 12 = .ok (.ifCond .ge 11, 3) := by decide +kernel
theorem dX8_setEffect_15 : decode cX8_setEffect 15 = .ok (.new 56, 3) := by decide +kernel
theorem dX8_setEffect_18 : decode cX8_setEffect 18 = .ok (.dup, 1) := by decide +kernel
theorem dX8_setEffect_19 : decode cX8_setEffect 19 = .ok (.invokespecial 58, 3) := by decide +kernel
theorem dX8_setEffect_22 : decode cX8_setEffect 22 = .ok (.athrow, 1) := by decide +kernel
theorem dX8_setEffect_23 : decode cX8_setEffect 23 = .ok (.iload_n 3, 1) := by decide +kernel
theorem dX8_setEffect_24 : decode cX8_setEffect 24 = .ok (.iconst 1, 1) := by decide +kernel
theorem dX8_setEffect_25 : decode cX8_setEffect 25 = .ok (.bipush 20, 2) := by decide +kernel
theorem dX8_setEffect_27 : decode cX8_setEffect 27 = .ok (.invokestatic 80, 3) := by decide +kernel
theorem dX8_setEffect_30 : decode cX8_setEffect 30 = .ok (.iload 4, 2) := by decide +kernel
theorem dX8_setEffect_32 : decode cX8_setEffect 32 = .ok (.iconst 0, 1) := by decide +kernel
theorem dX8_setEffect_33 : decode cX8_setEffect 33 = .ok (.iconst 3, 1) := by decide +kernel
theorem dX8_setEffect_34 : decode cX8_setEffect 34 = .ok (.invokestatic 80, 3) := by decide +kernel
theorem dX8_setEffect_37 : decode cX8_setEffect 37 = .ok (.aload_n 0, 1) := by decide +kernel
theorem dX8_setEffect_38 : decode cX8_setEffect 38 = .ok (.invokevirtual 59, 3) := by decide +kernel
theorem dX8_setEffect_41 : decode cX8_setEffect 41 = .ok (.aload_n 0, 1) := by decide +kernel
theorem dX8_setEffect_42 : decode cX8_setEffect 42 = .ok (.getfield 12, 3) := by decide +kernel
theorem dX8_setEffect_45 : decode cX8_setEffect 45 = .ok (.getfield 84, 3) := by decide +kernel
theorem dX8_setEffect_48 : decode cX8_setEffect 48 = .ok (.iload_n 1, 1) := by decide +kernel
theorem dX8_setEffect_49 : decode cX8_setEffect 49 = .ok (.invokevirtual 104, 3) := by decide +kernel
theorem dX8_setEffect_52 : decode cX8_setEffect 52 = .ok (.istore 5, 2) := by decide +kernel
theorem dX8_setEffect_54 : decode cX8_setEffect 54 = .ok (.aload_n 0, 1) := by decide +kernel
theorem dX8_setEffect_55 : decode cX8_setEffect 55 = .ok (.getfield 12, 3) := by decide +kernel
theorem dX8_setEffect_58 : decode cX8_setEffect 58 = .ok (.getfield 84, 3) := by decide +kernel
theorem dX8_setEffect_61 : decode cX8_setEffect 61 = .ok (.iload_n 1, 1) := by decide +kernel
theorem dX8_setEffect_62 : decode cX8_setEffect 62 = .ok (.iload_n 2, 1) := by decide +kernel
theorem dX8_setEffect_63 : decode cX8_setEffect 63 = .ok (.iload_n 3, 1) := by decide +kernel
theorem dX8_setEffect_64 : decode cX8_setEffect 64 = .ok (.iload 4, 2) := by decide +kernel
theorem dX8_setEffect_66 : decode cX8_setEffect 66 = .ok (.invokevirtual 107, 3) := by decide +kernel
theorem dX8_setEffect_69 : decode cX8_setEffect 69 = .ok (.aload_n 0, 1) := by decide +kernel
theorem dX8_setEffect_70 : decode cX8_setEffect 70 = .ok (.bipush 110, 2) := by decide +kernel
theorem dX8_setEffect_72 : decode cX8_setEffect 72 = .ok (.putfield 36, 3) := by decide +kernel
theorem dX8_setEffect_75 : decode cX8_setEffect 75 = .ok (.iload 5, 2) := by decide +kernel
theorem dX8_setEffect_77 : decode cX8_setEffect 77 = .ok (.ireturn, 1) := by decide +kernel
theorem dX8_setHero_0 : decode cX8_setHero 0 = .ok (.iload_n 1, 1) := by decide +kernel
