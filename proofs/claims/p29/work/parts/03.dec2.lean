theorem dX2_accepts_50 : decode cX2_accepts 50 = .ok (.invokevirtual 52, 3) := by decide +kernel
theorem dX2_accepts_53 : decode cX2_accepts 53 = .ok (.ireturn, 1) := by decide +kernel
theorem dX2_accepts_54 : decode cX2_accepts 54 = .ok (.iload_n 1, 1) := by decide +kernel
theorem dX2_accepts_55 : decode cX2_accepts 55 = .ok (.bipush 61, 2) := by decide +kernel
theorem dX2_accepts_57 : decode cX2_accepts 57 = .ok (.if_icmp .ne 10, 3) := by decide +kernel
theorem dX2_accepts_60 : decode cX2_accepts 60 = .ok (.aload_n 0, 1) := by decide +kernel
theorem dX2_accepts_61 : decode cX2_accepts 61 = .ok (.invokevirtual 56, 3) := by decide +kernel
theorem dX2_accepts_64 : decode cX2_accepts 64 = .ok (.goto 8, 3) := by decide +kernel
theorem dX2_accepts_67 : decode cX2_accepts 67 = .ok (.aload_n 0, 1) := by decide +kernel
theorem dX2_accepts_68 : decode cX2_accepts 68 = .ok (.iload_n 1, 1) := by decide +kernel
theorem dX2_accepts_69 : decode cX2_accepts 69 = .ok (.invokevirtual 59, 3) := by decide +kernel
theorem dX2_accepts_72 : decode cX2_accepts 72 = .ok (.ireturn, 1) := by decide +kernel
theorem dX2_accepts_73 : decode cX2_accepts 73 = .ok (.iload_n 1, 1) := by decide +kernel
theorem dX2_accepts_74 : decode cX2_accepts 74 = .ok (.bipush 44, 2) := by decide +kernel
theorem dX2_accepts_76 : decode cX2_accepts 76 = .ok (.if_icmp .ne 10, 3) := by decide +kernel
theorem dX2_accepts_79 : decode cX2_accepts 79 = .ok (.aload_n 0, 1) := by decide +kernel
theorem dX2_accepts_80 : decode cX2_accepts 80 = .ok (.invokevirtual 45, 3) := by decide +kernel
theorem dX2_accepts_83 : decode cX2_accepts 83 = .ok (.goto 11, 3) := by decide +kernel
theorem dX2_accepts_86 : decode cX2_accepts 86 = .ok (.aload_n 0, 1) := by decide +kernel
theorem dX2_accepts_87 : decode cX2_accepts 87 = .ok (.sipush 1000, 3) := by decide +kernel
theorem dX2_accepts_90 : decode cX2_accepts 90 = .ok (.iload_n 1, 1) := by decide +kernel
theorem dX2_accepts_91 : decode cX2_accepts 91 = .ok (.invokevirtual 52, 3) := by decide +kernel
theorem dX2_accepts_94 : decode cX2_accepts 94 = .ok (.ireturn, 1) := by decide +kernel
theorem dX2_endsTime_0 : decode cX2_endsTime 0 = .ok (.aload_n 0, 1) := by decide +kernel
theorem dX2_endsTime_1 : decode cX2_endsTime 1 = .ok (.aload_n 0, 1) := by decide +kernel
theorem dX2_endsTime_2 : decode cX2_endsTime 2 = .ok (.getfield 35, 3) := by decide +kernel
theorem dX2_endsTime_5 : decode cX2_endsTime 5 = .ok (.putfield 29, 3) := by decide +kernel
theorem dX2_endsTime_8 : decode cX2_endsTime 8 = .ok (.aload_n 0, 1) := by decide +kernel
theorem dX2_endsTime_9 : decode cX2_endsTime 9 = .ok (.iconst 0, 1) := by decide +kernel
theorem dX2_endsTime_10 : decode cX2_endsTime 10 = .ok (.putfield 32, 3) := by decide +kernel
theorem dX2_endsTime_13 : decode cX2_endsTime 13 = .ok (.aload_n 0, 1) := by decide +kernel
theorem dX2_endsTime_14 : decode cX2_endsTime 14 = .ok (.iconst 1, 1) := by decide +kernel
theorem dX2_endsTime_15 : decode cX2_endsTime 15 = .ok (.putfield 26, 3) := by decide +kernel
theorem dX2_endsTime_18 : decode cX2_endsTime 18 = .ok (.aload_n 0, 1) := by decide +kernel
theorem dX2_endsTime_19 : decode cX2_endsTime 19 = .ok (.getfield 35, 3) := by decide +kernel
theorem dX2_endsTime_22 : decode cX2_endsTime 22 = .ok (.iconst (-1), 1) := by decide +kernel
theorem dX2_endsTime_23 : decode cX2_endsTime 23 = .ok (.if_icmp .eq 7, 3) := by decide +kernel
theorem dX2_endsTime_26 : decode cX2_endsTime 26 = .ok (.iconst 1, 1) := by decide +kernel
theorem dX2_endsTime_27 : decode cX2_endsTime 27 = .ok (.goto 4, 3) := by decide +kernel
theorem dX2_endsTime_30 : decode cX2_endsTime 30 = .ok (.iconst 0, 1) := by decide +kernel
theorem dX2_endsTime_31 : decode cX2_endsTime 31 = .ok (.ireturn, 1) := by decide +kernel
theorem dX2_endsSet_0 : decode cX2_endsSet 0 = .ok (.aload_n 0, 1) := by decide +kernel
theorem dX2_endsSet_1 : decode cX2_endsSet 1 = .ok (.iconst (-1), 1) := by decide +kernel
theorem dX2_endsSet_2 : decode cX2_endsSet 2 = .ok (.putfield 35, 3) := by decide +kernel
theorem dX2_endsSet_5 : decode cX2_endsSet 5 = .ok (.aload_n 0, 1) := by decide +kernel
theorem dX2_endsSet_6 : decode cX2_endsSet 6 = .ok (.iconst 2, 1) := by decide +kernel
theorem dX2_endsSet_7 : decode cX2_endsSet 7 = .ok (.putfield 26, 3) := by decide +kernel
theorem dX2_endsSet_10 : decode cX2_endsSet 10 = .ok (.aload_n 0, 1) := by decide +kernel
theorem dX2_endsSet_11 : decode cX2_endsSet 11 = .ok (.getfield 32, 3) := by decide +kernel
theorem dX2_endsSet_14 : decode cX2_endsSet 14 = .ok (.ifCond .eq 7, 3) := by decide +kernel
theorem dX2_endsSet_17 : decode cX2_endsSet 17 = .ok (.iconst 1, 1) := by decide +kernel
theorem dX2_endsSet_18 : decode cX2_endsSet 18 = .ok (.goto 4, 3) := by decide +kernel
theorem dX2_endsSet_21 : decode cX2_endsSet 21 = .ok (.iconst 0, 1) := by decide +kernel
theorem dX2_endsSet_22 : decode cX2_endsSet 22 = .ok (.ireturn, 1) := by decide +kernel
theorem dX2_endsCue_0 : decode cX2_endsCue 0 = .ok (.aload_n 0, 1) := by decide +kernel
theorem dX2_endsCue_1 : decode cX2_endsCue 1 = .ok (.getfield 26, 3) := by decide +kernel
theorem dX2_endsCue_4 : decode cX2_endsCue 4 = .ok (.iconst 2, 1) := by decide +kernel
theorem dX2_endsCue_5 : decode cX2_endsCue 5 = .ok (.if_icmp .ne 11, 3) := by decide +kernel
theorem dX2_endsCue_8 : decode cX2_endsCue 8 = .ok (.aload_n 0, 1) := by decide +kernel
theorem dX2_endsCue_9 : decode cX2_endsCue 9 = .ok (.getfield 35, 3) := by decide +kernel
theorem dX2_endsCue_12 : decode cX2_endsCue 12 = .ok (.iconst (-1), 1) := by decide +kernel
theorem dX2_endsCue_13 : decode cX2_endsCue 13 = .ok (.if_icmp .ne 5, 3) := by decide +kernel
theorem dX2_endsCue_16 : decode cX2_endsCue 16 = .ok (.iconst 0, 1) := by decide +kernel
theorem dX2_endsCue_17 : decode cX2_endsCue 17 = .ok (.ireturn, 1) := by decide +kernel
theorem dX2_endsCue_18 : decode cX2_endsCue 18 = .ok (.aload_n 0, 1) := by decide +kernel
theorem dX2_endsCue_19 : decode cX2_endsCue 19 = .ok (.getfield 12, 3) := by decide +kernel
theorem dX2_endsCue_22 : decode cX2_endsCue 22 = .ok (.aload_n 0, 1) := by decide +kernel
theorem dX2_endsCue_23 : decode cX2_endsCue 23 = .ok (.getfield 29, 3) := by decide +kernel
theorem dX2_endsCue_26 : decode cX2_endsCue 26 = .ok (.aload_n 0, 1) := by decide +kernel
theorem dX2_endsCue_27 : decode cX2_endsCue 27 = .ok (.getfield 32, 3) := by decide +kernel
theorem dX2_endsCue_30 : decode cX2_endsCue 30 = .ok (.aload_n 0, 1) := by decide +kernel
theorem dX2_endsCue_31 : decode cX2_endsCue 31 = .ok (.getfield 35, 3) := by decide +kernel
theorem dX2_endsCue_34 : decode cX2_endsCue 34 = .ok (.invokevirtual 62, 3) := by decide +kernel
theorem dX2_endsCue_37 : decode cX2_endsCue 37 = .ok (.pop, 1) := by decide +kernel
theorem dX2_endsCue_38 : decode cX2_endsCue 38 = .ok (.aload_n 0, 1) := by decide +kernel
theorem dX2_endsCue_39 : decode cX2_endsCue 39 = .ok (.iconst (-1), 1) := by decide +kernel
theorem dX2_endsCue_40 : decode cX2_endsCue 40 = .ok (.putfield 35, 3) := by decide +kernel
theorem dX2_endsCue_43 : decode cX2_endsCue 43 = .ok (.aload_n 0, 1) := by decide +kernel
theorem dX2_endsCue_44 : decode cX2_endsCue 44 = .ok (.iconst 0, 1) := by decide +kernel
theorem dX2_endsCue_45 : decode cX2_endsCue 45 = .ok (.putfield 26, 3) := by decide +kernel
theorem dX2_endsCue_48 : decode cX2_endsCue 48 = .ok (.iconst 1, 1) := by decide +kernel
theorem dX2_endsCue_49 : decode cX2_endsCue 49 = .ok (.ireturn, 1) := by decide +kernel
theorem dX2_isDigitUpTo_0 : decode cX2_isDigitUpTo 0 = .ok (.iload_n 2, 1) := by decide +kernel
theorem dX2_isDigitUpTo_1 : decode cX2_isDigitUpTo 1 = .ok (.bipush 48, 2) := by decide +kernel
theorem dX2_isDigitUpTo_3 : decode cX2_isDigitUpTo 3 = .ok (.if_icmp .lt 16, 3) := by decide +kernel
theorem dX2_isDigitUpTo_6 : decode cX2_isDigitUpTo 6 = .ok (.iload_n 2, 1) := by decide +kernel
theorem dX2_isDigitUpTo_7 : decode cX2_isDigitUpTo 7 = .ok (.bipush 57, 2) := by decide +kernel
theorem dX2_isDigitUpTo_9 : decode cX2_isDigitUpTo 9 = .ok (.if_icmp .gt 10, 3) := by decide +kernel
theorem dX2_isDigitUpTo_12 : decode cX2_isDigitUpTo 12 = .ok (.aload_n 0, 1) := by decide +kernel
theorem dX2_isDigitUpTo_13 : decode cX2_isDigitUpTo 13 = .ok (.getfield 35, 3) := by decide +kernel
theorem dX2_isDigitUpTo_16 : decode cX2_isDigitUpTo 16 = .ok (.ifCond .ne 5, 3) := by decide +kernel
theorem dX2_isDigitUpTo_19 : decode cX2_isDigitUpTo 19 = .ok (.iconst 0, 1) := by decide +kernel
theorem dX2_isDigitUpTo_20 : decode cX2_isDigitUpTo 20 = .ok (.ireturn, 1) := by decide +kernel
theorem dX2_isDigitUpTo_21 : decode cX2_isDigitUpTo 21 = .ok (.iload_n 2, 1) := by decide +kernel
theorem dX2_isDigitUpTo_22 : decode cX2_isDigitUpTo 22 = .ok (.bipush 48, 2) := by decide +kernel
theorem dX2_isDigitUpTo_24 : decode cX2_isDigitUpTo 24 = .ok (.isub, 1) := by decide +kernel
theorem dX2_isDigitUpTo_25 : decode cX2_isDigitUpTo 25 = .ok (.istore_n 3, 1) := by decide +kernel
theorem dX2_isDigitUpTo_26 : decode cX2_isDigitUpTo 26 = .ok (.aload_n 0, 1) := by decide +kernel
theorem dX2_isDigitUpTo_27 : decode cX2_isDigitUpTo 27 = .ok (.aload_n 0, 1) := by decide +kernel
theorem dX2_isDigitUpTo_28 : decode cX2_isDigitUpTo 28 = .ok (.getfield 35, 3) := by decide +kernel
theorem dX2_isDigitUpTo_31 : decode cX2_isDigitUpTo 31 = .ok (.iconst (-1), 1) := by decide +kernel
theorem dX2_isDigitUpTo_32 : decode cX2_isDigitUpTo 32 = .ok (.if_icmp .ne 7, 3) := by decide +kernel
theorem dX2_isDigitUpTo_35 : decode cX2_isDigitUpTo 35 = .ok (.iload_n 3, 1) := by decide +kernel
theorem dX2_isDigitUpTo_36 : decode cX2_isDigitUpTo 36 = .ok (.goto 12, 3) := by decide +kernel
theorem dX2_isDigitUpTo_39 : decode cX2_isDigitUpTo 39 = .ok (.bipush 10, 2) := by decide +kernel
theorem dX2_isDigitUpTo_41 : decode cX2_isDigitUpTo 41 = .ok (.aload_n 0, 1) := by decide +kernel
theorem dX2_isDigitUpTo_42 : decode cX2_isDigitUpTo 42 = .ok (.getfield 35, 3) := by decide +kernel
theorem dX2_isDigitUpTo_45 : decode cX2_isDigitUpTo 45 = .ok (.imul, 1) := by decide +kernel
theorem dX2_isDigitUpTo_46 : decode cX2_isDigitUpTo 46 = .ok (.iload_n 3, 1) := by decide +kernel
theorem dX2_isDigitUpTo_47 : decode cX2_isDigitUpTo 47 = .ok (.iadd, 1) := by decide +kernel
theorem dX2_isDigitUpTo_48 : decode cX2_isDigitUpTo 48 = .ok (.putfield 35, 3) := by decide +kernel
theorem dX2_isDigitUpTo_51 : decode cX2_isDigitUpTo 51 = .ok (.aload_n 0, 1) := by decide +kernel
theorem dX2_isDigitUpTo_52 : decode cX2_isDigitUpTo 52 = .ok (.getfield 35, 3) := by decide +kernel
theorem dX2_isDigitUpTo_55 : decode cX2_isDigitUpTo 55 = .ok (.iload_n 1, 1) := by decide +kernel
theorem dX2_isDigitUpTo_56 : decode cX2_isDigitUpTo 56 = .ok (.if_icmp .gt 7, 3) := by decide +kernel
theorem dX2_isDigitUpTo_59 : decode cX2_isDigitUpTo 59 = .ok (.iconst 1, 1) := by decide +kernel
theorem dX2_isDigitUpTo_60 : decode cX2_isDigitUpTo 60 = .ok (.goto 4, 3) := by decide +kernel
theorem dX2_isDigitUpTo_63 : decode cX2_isDigitUpTo 63 = .ok (.iconst 0, 1) := by decide +kernel
theorem dX2_isDigitUpTo_64 : decode cX2_isDigitUpTo 64 = .ok (.ireturn, 1) := by decide +kernel
theorem dX2_isLetter_0 : decode cX2_isLetter 0 = .ok (.iload_n 1, 1) := by decide +kernel
theorem dX2_isLetter_1 : decode cX2_isLetter 1 = .ok (.bipush 97, 2) := by decide +kernel
theorem dX2_isLetter_3 : decode cX2_isLetter 3 = .ok (.if_icmp .lt 9, 3) := by decide +kernel
theorem dX2_isLetter_6 : decode cX2_isLetter 6 = .ok (.iload_n 1, 1) := by decide +kernel
theorem dX2_isLetter_7 : decode cX2_isLetter 7 = .ok (.bipush 108, 2) := by decide +kernel
theorem dX2_isLetter_9 : decode cX2_isLetter 9 = .ok (.if_icmp .le 5, 3) := by decide +kernel
theorem dX2_isLetter_12 : decode cX2_isLetter 12 = .ok (.iconst 0, 1) := by decide +kernel
theorem dX2_isLetter_13 : decode cX2_isLetter 13 = .ok (.ireturn, 1) := by decide +kernel
theorem dX2_isLetter_14 : decode cX2_isLetter 14 = .ok (.iconst 1, 1) := by decide +kernel
theorem dX2_isLetter_15 : decode cX2_isLetter 15 = .ok (.iload_n 1, 1) := by decide +kernel
theorem dX2_isLetter_16 : decode cX2_isLetter 16 = .ok (.bipush 97, 2) := by decide +kernel
theorem dX2_isLetter_18 : decode cX2_isLetter 18 = .ok (.isub, 1) := by decide +kernel
theorem dX2_isLetter_19 : decode cX2_isLetter 19 = .ok (.ishl, 1) := by decide +kernel
theorem dX2_isLetter_20 : decode cX2_isLetter 20 = .ok (.istore_n 2, 1) := by decide +kernel
theorem dX2_isLetter_21 : decode cX2_isLetter 21 = .ok (.iload_n 2, 1) := by decide +kernel
theorem dX2_isLetter_22 : decode cX2_isLetter 22 = .ok (.aload_n 0, 1) := by decide +kernel
theorem dX2_isLetter_23 : decode cX2_isLetter 23 = .ok (.getfield 32, 3) := by decide +kernel
theorem dX2_isLetter_26 : decode cX2_isLetter 26 = .ok (.if_icmp .le 7, 3) := by decide +kernel
theorem dX2_isLetter_29 : decode cX2_isLetter 29 = .ok (.iconst 1, 1) := by decide +kernel
theorem dX2_isLetter_30 : decode cX2_isLetter 30 = .ok (.goto 4, 3) := by decide +kernel
theorem dX2_isLetter_33 : decode cX2_isLetter 33 = .ok (.iconst 0, 1) := by decide +kernel
theorem dX2_isLetter_34 : decode cX2_isLetter 34 = .ok (.istore_n 3, 1) := by decide +kernel
theorem dX2_isLetter_35 : decode cX2_isLetter 35 = .ok (.aload_n 0, 1) := by decide +kernel
theorem dX2_isLetter_36 : decode cX2_isLetter 36 = .ok (.dup, 1) := by decide +kernel
theorem dX2_isLetter_37 : decode cX2_isLetter 37 = .ok (.getfield 32, 3) := by decide +kernel
theorem dX2_isLetter_40 : decode cX2_isLetter 40 = .ok (.iload_n 2, 1) := by decide +kernel
theorem dX2_isLetter_41 : decode cX2_isLetter 41 = .ok (.ior, 1) := by decide +kernel
theorem dX2_isLetter_42 : decode cX2_isLetter 42 = .ok (.putfield 32, 3) := by decide +kernel
theorem dX2_isLetter_45 : decode cX2_isLetter 45 = .ok (.iload_n 3, 1) := by decide +kernel
theorem dX2_isLetter_46 : decode cX2_isLetter 46 = .ok (.ireturn, 1) := by decide +kernel
theorem dX3_init_0 : decode cX3_init 0 = .ok (.aload_n 0, 1) := by decide +kernel
theorem dX3_init_1 : decode cX3_init 1 = .ok (.invokespecial 3, 3) := by decide +kernel
theorem dX3_init_4 : decode cX3_init 4 = .ok (.aload_n 0, 1) := by decide +kernel
theorem dX3_init_5 : decode cX3_init 5 = .ok (.new 9, 3) := by decide +kernel
theorem dX3_init_8 : decode cX3_init 8 = .ok (.dup, 1) := by decide +kernel
theorem dX3_init_9 : decode cX3_init 9 = .ok (.iconst 3, 1) := by decide +kernel
theorem dX3_init_10 : decode cX3_init 10 = .ok (.getstatic 11, 3) := by decide +kernel
theorem dX3_init_13 : decode cX3_init 13 = .ok (.getstatic 15, 3) := by decide +kernel
theorem dX3_init_16 : decode cX3_init 16 = .ok (.getstatic 18, 3) := by decide +kernel
theorem dX3_init_19 : decode cX3_init 19 = .ok (.invokespecial 21, 3) := by decide +kernel
theorem dX3_init_22 : decode cX3_init 22 = .ok (.putfield 24, 3) := by decide +kernel
theorem dX3_init_25 : decode cX3_init 25 = .ok (.aload_n 0, 1) := by decide +kernel
theorem dX3_init_26 : decode cX3_init 26 = .ok (.iconst 3, 1) := by decide +kernel
theorem dX3_init_27 : decode cX3_init 27 = .ok (.newarray .int, 2) := by decide +kernel
theorem dX3_init_29 : decode cX3_init 29 = .ok (.putfield 30, 3) := by decide +kernel
theorem dX3_init_32 : decode cX3_init 32 = .ok (.aload_n 0, 1) := by decide +kernel
theorem dX3_init_33 : decode cX3_init 33 = .ok (.iconst 3, 1) := by decide +kernel
theorem dX3_init_34 : decode cX3_init 34 = .ok (.newarray .int, 2) := by decide +kernel
theorem dX3_init_36 : decode cX3_init 36 = .ok (.putfield 33, 3) := by decide +kernel
theorem dX3_init_39 : decode cX3_init 39 = .ok (.aload_n 0, 1) := by decide +kernel
theorem dX3_init_40 : decode cX3_init 40 = .ok (.iconst 3, 1) := by decide +kernel
theorem dX3_init_41 : decode cX3_init 41 = .ok (.newarray .int, 2) := by decide +kernel
theorem dX3_init_43 : decode cX3_init 43 = .ok (.putfield 36, 3) := by decide +kernel
theorem dX3_init_46 : decode cX3_init 46 = .ok (.return_, 1) := by decide +kernel
theorem dX3_goBack_0 : decode cX3_goBack 0 = .ok (.aload_n 0, 1) := by decide +kernel
theorem dX3_goBack_1 : decode cX3_goBack 1 = .ok (.getfield 30, 3) := by decide +kernel
theorem dX3_goBack_4 : decode cX3_goBack 4 = .ok (.invokestatic 39, 3) := by decide +kernel
theorem dX3_goBack_7 : decode cX3_goBack 7 = .ok (.aload_n 0, 1) := by decide +kernel
theorem dX3_goBack_8 : decode cX3_goBack 8 = .ok (.getfield 33, 3) := by decide +kernel
theorem dX3_goBack_11 : decode cX3_goBack 11 = .ok (.invokestatic 39, 3) := by decide +kernel
theorem dX3_goBack_14 : decode cX3_goBack 14 = .ok (.aload_n 0, 1) := by decide +kernel
theorem dX3_goBack_15 : decode cX3_goBack 15 = .ok (.getfield 36, 3) := by decide +kernel
theorem dX3_goBack_18 : decode cX3_goBack 18 = .ok (.invokestatic 39, 3) := by decide +kernel
theorem dX3_goBack_21 : decode cX3_goBack 21 = .ok (.return_, 1) := by decide +kernel
theorem dX3_copy_0 : decode cX3_copy 0 = .ok (.aload_n 0, 1) := by decide +kernel
theorem dX3_copy_1 : decode cX3_copy 1 = .ok (.getfield 24, 3) := by decide +kernel
theorem dX3_copy_4 : decode cX3_copy 4 = .ok (.aload_n 1, 1) := by decide +kernel
theorem dX3_copy_5 : decode cX3_copy 5 = .ok (.getfield 24, 3) := by decide +kernel
theorem dX3_copy_8 : decode cX3_copy 8 = .ok (.invokevirtual 43, 3) := by decide +kernel
theorem dX3_copy_11 : decode cX3_copy 11 = .ok (.aload_n 1, 1) := by decide +kernel
theorem dX3_copy_12 : decode cX3_copy 12 = .ok (.getfield 30, 3) := by decide +kernel
theorem dX3_copy_15 : decode cX3_copy 15 = .ok (.aload_n 0, 1) := by decide +kernel
theorem dX3_copy_16 : decode cX3_copy 16 = .ok (.getfield 30, 3) := by decide +kernel
theorem dX3_copy_19 : decode cX3_copy 19 = .ok (.invokestatic 47, 3) := by decide +kernel
theorem dX3_copy_22 : decode cX3_copy 22 = .ok (.aload_n 1, 1) := by decide +kernel
theorem dX3_copy_23 : decode cX3_copy 23 = .ok (.getfield 33, 3) := by decide +kernel
theorem dX3_copy_26 : decode cX3_copy 26 = .ok (.aload_n 0, 1) := by decide +kernel
theorem dX3_copy_27 : decode cX3_copy 27 = .ok (.getfield 33, 3) := by decide +kernel
theorem dX3_copy_30 : decode cX3_copy 30 = .ok (.invokestatic 47, 3) := by decide +kernel
theorem dX3_copy_33 : decode cX3_copy 33 = .ok (.aload_n 1, 1) := by decide +kernel
theorem dX3_copy_34 : decode cX3_copy 34 = .ok (.getfield 36, 3) := by decide +kernel
theorem dX3_copy_37 : decode cX3_copy 37 = .ok (.aload_n 0, 1) := by decide +kernel
theorem dX3_copy_38 : decode cX3_copy 38 = .ok (.getfield 36, 3) := by decide +kernel
theorem dX3_copy_41 : decode cX3_copy 41 = .ok (.invokestatic 47, 3) := by decide +kernel
theorem dX3_copy_44 : decode cX3_copy 44 = .ok (.return_, 1) := by decide +kernel
theorem dX3_supply_0 : decode cX3_supply 0 = .ok (.iconst 0, 1) := by decide +kernel
theorem dX3_supply_1 : decode cX3_supply 1 = .ok (.istore_n 2, 1) := by decide +kernel
theorem dX3_supply_2 : decode cX3_supply 2 = .ok (.iload_n 2, 1) := by decide +kernel
theorem dX3_supply_3 : decode cX3_supply 3 = .ok (.iconst 3, 1) := by decide +kernel
theorem dX3_supply_4 : decode cX3_supply 4 = .ok (.if_icmp .ge 89, 3) := by decide +kernel
theorem dX3_supply_7 : decode cX3_supply 7 = .ok (.aload_n 0, 1) := by decide +kernel
theorem dX3_supply_8 : decode cX3_supply 8 = .ok (.getfield 33, 3) := by decide +kernel
theorem dX3_supply_11 : decode cX3_supply 11 = .ok (.iload_n 2, 1) := by decide +kernel
theorem dX3_supply_12 : decode cX3_supply 12 = .ok (.aload_n 1, 1) := by decide +kernel
theorem dX3_supply_13 : decode cX3_supply 13 = .ok (.iload_n 2, 1) := by decide +kernel
theorem dX3_supply_14 : decode cX3_supply 14 = .ok (.invokevirtual 51, 3) := by decide +kernel
theorem dX3_supply_17 : decode cX3_supply 17 = .ok (.iastore, 1) := by decide +kernel
theorem dX3_supply_18 : decode cX3_supply 18 = .ok (.aload_n 0, 1) := by decide +kernel
theorem dX3_supply_19 : decode cX3_supply 19 = .ok (.getfield 33, 3) := by decide +kernel
theorem dX3_supply_22 : decode cX3_supply 22 = .ok (.iload_n 2, 1) := by decide +kernel
theorem dX3_supply_23 : decode cX3_supply 23 = .ok (.iaload, 1) := by decide +kernel
theorem dX3_supply_24 : decode cX3_supply 24 = .ok (.sipush 1000, 3) := by decide +kernel
theorem dX3_supply_27 : decode cX3_supply 27 = .ok (.aload_n 0, 1) := by decide +kernel
theorem dX3_supply_28 : decode cX3_supply 28 = .ok (.getfield 24, 3) := by decide +kernel
theorem dX3_supply_31 : decode cX3_supply 31 = .ok (.iload_n 2, 1) := by decide +kernel
theorem dX3_supply_32 : decode cX3_supply 32 = .ok (.iconst 0, 1) := by decide +kernel
theorem dX3_supply_33 : decode cX3_supply 33 = .ok (.invokevirtual 57, 3) := by decide +kernel
theorem dX3_supply_36 : decode cX3_supply 36 = .ok (.imul, 1) := by decide +kernel
theorem dX3_supply_37 : decode cX3_supply 37 = .ok (.invokestatic 61, 3) := by decide +kernel
theorem dX3_supply_40 : decode cX3_supply 40 = .ok (.istore_n 3, 1) := by decide +kernel
theorem dX3_supply_41 : decode cX3_supply 41 = .ok (.aload_n 0, 1) := by decide +kernel
theorem dX3_supply_42 : decode cX3_supply 42 = .ok (.getfield 30, 3) := by decide +kernel
theorem dX3_supply_45 : decode cX3_supply 45 = .ok (.iload_n 2, 1) := by decide +kernel
theorem dX3_supply_46 : decode cX3_supply 46 = .ok (.aload_n 0, 1) := by decide +kernel
theorem dX3_supply_47 : decode cX3_supply 47 = .ok (.getfield 30, 3) := by decide +kernel
theorem dX3_supply_50 : decode cX3_supply 50 = .ok (.iload_n 2, 1) := by decide +kernel
theorem dX3_supply_51 : decode cX3_supply 51 = .ok (.iaload, 1) := by decide +kernel
theorem dX3_supply_52 : decode cX3_supply 52 = .ok (.iload_n 3, 1) := by decide +kernel
theorem dX3_supply_53 : decode cX3_supply 53 = .ok (.sipush 1000, 3) := by decide +kernel
theorem dX3_supply_56 : decode cX3_supply 56 = .ok (.aload_n 0, 1) := by decide +kernel
theorem dX3_supply_57 : decode cX3_supply 57 = .ok (.getfield 24, 3) := by decide +kernel
theorem dX3_supply_60 : decode cX3_supply 60 = .ok (.iload_n 2, 1) := by decide +kernel
theorem dX3_supply_61 : decode cX3_supply 61 = .ok (.iconst 1, 1) := by decide +kernel
theorem dX3_supply_62 : decode cX3_supply 62 = .ok (.invokevirtual 57, 3) := by decide +kernel
theorem dX3_supply_65 : decode cX3_supply 65 = .ok (.imul, 1) := by decide +kernel
theorem dX3_supply_66 : decode cX3_supply 66 = .ok (.invokestatic 66, 3) := by decide +kernel
theorem dX3_supply_69 : decode cX3_supply 69 = .ok (.iastore, 1) := by decide +kernel
theorem dX3_supply_70 : decode cX3_supply 70 = .ok (.aload_n 1, 1) := by decide +kernel
theorem dX3_supply_71 : decode cX3_supply 71 = .ok (.iload_n 2, 1) := by decide +kernel
theorem dX3_supply_72 : decode cX3_supply 72 = .ok (.aload_n 0, 1) := by decide +kernel
theorem dX3_supply_73 : decode cX3_supply 73 = .ok (.getfield 33, 3) := by decide +kernel
theorem dX3_supply_76 : decode cX3_supply 76 = .ok (.iload_n 2, 1) := by decide +kernel
theorem dX3_supply_77 : decode cX3_supply 77 = .ok (.iaload, 1) := by decide +kernel
theorem dX3_supply_78 : decode cX3_supply 78 = .ok (.aload_n 0, 1) := by decide +kernel
theorem dX3_supply_79 : decode cX3_supply 79 = .ok (.getfield 30, 3) := by decide +kernel
theorem dX3_supply_82 : decode cX3_supply 82 = .ok (.iload_n 2, 1) := by decide +kernel
theorem dX3_supply_83 : decode cX3_supply 83 = .ok (.iaload, 1) := by decide +kernel
theorem dX3_supply_84 : decode cX3_supply 84 = .ok (.invokevirtual 70, 3) := by decide +kernel
theorem dX3_supply_87 : decode cX3_supply 87 = .ok (.iinc 2 1, 3) := by decide +kernel
theorem dX3_supply_90 : decode cX3_supply 90 = .ok (.goto (-88), 3) := by decide +kernel
theorem dX3_supply_93 : decode cX3_supply 93 = .ok (.return_, 1) := by decide +kernel
theorem dX3_countShort_0 : decode cX3_countShort 0 = .ok (.iconst 0, 1) := by decide +kernel
theorem dX3_countShort_1 : decode cX3_countShort 1 = .ok (.istore_n 1, 1) := by decide +kernel
theorem dX3_countShort_2 : decode cX3_countShort 2 = .ok (.iload_n 1, 1) := by decide +kernel
theorem dX3_countShort_3 : decode cX3_countShort 3 = .ok (.iconst 3, 1) := by decide +kernel
theorem dX3_countShort_4 : decode cX3_countShort 4 = .ok (.if_icmp .ge 27, 3) := by decide +kernel
theorem dX3_countShort_7 : decode cX3_countShort 7 = .ok (.aload_n 0, 1) := by decide +kernel
theorem dX3_countShort_8 : decode cX3_countShort 8 = .ok (.iload_n 1, 1) := by decide +kernel
theorem dX3_countShort_9 : decode cX3_countShort 9 = .ok (.invokevirtual 74, 3) := by decide +kernel
theorem dX3_countShort_12 : decode cX3_countShort 12 = .ok (.ifCond .eq 13, 3) := by decide +kernel
theorem dX3_countShort_15 : decode cX3_countShort 15 = .ok (.aload_n 0, 1) := by decide +kernel
theorem dX3_countShort_16 : decode cX3_countShort 16 = .ok (.getfield 36, 3) := by decide +kernel
theorem dX3_countShort_19 : decode cX3_countShort 19 = .ok (.iload_n 1, 1) := by decide +kernel
theorem dX3_countShort_20 : decode cX3_countShort 20 = .ok (.dup2, 1) := by decide +kernel
theorem dX3_countShort_21 : decode cX3_countShort 21 = .ok (.iaload, 1) := by decide +kernel
theorem dX3_countShort_22 : decode cX3_countShort 22 = .ok (.iconst 1, 1) := by decide +kernel
theorem dX3_countShort_23 : decode cX3_countShort 23 = .ok (.iadd, 1) := by decide +kernel
theorem dX3_countShort_24 : decode cX3_countShort 24 = .ok (.iastore, 1) := by decide +kernel
theorem dX3_countShort_25 : decode cX3_countShort 25 = .ok (.iinc 1 1, 3) := by decide +kernel
theorem dX3_countShort_28 : decode cX3_countShort 28 = .ok (.goto (-26), 3) := by decide +kernel
theorem dX3_countShort_31 : decode cX3_countShort 31 = .ok (.return_, 1) := by decide +kernel
theorem dX3_isShort_0 : decode cX3_isShort 0 = .ok (.aload_n 0, 1) := by decide +kernel
theorem dX3_isShort_1 : decode cX3_isShort 1 = .ok (.getfield 33, 3) := by decide +kernel
theorem dX3_isShort_4 : decode cX3_isShort 4 = .ok (.iload_n 1, 1) := by decide +kernel
theorem dX3_isShort_5 : decode cX3_isShort 5 = .ok (.iaload, 1) := by decide +kernel
theorem dX3_isShort_6 : decode cX3_isShort 6 = .ok (.aload_n 0, 1) := by decide +kernel
theorem dX3_isShort_7 : decode cX3_isShort 7 = .ok (.getfield 30, 3) := by decide +kernel
theorem dX3_isShort_10 : decode cX3_isShort 10 = .ok (.iload_n 1, 1) := by decide +kernel
theorem dX3_isShort_11 : decode cX3_isShort 11 = .ok (.iaload, 1) := by decide +kernel
theorem dX3_isShort_12 : decode cX3_isShort 12 = .ok (.if_icmp .le 7, 3) := by decide +kernel
theorem dX3_isShort_15 : decode cX3_isShort 15 = .ok (.iconst 1, 1) := by decide +kernel
theorem dX3_isShort_16 : decode cX3_isShort 16 = .ok (.goto 4, 3) := by decide +kernel
theorem dX3_isShort_19 : decode cX3_isShort 19 = .ok (.iconst 0, 1) := by decide +kernel
theorem dX3_isShort_20 : decode cX3_isShort 20 = .ok (.ireturn, 1) := by decide +kernel
theorem dX3_someShort_0 : decode cX3_someShort 0 = .ok (.iconst 0, 1) := by decide +kernel
theorem dX3_someShort_1 : decode cX3_someShort 1 = .ok (.istore_n 1, 1) := by decide +kernel
theorem dX3_someShort_2 : decode cX3_someShort 2 = .ok (.iload_n 1, 1) := by decide +kernel
theorem dX3_someShort_3 : decode cX3_someShort 3 = .ok (.iconst 3, 1) := by decide +kernel
theorem dX3_someShort_4 : decode cX3_someShort 4 = .ok (.if_icmp .ge 19, 3) := by decide +kernel
theorem dX3_someShort_7 : decode cX3_someShort 7 = .ok (.aload_n 0, 1) := by decide +kernel
theorem dX3_someShort_8 : decode cX3_someShort 8 = .ok (.iload_n 1, 1) := by decide +kernel
theorem dX3_someShort_9 : decode cX3_someShort 9 = .ok (.invokevirtual 74, 3) := by decide +kernel
theorem dX3_someShort_12 : decode cX3_someShort 12 = .ok (.ifCond .eq 5, 3) := by decide +kernel
theorem dX3_someShort_15 : decode cX3_someShort 15 = .ok (.iconst 1, 1) := by decide +kernel
theorem dX3_someShort_16 : decode cX3_someShort 16 = .ok (.ireturn, 1) := by decide +kernel
theorem dX3_someShort_17 : decode cX3_someShort 17 = .ok (.iinc 1 1, 3) := by decide +kernel
theorem dX3_someShort_20 : decode cX3_someShort 20 = .ok (.goto (-18), 3) := by decide +kernel
theorem dX3_someShort_23 : decode cX3_someShort 23 = .ok (.iconst 0, 1) := by decide +kernel
theorem dX3_someShort_24 : decode cX3_someShort 24 = .ok (.ireturn, 1) := by decide +kernel
theorem dX4_init_0 : decode cX4_init 0 = .ok (.aload_n 0, 1) := by decide +kernel
theorem dX4_init_1 : decode cX4_init 1 = .ok (.invokespecial 3, 3) := by decide +kernel
theorem dX4_init_4 : decode cX4_init 4 = .ok (.aload_n 0, 1) := by decide +kernel
theorem dX4_init_5 : decode cX4_init 5 = .ok (.iconst 0, 1) := by decide +kernel
theorem dX4_init_6 : decode cX4_init 6 = .ok (.iload_n 1, 1) := by decide +kernel
theorem dX4_init_7 : decode cX4_init 7 = .ok (.invokestatic 9, 3) := by decide +kernel
theorem dX4_init_10 : decode cX4_init 10 = .ok (.putfield 15, 3) := by decide +kernel
theorem dX4_init_13 : decode cX4_init 13 = .ok (.aload_n 0, 1) := by decide +kernel
theorem dX4_init_14 : decode cX4_init 14 = .ok (.aload_n 2, 1) := by decide +kernel
theorem dX4_init_15 : decode cX4_init 15 = .ok (.putfield 21, 3) := by decide +kernel
theorem dX4_init_18 : decode cX4_init 18 = .ok (.aload_n 0, 1) := by decide +kernel
theorem dX4_init_19 : decode cX4_init 19 = .ok (.aload_n 3, 1) := by decide +kernel
theorem dX4_init_20 : decode cX4_init 20 = .ok (.putfield 25, 3) := by decide +kernel
theorem dX4_init_23 : decode cX4_init 23 = .ok (.aload_n 0, 1) := by decide +kernel
theorem dX4_init_24 : decode cX4_init 24 = .ok (.aload 4, 2) := by decide +kernel
theorem dX4_init_26 : decode cX4_init 26 = .ok (.putfield 28, 3) := by decide +kernel
theorem dX4_init_29 : decode cX4_init 29 = .ok (.aload_n 0, 1) := by decide +kernel
theorem dX4_init_30 : decode cX4_init 30 = .ok (.aload_n 0, 1) := by decide +kernel
theorem dX4_init_31 : decode cX4_init 31 = .ok (.getfield 15, 3) := by decide +kernel
theorem dX4_init_34 : decode cX4_init 34 = .ok (.aload 4, 2) := by decide +kernel
theorem dX4_init_36 : decode cX4_init 36 = .ok (.arraylength, 1) := by decide +kernel
theorem dX4_init_37 : decode cX4_init 37 = .ok (.imul, 1) := by decide +kernel
theorem dX4_init_38 : decode cX4_init 38 = .ok (.newarray .int, 2) := by decide +kernel
theorem dX4_init_40 : decode cX4_init 40 = .ok (.putfield 31, 3) := by decide +kernel
theorem dX4_init_43 : decode cX4_init 43 = .ok (.aload_n 0, 1) := by decide +kernel
theorem dX4_init_44 : decode cX4_init 44 = .ok (.invokevirtual 34, 3) := by decide +kernel
theorem dX4_init_47 : decode cX4_init 47 = .ok (.return_, 1) := by decide +kernel
theorem dX4_reset_0 : decode cX4_reset 0 = .ok (.iconst 0, 1) := by decide +kernel
theorem dX4_reset_1 : decode cX4_reset 1 = .ok (.istore_n 1, 1) := by decide +kernel
theorem dX4_reset_2 : decode cX4_reset 2 = .ok (.iload_n 1, 1) := by decide +kernel
theorem dX4_reset_3 : decode cX4_reset 3 = .ok (.aload_n 0, 1) := by decide +kernel
theorem dX4_reset_4 : decode cX4_reset 4 = .ok (.getfield 15, 3) := by decide +kernel
theorem dX4_reset_7 : decode cX4_reset 7 = .ok (.if_icmp .ge 33, 3) := by decide +kernel
theorem dX4_reset_10 : decode cX4_reset 10 = .ok (.aload_n 0, 1) := by decide +kernel
theorem dX4_reset_11 : decode cX4_reset 11 = .ok (.getfield 28, 3) := by decide +kernel
theorem dX4_reset_14 : decode cX4_reset 14 = .ok (.iconst 0, 1) := by decide +kernel
theorem dX4_reset_15 : decode cX4_reset 15 = .ok (.aload_n 0, 1) := by decide +kernel
theorem dX4_reset_16 : decode cX4_reset 16 = .ok (.getfield 31, 3) := by decide +kernel
theorem dX4_reset_19 : decode cX4_reset 19 = .ok (.iload_n 1, 1) := by decide +kernel
theorem dX4_reset_20 : decode cX4_reset 20 = .ok (.aload_n 0, 1) := by decide +kernel
theorem dX4_reset_21 : decode cX4_reset 21 = .ok (.getfield 28, 3) := by decide +kernel
theorem dX4_reset_24 : decode cX4_reset 24 = .ok (.arraylength, 1) := by decide +kernel
theorem dX4_reset_25 : decode cX4_reset 25 = .ok (.imul, 1) := by decide +kernel
theorem dX4_reset_26 : decode cX4_reset 26 = .ok (.aload_n 0, 1) := by decide +kernel
theorem dX4_reset_27 : decode cX4_reset 27 = .ok (.getfield 28, 3) := by decide +kernel
theorem dX4_reset_30 : decode cX4_reset 30 = .ok (.arraylength, 1) := by decide +kernel
theorem dX4_reset_31 : decode cX4_reset 31 = .ok (.invokestatic 37, 3) := by decide +kernel
theorem dX4_reset_34 : decode cX4_reset 34 = .ok (.iinc 1 1, 3) := by decide +kernel
theorem dX4_reset_37 : decode cX4_reset 37 = .ok (.goto (-35), 3) := by decide +kernel
theorem dX4_reset_40 : decode cX4_reset 40 = .ok (.return_, 1) := by decide +kernel
theorem dX4_value_0 : decode cX4_value 0 = .ok (.iload_n 1, 1) := by decide +kernel
theorem dX4_value_1 : decode cX4_value 1 = .ok (.aload_n 0, 1) := by decide +kernel
theorem dX4_value_2 : decode cX4_value 2 = .ok (.getfield 28, 3) := by decide +kernel
theorem dX4_value_5 : decode cX4_value 5 = .ok (.arraylength, 1) := by decide +kernel
theorem dX4_value_6 : decode cX4_value 6 = .ok (.imul, 1) := by decide +kernel
theorem dX4_value_7 : decode cX4_value 7 = .ok (.iload_n 2, 1) := by decide +kernel
theorem dX4_value_8 : decode cX4_value 8 = .ok (.iadd, 1) := by decide +kernel
theorem dX4_value_9 : decode cX4_value 9 = .ok (.istore_n 3, 1) := by decide +kernel
theorem dX4_value_10 : decode cX4_value 10 = .ok (.iload_n 3, 1) := by decide +kernel
theorem dX4_value_11 : decode cX4_value 11 = .ok (.ifCond .lt 21, 3) := by decide +kernel
theorem dX4_value_14 : decode cX4_value 14 = .ok (.iload_n 3, 1) := by decide +kernel
theorem dX4_value_15 : decode cX4_value 15 = .ok (.aload_n 0, 1) := by decide +kernel
theorem dX4_value_16 : decode cX4_value 16 = .ok (.getfield 31, 3) := by decide +kernel
theorem dX4_value_19 : decode cX4_value 19 = .ok (.arraylength, 1) := by decide +kernel
theorem dX4_value_20 : decode cX4_value 20 = .ok (.if_icmp .ge 12, 3) := by decide +kernel
theorem dX4_value_23 : decode cX4_value 23 = .ok (.aload_n 0, 1) := by decide +kernel
theorem dX4_value_24 : decode cX4_value 24 = .ok (.getfield 31, 3) := by decide +kernel
theorem dX4_value_27 : decode cX4_value 27 = .ok (.iload_n 3, 1) := by decide +kernel
theorem dX4_value_28 : decode cX4_value 28 = .ok (.iaload, 1) := by decide +kernel
theorem dX4_value_29 : decode cX4_value 29 = .ok (.goto 4, 3) := by decide +kernel
theorem dX4_value_32 : decode cX4_value 32 = .ok (.iconst 0, 1) := by decide +kernel
theorem dX4_value_33 : decode cX4_value 33 = .ok (.ireturn, 1) := by decide +kernel
theorem dX4_change_0 : decode cX4_change 0 = .ok (.iload_n 1, 1) := by decide +kernel
theorem dX4_change_1 : decode cX4_change 1 = .ok (.iconst 0, 1) := by decide +kernel
theorem dX4_change_2 : decode cX4_change 2 = .ok (.aload_n 0, 1) := by decide +kernel
theorem dX4_change_3 : decode cX4_change 3 = .ok (.getfield 15, 3) := by decide +kernel
theorem dX4_change_6 : decode cX4_change 6 = .ok (.iconst 1, 1) := by decide +kernel
theorem dX4_change_7 : decode cX4_change 7 = .ok (.isub, 1) := by decide +kernel
theorem dX4_change_8 : decode cX4_change 8 = .ok (.invokestatic 43, 3) := by decide +kernel
theorem dX4_change_11 : decode cX4_change 11 = .ok (.ifCond .eq 37, 3) := by decide +kernel
theorem dX4_change_14 : decode cX4_change 14 = .ok (.iload_n 2, 1) := by decide +kernel
theorem dX4_change_15 : decode cX4_change 15 = .ok (.iconst 0, 1) := by decide +kernel
theorem dX4_change_16 : decode cX4_change 16 = .ok (.aload_n 0, 1) := by decide +kernel
theorem dX4_change_17 : decode cX4_change 17 = .ok (.getfield 28, 3) := by decide +kernel
theorem dX4_change_20 : decode cX4_change 20 = .ok (.arraylength, 1) := by decide +kernel
theorem dX4_change_21 : decode cX4_change 21 = .ok (.iconst 1, 1) := by decide +kernel
theorem dX4_change_22 : decode cX4_change 22 = .ok (.isub, 1) := by decide +kernel
theorem dX4_change_23 : decode cX4_change 23 = .ok (.invokestatic 43, 3) := by decide +kernel
theorem dX4_change_26 : decode cX4_change 26 = .ok (.ifCond .eq 22, 3) := by decide +kernel
theorem dX4_change_29 : decode cX4_change 29 = .ok (.iload_n 3, 1) := by decide +kernel
theorem dX4_change_30 : decode cX4_change 30 = .ok (.aload_n 0, 1) := by decide +kernel
theorem dX4_change_31 : decode cX4_change 31 = .ok (.getfield 21, 3) := by decide +kernel
theorem dX4_change_34 : decode cX4_change 34 = .ok (.iload_n 2, 1) := by decide +kernel
theorem dX4_change_35 : decode cX4_change 35 = .ok (.iaload, 1) := by decide +kernel
theorem dX4_change_36 : decode cX4_change 36 = .ok (.aload_n 0, 1) := by decide +kernel
theorem dX4_change_37 : decode cX4_change 37 = .ok (.getfield 25, 3) := by decide +kernel
theorem dX4_change_40 : decode cX4_change 40 = .ok (.iload_n 2, 1) := by decide +kernel
theorem dX4_change_41 : decode cX4_change 41 = .ok (.iaload, 1) := by decide +kernel
theorem dX4_change_42 : decode cX4_change 42 = .ok (.invokestatic 43, 3) := by decide +kernel
theorem dX4_change_45 : decode cX4_change 45 = .ok (.ifCond .ne 6, 3) := by decide +kernel
theorem dX4_change_48 : decode cX4_change 48 = .ok (.bipush (-2), 2) := by decide +kernel
theorem dX4_change_50 : decode cX4_change 50 = .ok (.ireturn, 1) := by decide +kernel
theorem dX4_change_51 : decode cX4_change 51 = .ok (.iload_n 1, 1) := by decide +kernel
theorem dX4_change_52 : decode cX4_change 52 = .ok (.aload_n 0, 1) := by decide +kernel
theorem dX4_change_53 : decode cX4_change 53 = .ok (.getfield 28, 3) := by decide +kernel
theorem dX4_change_56 : decode cX4_change 56 = .ok (.arraylength, 1) := by decide +kernel
theorem dX4_change_57 : decode cX4_change 57 = .ok (.imul, 1) := by decide +kernel
theorem dX4_change_58 : decode cX4_change 58 = .ok (.iload_n 2, 1) := by decide +kernel
theorem dX4_change_59 : decode cX4_change 59 = .ok (.iadd, 1) := by decide +kernel
theorem dX4_change_60 : decode cX4_change 60 = .ok (.istore 4, 2) := by decide +kernel
theorem dX4_change_62 : decode cX4_change 62 = .ok (.aload_n 0, 1) := by decide +kernel
theorem dX4_change_63 : decode cX4_change 63 = .ok (.getfield 31, 3) := by decide +kernel
theorem dX4_change_66 : decode cX4_change 66 = .ok (.iload 4, 2) := by decide +kernel
theorem dX4_change_68 : decode cX4_change 68 = .ok (.iaload, 1) := by decide +kernel
theorem dX4_change_69 : decode cX4_change 69 = .ok (.istore 5, 2) := by decide +kernel
theorem dX4_change_71 : decode cX4_change 71 = .ok (.aload_n 0, 1) := by decide +kernel
theorem dX4_change_72 : decode cX4_change 72 = .ok (.getfield 31, 3) := by decide +kernel
theorem dX4_change_75 : decode cX4_change 75 = .ok (.iload 4, 2) := by decide +kernel
theorem dX4_change_77 : decode cX4_change 77 = .ok (.iload_n 3, 1) := by decide +kernel
theorem dX4_change_78 : decode cX4_change 78 = .ok (.iastore, 1) := by decide +kernel
theorem dX4_change_79 : decode cX4_change 79 = .ok (.iload 5, 2) := by decide +kernel
theorem dX4_change_81 : decode cX4_change 81 = .ok (.ireturn, 1) := by decide +kernel
theorem dX4_copy_0 : decode cX4_copy 0 = .ok (.aload_n 1, 1) := by decide +kernel
theorem dX4_copy_1 : decode cX4_copy 1 = .ok (.getfield 31, 3) := by decide +kernel
theorem dX4_copy_4 : decode cX4_copy 4 = .ok (.aload_n 0, 1) := by decide +kernel
theorem dX4_copy_5 : decode cX4_copy 5 = .ok (.getfield 31, 3) := by decide +kernel
theorem dX4_copy_8 : decode cX4_copy 8 = .ok (.invokestatic 47, 3) := by decide +kernel
theorem dX4_copy_11 : decode cX4_copy 11 = .ok (.return_, 1) := by decide +kernel
theorem dX5_init_0 : decode cX5_init 0 = .ok (.aload_n 0, 1) := by decide +kernel
theorem dX5_init_1 : decode cX5_init 1 = .ok (.invokespecial 3, 3) := by decide +kernel
theorem dX5_init_4 : decode cX5_init 4 = .ok (.aload_n 0, 1) := by decide +kernel
theorem dX5_init_5 : decode cX5_init 5 = .ok (.new 9, 3) := by decide +kernel
theorem dX5_init_8 : decode cX5_init 8 = .ok (.dup, 1) := by decide +kernel
theorem dX5_init_9 : decode cX5_init 9 = .ok (.iconst 1, 1) := by decide +kernel
theorem dX5_init_10 : decode cX5_init 10 = .ok (.getstatic 11, 3) := by decide +kernel
theorem dX5_init_13 : decode cX5_init 13 = .ok (.getstatic 15, 3) := by decide +kernel
theorem dX5_init_16 : decode cX5_init 16 = .ok (.getstatic 18, 3) := by decide +kernel
theorem dX5_init_19 : decode cX5_init 19 = .ok (.invokespecial 21, 3) := by decide +kernel
theorem dX5_init_22 : decode cX5_init 22 = .ok (.putfield 24, 3) := by decide +kernel
theorem dX5_init_25 : decode cX5_init 25 = .ok (.aload_n 0, 1) := by decide +kernel
theorem dX5_init_26 : decode cX5_init 26 = .ok (.new 30, 3) := by decide +kernel
theorem dX5_init_29 : decode cX5_init 29 = .ok (.dup, 1) := by decide +kernel
theorem dX5_init_30 : decode cX5_init 30 = .ok (.invokespecial 32, 3) := by decide +kernel
theorem dX5_init_33 : decode cX5_init 33 = .ok (.putfield 33, 3) := by decide +kernel
theorem dX5_init_36 : decode cX5_init 36 = .ok (.aload_n 0, 1) := by decide +kernel
theorem dX5_init_37 : decode cX5_init 37 = .ok (.new 37, 3) := by decide +kernel
theorem dX5_init_40 : decode cX5_init 40 = .ok (.dup, 1) := by decide +kernel
theorem dX5_init_41 : decode cX5_init 41 = .ok (.invokespecial 39, 3) := by decide +kernel
theorem dX5_init_44 : decode cX5_init 44 = .ok (.putfield 40, 3) := by decide +kernel
theorem dX5_init_47 : decode cX5_init 47 = .ok (.aload_n 0, 1) := by decide +kernel
theorem dX5_init_48 : decode cX5_init 48 = .ok (.new 44, 3) := by decide +kernel
theorem dX5_init_51 : decode cX5_init 51 = .ok (.dup, 1) := by decide +kernel
theorem dX5_init_52 : decode cX5_init 52 = .ok (.invokespecial 46, 3) := by decide +kernel
theorem dX5_init_55 : decode cX5_init 55 = .ok (.putfield 47, 3) := by decide +kernel
theorem dX5_init_58 : decode cX5_init 58 = .ok (.aload_n 0, 1) := by decide +kernel
theorem dX5_init_59 : decode cX5_init 59 = .ok (.new 51, 3) := by decide +kernel
theorem dX5_init_62 : decode cX5_init 62 = .ok (.dup, 1) := by decide +kernel
theorem dX5_init_63 : decode cX5_init 63 = .ok (.invokespecial 53, 3) := by decide +kernel
theorem dX5_init_66 : decode cX5_init 66 = .ok (.putfield 54, 3) := by decide +kernel
theorem dX5_init_69 : decode cX5_init 69 = .ok (.aload_n 0, 1) := by decide +kernel
theorem dX5_init_70 : decode cX5_init 70 = .ok (.iconst 0, 1) := by decide +kernel
theorem dX5_init_71 : decode cX5_init 71 = .ok (.putfield 58, 3) := by decide +kernel
theorem dX5_init_74 : decode cX5_init 74 = .ok (.aload_n 0, 1) := by decide +kernel
theorem dX5_init_75 : decode cX5_init 75 = .ok (.iconst 0, 1) := by decide +kernel
theorem dX5_init_76 : decode cX5_init 76 = .ok (.putfield 62, 3) := by decide +kernel
theorem dX5_init_79 : decode cX5_init 79 = .ok (.return_, 1) := by decide +kernel
theorem dX5_begin_0 : decode cX5_begin 0 = .ok (.aload_n 0, 1) := by decide +kernel
theorem dX5_begin_1 : decode cX5_begin 1 = .ok (.getfield 24, 3) := by decide +kernel
theorem dX5_begin_4 : decode cX5_begin 4 = .ok (.invokevirtual 65, 3) := by decide +kernel
theorem dX5_begin_7 : decode cX5_begin 7 = .ok (.aload_n 0, 1) := by decide +kernel
theorem dX5_begin_8 : decode cX5_begin 8 = .ok (.getfield 33, 3) := by decide +kernel
theorem dX5_begin_11 : decode cX5_begin 11 = .ok (.iload_n 1, 1) := by decide +kernel
theorem dX5_begin_12 : decode cX5_begin 12 = .ok (.invokevirtual 68, 3) := by decide +kernel
theorem dX5_begin_15 : decode cX5_begin 15 = .ok (.aload_n 0, 1) := by decide +kernel
theorem dX5_begin_16 : decode cX5_begin 16 = .ok (.getfield 40, 3) := by decide +kernel
theorem dX5_begin_19 : decode cX5_begin 19 = .ok (.getfield 72, 3) := by decide +kernel
theorem dX5_begin_22 : decode cX5_begin 22 = .ok (.invokevirtual 65, 3) := by decide +kernel
theorem dX5_begin_25 : decode cX5_begin 25 = .ok (.aload_n 0, 1) := by decide +kernel
theorem dX5_begin_26 : decode cX5_begin 26 = .ok (.getfield 47, 3) := by decide +kernel
theorem dX5_begin_29 : decode cX5_begin 29 = .ok (.iconst 0, 1) := by decide +kernel
theorem dX5_begin_30 : decode cX5_begin 30 = .ok (.putfield 73, 3) := by decide +kernel
theorem dX5_begin_33 : decode cX5_begin 33 = .ok (.aload_n 0, 1) := by decide +kernel
theorem dX5_begin_34 : decode cX5_begin 34 = .ok (.getfield 54, 3) := by decide +kernel
theorem dX5_begin_37 : decode cX5_begin 37 = .ok (.iconst 0, 1) := by decide +kernel
theorem dX5_begin_38 : decode cX5_begin 38 = .ok (.putfield 76, 3) := by decide +kernel
theorem dX5_begin_41 : decode cX5_begin 41 = .ok (.aload_n 0, 1) := by decide +kernel
theorem dX5_begin_42 : decode cX5_begin 42 = .ok (.invokevirtual 79, 3) := by decide +kernel
theorem dX5_begin_45 : decode cX5_begin 45 = .ok (.return_, 1) := by decide +kernel
theorem dX5_goBack_0 : decode cX5_goBack 0 = .ok (.aload_n 0, 1) := by decide +kernel
theorem dX5_goBack_1 : decode cX5_goBack 1 = .ok (.getfield 33, 3) := by decide +kernel
theorem dX5_goBack_4 : decode cX5_goBack 4 = .ok (.invokevirtual 82, 3) := by decide +kernel
theorem dX5_goBack_7 : decode cX5_goBack 7 = .ok (.aload_n 0, 1) := by decide +kernel
theorem dX5_goBack_8 : decode cX5_goBack 8 = .ok (.getfield 40, 3) := by decide +kernel
theorem dX5_goBack_11 : decode cX5_goBack 11 = .ok (.invokevirtual 83, 3) := by decide +kernel
theorem dX5_goBack_14 : decode cX5_goBack 14 = .ok (.aload_n 0, 1) := by decide +kernel
theorem dX5_goBack_15 : decode cX5_goBack 15 = .ok (.getfield 47, 3) := by decide +kernel
theorem dX5_goBack_18 : decode cX5_goBack 18 = .ok (.invokevirtual 84, 3) := by decide +kernel
theorem dX5_goBack_21 : decode cX5_goBack 21 = .ok (.aload_n 0, 1) := by decide +kernel
theorem dX5_goBack_22 : decode cX5_goBack 22 = .ok (.iconst 0, 1) := by decide +kernel
theorem dX5_goBack_23 : decode cX5_goBack 23 = .ok (.putfield 58, 3) := by decide +kernel
theorem dX5_goBack_26 : decode cX5_goBack 26 = .ok (.aload_n 0, 1) := by decide +kernel
theorem dX5_goBack_27 : decode cX5_goBack 27 = .ok (.iconst 0, 1) := by decide +kernel
theorem dX5_goBack_28 : decode cX5_goBack 28 = .ok (.putfield 62, 3) := by decide +kernel
theorem dX5_goBack_31 : decode cX5_goBack 31 = .ok (.return_, 1) := by decide +kernel
theorem dX5_copy_0 : decode cX5_copy 0 = .ok (.aload_n 0, 1) := by decide +kernel
theorem dX5_copy_1 : decode cX5_copy 1 = .ok (.getfield 24, 3) := by decide +kernel
theorem dX5_copy_4 : decode cX5_copy 4 = .ok (.aload_n 1, 1) := by decide +kernel
theorem dX5_copy_5 : decode cX5_copy 5 = .ok (.getfield 24, 3) := by decide +kernel
theorem dX5_copy_8 : decode cX5_copy 8 = .ok (.invokevirtual 85, 3) := by decide +kernel
theorem dX5_copy_11 : decode cX5_copy 11 = .ok (.aload_n 0, 1) := by decide +kernel
theorem dX5_copy_12 : decode cX5_copy 12 = .ok (.getfield 33, 3) := by decide +kernel
theorem dX5_copy_15 : decode cX5_copy 15 = .ok (.aload_n 1, 1) := by decide +kernel
theorem dX5_copy_16 : decode cX5_copy 16 = .ok (.getfield 33, 3) := by decide +kernel
theorem dX5_copy_19 : decode cX5_copy 19 = .ok (.invokevirtual 89, 3) := by decide +kernel
theorem dX5_copy_22 : decode cX5_copy 22 = .ok (.aload_n 0, 1) := by decide +kernel
theorem dX5_copy_23 : decode cX5_copy 23 = .ok (.getfield 40, 3) := by decide +kernel
theorem dX5_copy_26 : decode cX5_copy 26 = .ok (.aload_n 1, 1) := by decide +kernel
theorem dX5_copy_27 : decode cX5_copy 27 = .ok (.getfield 40, 3) := by decide +kernel
theorem dX5_copy_30 : decode cX5_copy 30 = .ok (.invokevirtual 92, 3) := by decide +kernel
theorem dX5_copy_33 : decode cX5_copy 33 = .ok (.aload_n 0, 1) := by decide +kernel
theorem dX5_copy_34 : decode cX5_copy 34 = .ok (.getfield 47, 3) := by decide +kernel
theorem dX5_copy_37 : decode cX5_copy 37 = .ok (.aload_n 1, 1) := by decide +kernel
theorem dX5_copy_38 : decode cX5_copy 38 = .ok (.getfield 47, 3) := by decide +kernel
theorem dX5_copy_41 : decode cX5_copy 41 = .ok (.invokevirtual 95, 3) := by decide +kernel
theorem dX5_copy_44 : decode cX5_copy 44 = .ok (.aload_n 0, 1) := by decide +kernel
theorem dX5_copy_45 : decode cX5_copy 45 = .ok (.getfield 54, 3) := by decide +kernel
theorem dX5_copy_48 : decode cX5_copy 48 = .ok (.aload_n 1, 1) := by decide +kernel
theorem dX5_copy_49 : decode cX5_copy 49 = .ok (.getfield 54, 3) := by decide +kernel
theorem dX5_copy_52 : decode cX5_copy 52 = .ok (.invokevirtual 98, 3) := by decide +kernel
theorem dX5_copy_55 : decode cX5_copy 55 = .ok (.aload_n 0, 1) := by decide +kernel
theorem dX5_copy_56 : decode cX5_copy 56 = .ok (.aload_n 1, 1) := by decide +kernel
theorem dX5_copy_57 : decode cX5_copy 57 = .ok (.getfield 58, 3) := by decide +kernel
theorem dX5_copy_60 : decode cX5_copy 60 = .ok (.putfield 58, 3) := by decide +kernel
theorem dX5_copy_63 : decode cX5_copy 63 = .ok (.aload_n 0, 1) := by decide +kernel
theorem dX5_copy_64 : decode cX5_copy 64 = .ok (.aload_n 1, 1) := by decide +kernel
theorem dX5_copy_65 : decode cX5_copy 65 = .ok (.getfield 62, 3) := by decide +kernel
theorem dX5_copy_68 : decode cX5_copy 68 = .ok (.putfield 62, 3) := by decide +kernel
theorem dX5_copy_71 : decode cX5_copy 71 = .ok (.return_, 1) := by decide +kernel
theorem dX5_makeTick_0 : decode cX5_makeTick 0 = .ok (.aload_n 0, 1) := by decide +kernel
theorem dX5_makeTick_1 : decode cX5_makeTick 1 = .ok (.getfield 54, 3) := by decide +kernel
theorem dX5_makeTick_4 : decode cX5_makeTick 4 = .ok (.aload_n 0, 1) := by decide +kernel
theorem dX5_makeTick_5 : decode cX5_makeTick 5 = .ok (.getfield 58, 3) := by decide +kernel
theorem dX5_makeTick_8 : decode cX5_makeTick 8 = .ok (.aload_n 0, 1) := by decide +kernel
theorem dX5_makeTick_9 : decode cX5_makeTick 9 = .ok (.getfield 33, 3) := by decide +kernel
theorem dX5_makeTick_12 : decode cX5_makeTick 12 = .ok (.invokevirtual 101, 3) := by decide +kernel
theorem dX5_makeTick_15 : decode cX5_makeTick 15 = .ok (.aload_n 0, 1) := by decide +kernel
theorem dX5_makeTick_16 : decode cX5_makeTick 16 = .ok (.getfield 33, 3) := by decide +kernel
theorem dX5_makeTick_19 : decode cX5_makeTick 19 = .ok (.aload_n 0, 1) := by decide +kernel
theorem dX5_makeTick_20 : decode cX5_makeTick 20 = .ok (.getfield 58, 3) := by decide +kernel
theorem dX5_makeTick_23 : decode cX5_makeTick 23 = .ok (.invokevirtual 105, 3) := by decide +kernel
theorem dX5_makeTick_26 : decode cX5_makeTick 26 = .ok (.aload_n 0, 1) := by decide +kernel
theorem dX5_makeTick_27 : decode cX5_makeTick 27 = .ok (.getfield 47, 3) := by decide +kernel
theorem dX5_makeTick_30 : decode cX5_makeTick 30 = .ok (.aload_n 0, 1) := by decide +kernel
theorem dX5_makeTick_31 : decode cX5_makeTick 31 = .ok (.getfield 24, 3) := by decide +kernel
theorem dX5_makeTick_34 : decode cX5_makeTick 34 = .ok (.invokevirtual 108, 3) := by decide +kernel
theorem dX5_makeTick_37 : decode cX5_makeTick 37 = .ok (.aload_n 0, 1) := by decide +kernel
theorem dX5_makeTick_38 : decode cX5_makeTick 38 = .ok (.getfield 33, 3) := by decide +kernel
theorem dX5_makeTick_41 : decode cX5_makeTick 41 = .ok (.aload_n 0, 1) := by decide +kernel
theorem dX5_makeTick_42 : decode cX5_makeTick 42 = .ok (.getfield 58, 3) := by decide +kernel
theorem dX5_makeTick_45 : decode cX5_makeTick 45 = .ok (.aload_n 0, 1) := by decide +kernel
theorem dX5_makeTick_46 : decode cX5_makeTick 46 = .ok (.getfield 47, 3) := by decide +kernel
theorem dX5_makeTick_49 : decode cX5_makeTick 49 = .ok (.getfield 111, 3) := by decide +kernel
theorem dX5_makeTick_52 : decode cX5_makeTick 52 = .ok (.aload_n 0, 1) := by decide +kernel
theorem dX5_makeTick_53 : decode cX5_makeTick 53 = .ok (.getfield 24, 3) := by decide +kernel
theorem dX5_makeTick_56 : decode cX5_makeTick 56 = .ok (.iconst 0, 1) := by decide +kernel
theorem dX5_makeTick_57 : decode cX5_makeTick 57 = .ok (.iconst 3, 1) := by decide +kernel
theorem dX5_makeTick_58 : decode cX5_makeTick 58 = .ok (.invokevirtual 114, 3) := by decide +kernel
theorem dX5_makeTick_61 : decode cX5_makeTick 61 = .ok (.invokevirtual 118, 3) := by decide +kernel
theorem dX5_makeTick_64 : decode cX5_makeTick 64 = .ok (.aload_n 0, 1) := by decide +kernel
theorem dX5_makeTick_65 : decode cX5_makeTick 65 = .ok (.getfield 40, 3) := by decide +kernel
theorem dX5_makeTick_68 : decode cX5_makeTick 68 = .ok (.aload_n 0, 1) := by decide +kernel
theorem dX5_makeTick_69 : decode cX5_makeTick 69 = .ok (.getfield 33, 3) := by decide +kernel
theorem dX5_makeTick_72 : decode cX5_makeTick 72 = .ok (.invokevirtual 122, 3) := by decide +kernel
theorem dX5_makeTick_75 : decode cX5_makeTick 75 = .ok (.aload_n 0, 1) := by decide +kernel
theorem dX5_makeTick_76 : decode cX5_makeTick 76 = .ok (.getfield 33, 3) := by decide +kernel
theorem dX5_makeTick_79 : decode cX5_makeTick 79 = .ok (.aload_n 0, 1) := by decide +kernel
theorem dX5_makeTick_80 : decode cX5_makeTick 80 = .ok (.getfield 47, 3) := by decide +kernel
theorem dX5_makeTick_83 : decode cX5_makeTick 83 = .ok (.invokevirtual 125, 3) := by decide +kernel
theorem dX5_makeTick_86 : decode cX5_makeTick 86 = .ok (.invokevirtual 129, 3) := by decide +kernel
theorem dX5_makeTick_89 : decode cX5_makeTick 89 = .ok (.aload_n 0, 1) := by decide +kernel
theorem dX5_makeTick_90 : decode cX5_makeTick 90 = .ok (.getfield 40, 3) := by decide +kernel
theorem dX5_makeTick_93 : decode cX5_makeTick 93 = .ok (.invokevirtual 132, 3) := by decide +kernel
theorem dX5_makeTick_96 : decode cX5_makeTick 96 = .ok (.aload_n 0, 1) := by decide +kernel
theorem dX5_makeTick_97 : decode cX5_makeTick 97 = .ok (.getfield 33, 3) := by decide +kernel
theorem dX5_makeTick_100 : decode cX5_makeTick 100 = .ok (.aload_n 0, 1) := by decide +kernel
theorem dX5_makeTick_101 : decode cX5_makeTick 101 = .ok (.getfield 24, 3) := by decide +kernel
theorem dX5_makeTick_104 : decode cX5_makeTick 104 = .ok (.iconst 0, 1) := by decide +kernel
theorem dX5_makeTick_105 : decode cX5_makeTick 105 = .ok (.iconst 5, 1) := by decide +kernel
theorem dX5_makeTick_106 : decode cX5_makeTick 106 = .ok (.invokevirtual 114, 3) := by decide +kernel
theorem dX5_makeTick_109 : decode cX5_makeTick 109 = .ok (.invokevirtual 135, 3) := by decide +kernel
theorem dX5_makeTick_112 : decode cX5_makeTick 112 = .ok (.ifCond .eq 13, 3) := by decide +kernel
theorem dX5_makeTick_115 : decode cX5_makeTick 115 = .ok (.aload_n 0, 1) := by decide +kernel
theorem dX5_makeTick_116 : decode cX5_makeTick 116 = .ok (.dup, 1) := by decide +kernel
theorem dX5_makeTick_117 : decode cX5_makeTick 117 = .ok (.getfield 62, 3) := by decide +kernel
theorem dX5_makeTick_120 : decode cX5_makeTick 120 = .ok (.iconst 1, 1) := by decide +kernel
theorem dX5_makeTick_121 : decode cX5_makeTick 121 = .ok (.iadd, 1) := by decide +kernel
theorem dX5_makeTick_122 : decode cX5_makeTick 122 = .ok (.putfield 62, 3) := by decide +kernel
theorem dX5_makeTick_125 : decode cX5_makeTick 125 = .ok (.aload_n 0, 1) := by decide +kernel
theorem dX5_makeTick_126 : decode cX5_makeTick 126 = .ok (.dup, 1) := by decide +kernel
theorem dX5_makeTick_127 : decode cX5_makeTick 127 = .ok (.getfield 58, 3) := by decide +kernel
theorem dX5_makeTick_130 : decode cX5_makeTick 130 = .ok (.iconst 1, 1) := by decide +kernel
theorem dX5_makeTick_131 : decode cX5_makeTick 131 = .ok (.iadd, 1) := by decide +kernel
theorem dX5_makeTick_132 : decode cX5_makeTick 132 = .ok (.putfield 58, 3) := by decide +kernel
theorem dX5_makeTick_135 : decode cX5_makeTick 135 = .ok (.return_, 1) := by decide +kernel
theorem dX6_init_0 : decode cX6_init 0 = .ok (.aload_n 0, 1) := by decide +kernel
theorem dX6_init_1 : decode cX6_init 1 = .ok (.invokespecial 1, 3) := by decide +kernel
theorem dX6_init_4 : decode cX6_init 4 = .ok (.aload_n 0, 1) := by decide +kernel
theorem dX6_init_5 : decode cX6_init 5 = .ok (.new 7, 3) := by decide +kernel
theorem dX6_init_8 : decode cX6_init 8 = .ok (.dup, 1) := by decide +kernel
theorem dX6_init_9 : decode cX6_init 9 = .ok (.invokespecial 9, 3) := by decide +kernel
theorem dX6_init_12 : decode cX6_init 12 = .ok (.putfield 10, 3) := by decide +kernel
theorem dX6_init_15 : decode cX6_init 15 = .ok (.aload_n 0, 1) := by decide +kernel
theorem dX6_init_16 : decode cX6_init 16 = .ok (.iconst 0, 1) := by decide +kernel
theorem dX6_init_17 : decode cX6_init 17 = .ok (.putfield 16, 3) := by decide +kernel
theorem dX6_init_20 : decode cX6_init 20 = .ok (.return_, 1) := by decide +kernel
theorem dX7_init_0 : decode cX7_init 0 = .ok (.aload_n 0, 1) := by decide +kernel
theorem dX7_init_1 : decode cX7_init 1 = .ok (.invokespecial 3, 3) := by decide +kernel
theorem dX7_init_4 : decode cX7_init 4 = .ok (.aload_n 0, 1) := by decide +kernel
theorem dX7_init_5 : decode cX7_init 5 = .ok (.iconst 0, 1) := by decide +kernel
theorem dX7_init_6 : decode cX7_init 6 = .ok (.putfield 9, 3) := by decide +kernel
theorem dX7_init_9 : decode cX7_init 9 = .ok (.aload_n 0, 1) := by decide +kernel
theorem dX7_init_10 : decode cX7_init 10 = .ok (.iconst 0, 1) := by decide +kernel
theorem dX7_init_11 : decode cX7_init 11 = .ok (.putfield 15, 3) := by decide +kernel
theorem dX7_init_14 : decode cX7_init 14 = .ok (.aload_n 0, 1) := by decide +kernel
theorem dX7_init_15 : decode cX7_init 15 = .ok (.iconst 0, 1) := by decide +kernel
theorem dX7_init_16 : decode cX7_init 16 = .ok (.putfield 18, 3) := by decide +kernel
theorem dX7_init_19 : decode cX7_init 19 = .ok (.aload_n 0, 1) := by decide +kernel
theorem dX7_init_20 : decode cX7_init 20 = .ok (.iconst 0, 1) := by decide +kernel
theorem dX7_init_21 : decode cX7_init 21 = .ok (.putfield 21, 3) := by decide +kernel
theorem dX7_init_24 : decode cX7_init 24 = .ok (.return_, 1) := by decide +kernel
theorem dX7_measured_0 : decode cX7_measured 0 = .ok (.aload_n 0, 1) := by decide +kernel
theorem dX7_measured_1 : decode cX7_measured 1 = .ok (.getfield 15, 3) := by decide +kernel
theorem dX7_measured_4 : decode cX7_measured 4 = .ok (.sipush 1024, 3) := by decide +kernel
theorem dX7_measured_7 : decode cX7_measured 7 = .ok (.idiv, 1) := by decide +kernel
theorem dX7_measured_8 : decode cX7_measured 8 = .ok (.ireturn, 1) := by decide +kernel
theorem dX7_goBack_0 : decode cX7_goBack 0 = .ok (.aload_n 0, 1) := by decide +kernel
theorem dX7_goBack_1 : decode cX7_goBack 1 = .ok (.iconst 0, 1) := by decide +kernel
theorem dX7_goBack_2 : decode cX7_goBack 2 = .ok (.putfield 15, 3) := by decide +kernel
theorem dX7_goBack_5 : decode cX7_goBack 5 = .ok (.aload_n 0, 1) := by decide +kernel
theorem dX7_goBack_6 : decode cX7_goBack 6 = .ok (.iconst 0, 1) := by decide +kernel
theorem dX7_goBack_7 : decode cX7_goBack 7 = .ok (.putfield 18, 3) := by decide +kernel
theorem dX7_goBack_10 : decode cX7_goBack 10 = .ok (.aload_n 0, 1) := by decide +kernel
theorem dX7_goBack_11 : decode cX7_goBack 11 = .ok (.iconst 0, 1) := by decide +kernel
theorem dX7_goBack_12 : decode cX7_goBack 12 = .ok (.putfield 21, 3) := by decide +kernel
theorem dX7_goBack_15 : decode cX7_goBack 15 = .ok (.return_, 1) := by decide +kernel
theorem dX7_copy_0 : decode cX7_copy 0 = .ok (.aload_n 0, 1) := by decide +kernel
theorem dX7_copy_1 : decode cX7_copy 1 = .ok (.aload_n 1, 1) := by decide +kernel
theorem dX7_copy_2 : decode cX7_copy 2 = .ok (.getfield 9, 3) := by decide +kernel
theorem dX7_copy_5 : decode cX7_copy 5 = .ok (.putfield 9, 3) := by decide +kernel
theorem dX7_copy_8 : decode cX7_copy 8 = .ok (.aload_n 0, 1) := by decide +kernel
theorem dX7_copy_9 : decode cX7_copy 9 = .ok (.aload_n 1, 1) := by decide +kernel
theorem dX7_copy_10 : decode cX7_copy 10 = .ok (.getfield 15, 3) := by decide +kernel
theorem dX7_copy_13 : decode cX7_copy 13 = .ok (.putfield 15, 3) := by decide +kernel
theorem dX7_copy_16 : decode cX7_copy 16 = .ok (.aload_n 0, 1) := by decide +kernel
theorem dX7_copy_17 : decode cX7_copy 17 = .ok (.aload_n 1, 1) := by decide +kernel
theorem dX7_copy_18 : decode cX7_copy 18 = .ok (.getfield 18, 3) := by decide +kernel
theorem dX7_copy_21 : decode cX7_copy 21 = .ok (.putfield 18, 3) := by decide +kernel
theorem dX7_copy_24 : decode cX7_copy 24 = .ok (.aload_n 0, 1) := by decide +kernel
theorem dX7_copy_25 : decode cX7_copy 25 = .ok (.aload_n 1, 1) := by decide +kernel
theorem dX7_copy_26 : decode cX7_copy 26 = .ok (.getfield 21, 3) := by decide +kernel
theorem dX7_copy_29 : decode cX7_copy 29 = .ok (.putfield 21, 3) := by decide +kernel
theorem dX7_copy_32 : decode cX7_copy 32 = .ok (.return_, 1) := by decide +kernel
theorem dX7_blow_0 : decode cX7_blow 0 = .ok (.aload_n 0, 1) := by decide +kernel
theorem dX7_blow_1 : decode cX7_blow 1 = .ok (.dup, 1) := by decide +kernel
theorem dX7_blow_2 : decode cX7_blow 2 = .ok (.getfield 15, 3) := by decide +kernel
theorem dX7_blow_5 : decode cX7_blow 5 = .ok (.sipush 1024, 3) := by decide +kernel
theorem dX7_blow_8 : decode cX7_blow 8 = .ok (.aload_n 0, 1) := by decide +kernel
theorem dX7_blow_9 : decode cX7_blow 9 = .ok (.getfield 9, 3) := by decide +kernel
theorem dX7_blow_12 : decode cX7_blow 12 = .ok (.imul, 1) := by decide +kernel
theorem dX7_blow_13 : decode cX7_blow 13 = .ok (.aload_n 0, 1) := by decide +kernel
theorem dX7_blow_14 : decode cX7_blow 14 = .ok (.getfield 15, 3) := by decide +kernel
theorem dX7_blow_17 : decode cX7_blow 17 = .ok (.isub, 1) := by decide +kernel
theorem dX7_blow_18 : decode cX7_blow 18 = .ok (.i2l, 1) := by decide +kernel
theorem dX7_blow_19 : decode cX7_blow 19 = .ok (.aload_n 1, 1) := by decide +kernel
theorem dX7_blow_20 : decode cX7_blow 20 = .ok (.iconst 0, 1) := by decide +kernel
theorem dX7_blow_21 : decode cX7_blow 21 = .ok (.iconst 0, 1) := by decide +kernel
theorem dX7_blow_22 : decode cX7_blow 22 = .ok (.invokevirtual 24, 3) := by decide +kernel
theorem dX7_blow_25 : decode cX7_blow 25 = .ok (.i2l, 1) := by decide +kernel
theorem dX7_blow_26 : decode cX7_blow 26 = .ok (.invokestatic 30, 3) := by decide +kernel
theorem dX7_blow_29 : decode cX7_blow 29 = .ok (.l2i, 1) := by decide +kernel
theorem dX7_blow_30 : decode cX7_blow 30 = .ok (.iadd, 1) := by decide +kernel
theorem dX7_blow_31 : decode cX7_blow 31 = .ok (.putfield 15, 3) := by decide +kernel
theorem dX7_blow_34 : decode cX7_blow 34 = .ok (.aload_n 1, 1) := by decide +kernel
theorem dX7_blow_35 : decode cX7_blow 35 = .ok (.iconst 0, 1) := by decide +kernel
theorem dX7_blow_36 : decode cX7_blow 36 = .ok (.iconst 1, 1) := by decide +kernel
theorem dX7_blow_37 : decode cX7_blow 37 = .ok (.invokevirtual 24, 3) := by decide +kernel
theorem dX7_blow_40 : decode cX7_blow 40 = .ok (.istore_n 2, 1) := by decide +kernel
theorem dX7_blow_41 : decode cX7_blow 41 = .ok (.aload_n 1, 1) := by decide +kernel
theorem dX7_blow_42 : decode cX7_blow 42 = .ok (.iconst 0, 1) := by decide +kernel
theorem dX7_blow_43 : decode cX7_blow 43 = .ok (.iconst 2, 1) := by decide +kernel
theorem dX7_blow_44 : decode cX7_blow 44 = .ok (.invokevirtual 24, 3) := by decide +kernel
theorem dX7_blow_47 : decode cX7_blow 47 = .ok (.istore_n 3, 1) := by decide +kernel
theorem dX7_blow_48 : decode cX7_blow 48 = .ok (.aload_n 0, 1) := by decide +kernel
theorem dX7_blow_49 : decode cX7_blow 49 = .ok (.invokevirtual 34, 3) := by decide +kernel
theorem dX7_blow_52 : decode cX7_blow 52 = .ok (.iload_n 3, 1) := by decide +kernel
theorem dX7_blow_53 : decode cX7_blow 53 = .ok (.if_icmp .lt 11, 3) := by decide +kernel
theorem dX7_blow_56 : decode cX7_blow 56 = .ok (.aload_n 0, 1) := by decide +kernel
theorem dX7_blow_57 : decode cX7_blow 57 = .ok (.iconst 2, 1) := by decide +kernel
theorem dX7_blow_58 : decode cX7_blow 58 = .ok (.invokevirtual 38, 3) := by decide +kernel
theorem dX7_blow_61 : decode cX7_blow 61 = .ok (.goto 74, 3) := by decide +kernel
theorem dX7_blow_64 : decode cX7_blow 64 = .ok (.aload_n 0, 1) := by decide +kernel
theorem dX7_blow_65 : decode cX7_blow 65 = .ok (.invokevirtual 34, 3) := by decide +kernel
theorem dX7_blow_68 : decode cX7_blow 68 = .ok (.iload_n 2, 1) := by decide +kernel
theorem dX7_blow_69 : decode cX7_blow 69 = .ok (.if_icmp .lt 18, 3) := by decide +kernel
theorem dX7_blow_72 : decode cX7_blow 72 = .ok (.aload_n 0, 1) := by decide +kernel
theorem dX7_blow_73 : decode cX7_blow 73 = .ok (.getfield 18, 3) := by decide +kernel
theorem dX7_blow_76 : decode cX7_blow 76 = .ok (.ifCond .ne 11, 3) := by decide +kernel
theorem dX7_blow_79 : decode cX7_blow 79 = .ok (.aload_n 0, 1) := by decide +kernel
theorem dX7_blow_80 : decode cX7_blow 80 = .ok (.iconst 1, 1) := by decide +kernel
theorem dX7_blow_81 : decode cX7_blow 81 = .ok (.invokevirtual 38, 3) := by decide +kernel
theorem dX7_blow_84 : decode cX7_blow 84 = .ok (.goto 51, 3) := by decide +kernel
theorem dX7_blow_87 : decode cX7_blow 87 = .ok (.aload_n 0, 1) := by decide +kernel
theorem dX7_blow_88 : decode cX7_blow 88 = .ok (.getfield 18, 3) := by decide +kernel
theorem dX7_blow_91 : decode cX7_blow 91 = .ok (.ifCond .le 39, 3) := by decide +kernel
theorem dX7_blow_94 : decode cX7_blow 94 = .ok (.aload_n 0, 1) := by decide +kernel
theorem dX7_blow_95 : decode cX7_blow 95 = .ok (.invokevirtual 34, 3) := by decide +kernel
theorem dX7_blow_98 : decode cX7_blow 98 = .ok (.aload_n 0, 1) := by decide +kernel
theorem dX7_blow_99 : decode cX7_blow 99 = .ok (.getfield 18, 3) := by decide +kernel
theorem dX7_blow_102 : decode cX7_blow 102 = .ok (.iconst 2, 1) := by decide +kernel
