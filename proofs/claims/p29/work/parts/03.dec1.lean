theorem dX0_init_0 : decode cX0_init 0 = .ok (.aload_n 0, 1) := by decide +kernel
theorem dX0_init_1 : decode cX0_init 1 = .ok (.invokespecial 3, 3) := by decide +kernel
theorem dX0_init_4 : decode cX0_init 4 = .ok (.aload_n 0, 1) := by decide +kernel
theorem dX0_init_5 : decode cX0_init 5 = .ok (.bipush 60, 2) := by decide +kernel
theorem dX0_init_7 : decode cX0_init 7 = .ok (.newarray .int, 2) := by decide +kernel
theorem dX0_init_9 : decode cX0_init 9 = .ok (.putfield 9, 3) := by decide +kernel
theorem dX0_init_12 : decode cX0_init 12 = .ok (.aload_n 0, 1) := by decide +kernel
theorem dX0_init_13 : decode cX0_init 13 = .ok (.bipush 60, 2) := by decide +kernel
theorem dX0_init_15 : decode cX0_init 15 = .ok (.newarray .int, 2) := by decide +kernel
theorem dX0_init_17 : decode cX0_init 17 = .ok (.putfield 15, 3) := by decide +kernel
theorem dX0_init_20 : decode cX0_init 20 = .ok (.aload_n 0, 1) := by decide +kernel
theorem dX0_init_21 : decode cX0_init 21 = .ok (.bipush 60, 2) := by decide +kernel
theorem dX0_init_23 : decode cX0_init 23 = .ok (.newarray .int, 2) := by decide +kernel
theorem dX0_init_25 : decode cX0_init 25 = .ok (.putfield 18, 3) := by decide +kernel
theorem dX0_init_28 : decode cX0_init 28 = .ok (.aload_n 0, 1) := by decide +kernel
theorem dX0_init_29 : decode cX0_init 29 = .ok (.iconst 0, 1) := by decide +kernel
theorem dX0_init_30 : decode cX0_init 30 = .ok (.putfield 21, 3) := by decide +kernel
theorem dX0_init_33 : decode cX0_init 33 = .ok (.return_, 1) := by decide +kernel
theorem dX0_has_0 : decode cX0_has 0 = .ok (.iload_n 1, 1) := by decide +kernel
theorem dX0_has_1 : decode cX0_has 1 = .ok (.iconst 0, 1) := by decide +kernel
theorem dX0_has_2 : decode cX0_has 2 = .ok (.aload_n 0, 1) := by decide +kernel
theorem dX0_has_3 : decode cX0_has 3 = .ok (.getfield 21, 3) := by decide +kernel
theorem dX0_has_6 : decode cX0_has 6 = .ok (.iconst 1, 1) := by decide +kernel
theorem dX0_has_7 : decode cX0_has 7 = .ok (.isub, 1) := by decide +kernel
theorem dX0_has_8 : decode cX0_has 8 = .ok (.invokestatic 25, 3) := by decide +kernel
theorem dX0_has_11 : decode cX0_has 11 = .ok (.ireturn, 1) := by decide +kernel
theorem dX0_copy_0 : decode cX0_copy 0 = .ok (.aload_n 0, 1) := by decide +kernel
theorem dX0_copy_1 : decode cX0_copy 1 = .ok (.aload_n 1, 1) := by decide +kernel
theorem dX0_copy_2 : decode cX0_copy 2 = .ok (.getfield 21, 3) := by decide +kernel
theorem dX0_copy_5 : decode cX0_copy 5 = .ok (.putfield 21, 3) := by decide +kernel
theorem dX0_copy_8 : decode cX0_copy 8 = .ok (.aload_n 1, 1) := by decide +kernel
theorem dX0_copy_9 : decode cX0_copy 9 = .ok (.getfield 9, 3) := by decide +kernel
theorem dX0_copy_12 : decode cX0_copy 12 = .ok (.aload_n 0, 1) := by decide +kernel
theorem dX0_copy_13 : decode cX0_copy 13 = .ok (.getfield 9, 3) := by decide +kernel
theorem dX0_copy_16 : decode cX0_copy 16 = .ok (.invokestatic 29, 3) := by decide +kernel
theorem dX0_copy_19 : decode cX0_copy 19 = .ok (.aload_n 1, 1) := by decide +kernel
theorem dX0_copy_20 : decode cX0_copy 20 = .ok (.getfield 15, 3) := by decide +kernel
theorem dX0_copy_23 : decode cX0_copy 23 = .ok (.aload_n 0, 1) := by decide +kernel
theorem dX0_copy_24 : decode cX0_copy 24 = .ok (.getfield 15, 3) := by decide +kernel
theorem dX0_copy_27 : decode cX0_copy 27 = .ok (.invokestatic 29, 3) := by decide +kernel
theorem dX0_copy_30 : decode cX0_copy 30 = .ok (.aload_n 1, 1) := by decide +kernel
theorem dX0_copy_31 : decode cX0_copy 31 = .ok (.getfield 18, 3) := by decide +kernel
theorem dX0_copy_34 : decode cX0_copy 34 = .ok (.aload_n 0, 1) := by decide +kernel
theorem dX0_copy_35 : decode cX0_copy 35 = .ok (.getfield 18, 3) := by decide +kernel
theorem dX0_copy_38 : decode cX0_copy 38 = .ok (.invokestatic 29, 3) := by decide +kernel
theorem dX0_copy_41 : decode cX0_copy 41 = .ok (.return_, 1) := by decide +kernel
theorem dX0_insert_0 : decode cX0_insert 0 = .ok (.aload_n 0, 1) := by decide +kernel
theorem dX0_insert_1 : decode cX0_insert 1 = .ok (.getfield 21, 3) := by decide +kernel
theorem dX0_insert_4 : decode cX0_insert 4 = .ok (.bipush 60, 2) := by decide +kernel
theorem dX0_insert_6 : decode cX0_insert 6 = .ok (.if_icmp .lt 6, 3) := by decide +kernel
theorem dX0_insert_9 : decode cX0_insert 9 = .ok (.bipush (-4), 2) := by decide +kernel
theorem dX0_insert_11 : decode cX0_insert 11 = .ok (.ireturn, 1) := by decide +kernel
theorem dX0_insert_12 : decode cX0_insert 12 = .ok (.aload_n 0, 1) := by decide +kernel
theorem dX0_insert_13 : decode cX0_insert 13 = .ok (.iload_n 1, 1) := by decide +kernel
theorem dX0_insert_14 : decode cX0_insert 14 = .ok (.iconst 1, 1) := by decide +kernel
theorem dX0_insert_15 : decode cX0_insert 15 = .ok (.iadd, 1) := by decide +kernel
theorem dX0_insert_16 : decode cX0_insert 16 = .ok (.invokevirtual 33, 3) := by decide +kernel
theorem dX0_insert_19 : decode cX0_insert 19 = .ok (.istore 4, 2) := by decide +kernel
theorem dX0_insert_21 : decode cX0_insert 21 = .ok (.iload 4, 2) := by decide +kernel
theorem dX0_insert_23 : decode cX0_insert 23 = .ok (.bipush (-6), 2) := by decide +kernel
theorem dX0_insert_25 : decode cX0_insert 25 = .ok (.if_icmp .ne 9, 3) := by decide +kernel
theorem dX0_insert_28 : decode cX0_insert 28 = .ok (.aload_n 0, 1) := by decide +kernel
theorem dX0_insert_29 : decode cX0_insert 29 = .ok (.getfield 21, 3) := by decide +kernel
theorem dX0_insert_32 : decode cX0_insert 32 = .ok (.istore 4, 2) := by decide +kernel
theorem dX0_insert_34 : decode cX0_insert 34 = .ok (.aload_n 0, 1) := by decide +kernel
theorem dX0_insert_35 : decode cX0_insert 35 = .ok (.iload 4, 2) := by decide +kernel
theorem dX0_insert_37 : decode cX0_insert 37 = .ok (.iload 4, 2) := by decide +kernel
theorem dX0_insert_39 : decode cX0_insert 39 = .ok (.iconst 1, 1) := by decide +kernel
theorem dX0_insert_40 : decode cX0_insert 40 = .ok (.iadd, 1) := by decide +kernel
theorem dX0_insert_41 : decode cX0_insert 41 = .ok (.aload_n 0, 1) := by decide +kernel
theorem dX0_insert_42 : decode cX0_insert 42 = .ok (.getfield 21, 3) := by decide +kernel
theorem dX0_insert_45 : decode cX0_insert 45 = .ok (.iload 4, 2) := by decide +kernel
theorem dX0_insert_47 : decode cX0_insert 47 = .ok (.isub, 1) := by decide +kernel
theorem dX0_insert_48 : decode cX0_insert 48 = .ok (.invokevirtual 37, 3) := by decide +kernel
theorem dX0_insert_51 : decode cX0_insert 51 = .ok (.aload_n 0, 1) := by decide +kernel
theorem dX0_insert_52 : decode cX0_insert 52 = .ok (.getfield 9, 3) := by decide +kernel
theorem dX0_insert_55 : decode cX0_insert 55 = .ok (.iload 4, 2) := by decide +kernel
theorem dX0_insert_57 : decode cX0_insert 57 = .ok (.iload_n 1, 1) := by decide +kernel
theorem dX0_insert_58 : decode cX0_insert 58 = .ok (.iastore, 1) := by decide +kernel
theorem dX0_insert_59 : decode cX0_insert 59 = .ok (.aload_n 0, 1) := by decide +kernel
theorem dX0_insert_60 : decode cX0_insert 60 = .ok (.getfield 15, 3) := by decide +kernel
theorem dX0_insert_63 : decode cX0_insert 63 = .ok (.iload 4, 2) := by decide +kernel
theorem dX0_insert_65 : decode cX0_insert 65 = .ok (.iload_n 2, 1) := by decide +kernel
theorem dX0_insert_66 : decode cX0_insert 66 = .ok (.iastore, 1) := by decide +kernel
theorem dX0_insert_67 : decode cX0_insert 67 = .ok (.aload_n 0, 1) := by decide +kernel
theorem dX0_insert_68 : decode cX0_insert 68 = .ok (.getfield 18, 3) := by decide +kernel
theorem dX0_insert_71 : decode cX0_insert 71 = .ok (.iload 4, 2) := by decide +kernel
theorem dX0_insert_73 : decode cX0_insert 73 = .ok (.iload_n 3, 1) := by decide +kernel
theorem dX0_insert_74 : decode cX0_insert 74 = .ok (.iastore, 1) := by decide +kernel
theorem dX0_insert_75 : decode cX0_insert 75 = .ok (.aload_n 0, 1) := by decide +kernel
theorem dX0_insert_76 : decode cX0_insert 76 = .ok (.dup, 1) := by decide +kernel
theorem dX0_insert_77 : decode cX0_insert 77 = .ok (.getfield 21, 3) := by decide +kernel
theorem dX0_insert_80 : decode cX0_insert 80 = .ok (.iconst 1, 1) := by decide +kernel
theorem dX0_insert_81 : decode cX0_insert 81 = .ok (.iadd, 1) := by decide +kernel
theorem dX0_insert_82 : decode cX0_insert 82 = .ok (.putfield 21, 3) := by decide +kernel
theorem dX0_insert_85 : decode cX0_insert 85 = .ok (.iload 4, 2) := by decide +kernel
theorem dX0_insert_87 : decode cX0_insert 87 = .ok (.ireturn, 1) := by decide +kernel
theorem dX0_takeOut_0 : decode cX0_takeOut 0 = .ok (.aload_n 0, 1) := by decide +kernel
theorem dX0_takeOut_1 : decode cX0_takeOut 1 = .ok (.iload_n 1, 1) := by decide +kernel
theorem dX0_takeOut_2 : decode cX0_takeOut 2 = .ok (.iconst 1, 1) := by decide +kernel
theorem dX0_takeOut_3 : decode cX0_takeOut 3 = .ok (.iadd, 1) := by decide +kernel
theorem dX0_takeOut_4 : decode cX0_takeOut 4 = .ok (.iload_n 1, 1) := by decide +kernel
theorem dX0_takeOut_5 : decode cX0_takeOut 5 = .ok (.aload_n 0, 1) := by decide +kernel
theorem dX0_takeOut_6 : decode cX0_takeOut 6 = .ok (.getfield 21, 3) := by decide +kernel
theorem dX0_takeOut_9 : decode cX0_takeOut 9 = .ok (.iload_n 1, 1) := by decide +kernel
theorem dX0_takeOut_10 : decode cX0_takeOut 10 = .ok (.isub, 1) := by decide +kernel
theorem dX0_takeOut_11 : decode cX0_takeOut 11 = .ok (.iconst 1, 1) := by decide +kernel
theorem dX0_takeOut_12 : decode cX0_takeOut 12 = .ok (.isub, 1) := by decide +kernel
theorem dX0_takeOut_13 : decode cX0_takeOut 13 = .ok (.invokevirtual 37, 3) := by decide +kernel
theorem dX0_takeOut_16 : decode cX0_takeOut 16 = .ok (.aload_n 0, 1) := by decide +kernel
theorem dX0_takeOut_17 : decode cX0_takeOut 17 = .ok (.dup, 1) := by decide +kernel
theorem dX0_takeOut_18 : decode cX0_takeOut 18 = .ok (.getfield 21, 3) := by decide +kernel
theorem dX0_takeOut_21 : decode cX0_takeOut 21 = .ok (.iconst 1, 1) := by decide +kernel
theorem dX0_takeOut_22 : decode cX0_takeOut 22 = .ok (.isub, 1) := by decide +kernel
theorem dX0_takeOut_23 : decode cX0_takeOut 23 = .ok (.putfield 21, 3) := by decide +kernel
theorem dX0_takeOut_26 : decode cX0_takeOut 26 = .ok (.return_, 1) := by decide +kernel
theorem dX0_postpone_0 : decode cX0_postpone 0 = .ok (.aload_n 0, 1) := by decide +kernel
theorem dX0_postpone_1 : decode cX0_postpone 1 = .ok (.getfield 9, 3) := by decide +kernel
theorem dX0_postpone_4 : decode cX0_postpone 4 = .ok (.iload_n 1, 1) := by decide +kernel
theorem dX0_postpone_5 : decode cX0_postpone 5 = .ok (.iaload, 1) := by decide +kernel
theorem dX0_postpone_6 : decode cX0_postpone 6 = .ok (.iload_n 2, 1) := by decide +kernel
theorem dX0_postpone_7 : decode cX0_postpone 7 = .ok (.iadd, 1) := by decide +kernel
theorem dX0_postpone_8 : decode cX0_postpone 8 = .ok (.istore_n 3, 1) := by decide +kernel
theorem dX0_postpone_9 : decode cX0_postpone 9 = .ok (.aload_n 0, 1) := by decide +kernel
theorem dX0_postpone_10 : decode cX0_postpone 10 = .ok (.getfield 15, 3) := by decide +kernel
theorem dX0_postpone_13 : decode cX0_postpone 13 = .ok (.iload_n 1, 1) := by decide +kernel
theorem dX0_postpone_14 : decode cX0_postpone 14 = .ok (.iaload, 1) := by decide +kernel
theorem dX0_postpone_15 : decode cX0_postpone 15 = .ok (.istore 4, 2) := by decide +kernel
theorem dX0_postpone_17 : decode cX0_postpone 17 = .ok (.aload_n 0, 1) := by decide +kernel
theorem dX0_postpone_18 : decode cX0_postpone 18 = .ok (.getfield 18, 3) := by decide +kernel
theorem dX0_postpone_21 : decode cX0_postpone 21 = .ok (.iload_n 1, 1) := by decide +kernel
theorem dX0_postpone_22 : decode cX0_postpone 22 = .ok (.iaload, 1) := by decide +kernel
theorem dX0_postpone_23 : decode cX0_postpone 23 = .ok (.istore 5, 2) := by decide +kernel
theorem dX0_postpone_25 : decode cX0_postpone 25 = .ok (.aload_n 0, 1) := by decide +kernel
theorem dX0_postpone_26 : decode cX0_postpone 26 = .ok (.iload_n 1, 1) := by decide +kernel
theorem dX0_postpone_27 : decode cX0_postpone 27 = .ok (.invokevirtual 41, 3) := by decide +kernel
theorem dX0_postpone_30 : decode cX0_postpone 30 = .ok (.aload_n 0, 1) := by decide +kernel
theorem dX0_postpone_31 : decode cX0_postpone 31 = .ok (.iload_n 3, 1) := by decide +kernel
theorem dX0_postpone_32 : decode cX0_postpone 32 = .ok (.iload 4, 2) := by decide +kernel
theorem dX0_postpone_34 : decode cX0_postpone 34 = .ok (.iload 5, 2) := by decide +kernel
theorem dX0_postpone_36 : decode cX0_postpone 36 = .ok (.invokevirtual 45, 3) := by decide +kernel
theorem dX0_postpone_39 : decode cX0_postpone 39 = .ok (.ireturn, 1) := by decide +kernel
theorem dX0_next_0 : decode cX0_next 0 = .ok (.iconst 0, 1) := by decide +kernel
theorem dX0_next_1 : decode cX0_next 1 = .ok (.istore_n 2, 1) := by decide +kernel
theorem dX0_next_2 : decode cX0_next 2 = .ok (.iload_n 2, 1) := by decide +kernel
theorem dX0_next_3 : decode cX0_next 3 = .ok (.aload_n 0, 1) := by decide +kernel
theorem dX0_next_4 : decode cX0_next 4 = .ok (.getfield 21, 3) := by decide +kernel
theorem dX0_next_7 : decode cX0_next 7 = .ok (.if_icmp .ge 21, 3) := by decide +kernel
theorem dX0_next_10 : decode cX0_next 10 = .ok (.aload_n 0, 1) := by decide +kernel
theorem dX0_next_11 : decode cX0_next 11 = .ok (.getfield 9, 3) := by decide +kernel
theorem dX0_next_14 : decode cX0_next 14 = .ok (.iload_n 2, 1) := by decide +kernel
theorem dX0_next_15 : decode cX0_next 15 = .ok (.iaload, 1) := by decide +kernel
theorem dX0_next_16 : decode cX0_next 16 = .ok (.iload_n 1, 1) := by decide +kernel
theorem dX0_next_17 : decode cX0_next 17 = .ok (.if_icmp .lt 5, 3) := by decide +kernel
theorem dX0_next_20 : decode cX0_next 20 = .ok (.iload_n 2, 1) := by decide +kernel
theorem dX0_next_21 : decode cX0_next 21 = .ok (.ireturn, 1) := by decide +kernel
theorem dX0_next_22 : decode cX0_next 22 = .ok (.iinc 2 1, 3) := by decide +kernel
theorem dX0_next_25 : decode cX0_next 25 = .ok (.goto (-23), 3) := by decide +kernel
theorem dX0_next_28 : decode cX0_next 28 = .ok (.bipush (-6), 2) := by decide +kernel
theorem dX0_next_30 : decode cX0_next 30 = .ok (.ireturn, 1) := by decide +kernel
theorem dX0_carryOut_0 : decode cX0_carryOut 0 = .ok (.iconst 0, 1) := by decide +kernel
theorem dX0_carryOut_1 : decode cX0_carryOut 1 = .ok (.istore_n 3, 1) := by decide +kernel
theorem dX0_carryOut_2 : decode cX0_carryOut 2 = .ok (.iload_n 3, 1) := by decide +kernel
theorem dX0_carryOut_3 : decode cX0_carryOut 3 = .ok (.aload_n 0, 1) := by decide +kernel
theorem dX0_carryOut_4 : decode cX0_carryOut 4 = .ok (.getfield 21, 3) := by decide +kernel
theorem dX0_carryOut_7 : decode cX0_carryOut 7 = .ok (.if_icmp .ge 45, 3) := by decide +kernel
theorem dX0_carryOut_10 : decode cX0_carryOut 10 = .ok (.aload_n 0, 1) := by decide +kernel
theorem dX0_carryOut_11 : decode cX0_carryOut 11 = .ok (.getfield 9, 3) := by decide +kernel
theorem dX0_carryOut_14 : decode cX0_carryOut 14 = .ok (.iload_n 3, 1) := by decide +kernel
theorem dX0_carryOut_15 : decode cX0_carryOut 15 = .ok (.iaload, 1) := by decide +kernel
theorem dX0_carryOut_16 : decode cX0_carryOut 16 = .ok (.iload_n 1, 1) := by decide +kernel
theorem dX0_carryOut_17 : decode cX0_carryOut 17 = .ok (.if_icmp .gt 35, 3) := by decide +kernel
theorem dX0_carryOut_20 : decode cX0_carryOut 20 = .ok (.aload_n 0, 1) := by decide +kernel
theorem dX0_carryOut_21 : decode cX0_carryOut 21 = .ok (.getfield 9, 3) := by decide +kernel
theorem dX0_carryOut_24 : decode cX0_carryOut 24 = .ok (.iload_n 3, 1) := by decide +kernel
theorem dX0_carryOut_25 : decode cX0_carryOut 25 = .ok (.iaload, 1) := by decide +kernel
theorem dX0_carryOut_26 : decode cX0_carryOut 26 = .ok (.iload_n 1, 1) := by decide +kernel
theorem dX0_carryOut_27 : decode cX0_carryOut 27 = .ok (.if_icmp .ne 19, 3) := by decide +kernel
theorem dX0_carryOut_30 : decode cX0_carryOut 30 = .ok (.aload_n 2, 1) := by decide +kernel
theorem dX0_carryOut_31 : decode cX0_carryOut 31 = .ok (.aload_n 0, 1) := by decide +kernel
theorem dX0_carryOut_32 : decode cX0_carryOut 32 = .ok (.getfield 15, 3) := by decide +kernel
theorem dX0_carryOut_35 : decode cX0_carryOut 35 = .ok (.iload_n 3, 1) := by decide +kernel
theorem dX0_carryOut_36 : decode cX0_carryOut 36 = .ok (.iaload, 1) := by decide +kernel
theorem dX0_carryOut_37 : decode cX0_carryOut 37 = .ok (.aload_n 0, 1) := by decide +kernel
theorem dX0_carryOut_38 : decode cX0_carryOut 38 = .ok (.getfield 18, 3) := by decide +kernel
theorem dX0_carryOut_41 : decode cX0_carryOut 41 = .ok (.iload_n 3, 1) := by decide +kernel
theorem dX0_carryOut_42 : decode cX0_carryOut 42 = .ok (.iaload, 1) := by decide +kernel
theorem dX0_carryOut_43 : decode cX0_carryOut 43 = .ok (.invokevirtual 49, 3) := by decide +kernel
theorem dX0_carryOut_46 : decode cX0_carryOut 46 = .ok (.iinc 3 1, 3) := by decide +kernel
theorem dX0_carryOut_49 : decode cX0_carryOut 49 = .ok (.goto (-47), 3) := by decide +kernel
theorem dX0_carryOut_52 : decode cX0_carryOut 52 = .ok (.return_, 1) := by decide +kernel
theorem dX0_shift_0 : decode cX0_shift 0 = .ok (.aload_n 0, 1) := by decide +kernel
theorem dX0_shift_1 : decode cX0_shift 1 = .ok (.getfield 9, 3) := by decide +kernel
theorem dX0_shift_4 : decode cX0_shift 4 = .ok (.iload_n 1, 1) := by decide +kernel
theorem dX0_shift_5 : decode cX0_shift 5 = .ok (.aload_n 0, 1) := by decide +kernel
theorem dX0_shift_6 : decode cX0_shift 6 = .ok (.getfield 9, 3) := by decide +kernel
theorem dX0_shift_9 : decode cX0_shift 9 = .ok (.iload_n 2, 1) := by decide +kernel
theorem dX0_shift_10 : decode cX0_shift 10 = .ok (.iload_n 3, 1) := by decide +kernel
theorem dX0_shift_11 : decode cX0_shift 11 = .ok (.invokestatic 55, 3) := by decide +kernel
theorem dX0_shift_14 : decode cX0_shift 14 = .ok (.aload_n 0, 1) := by decide +kernel
theorem dX0_shift_15 : decode cX0_shift 15 = .ok (.getfield 15, 3) := by decide +kernel
theorem dX0_shift_18 : decode cX0_shift 18 = .ok (.iload_n 1, 1) := by decide +kernel
theorem dX0_shift_19 : decode cX0_shift 19 = .ok (.aload_n 0, 1) := by decide +kernel
theorem dX0_shift_20 : decode cX0_shift 20 = .ok (.getfield 15, 3) := by decide +kernel
theorem dX0_shift_23 : decode cX0_shift 23 = .ok (.iload_n 2, 1) := by decide +kernel
theorem dX0_shift_24 : decode cX0_shift 24 = .ok (.iload_n 3, 1) := by decide +kernel
theorem dX0_shift_25 : decode cX0_shift 25 = .ok (.invokestatic 55, 3) := by decide +kernel
theorem dX0_shift_28 : decode cX0_shift 28 = .ok (.aload_n 0, 1) := by decide +kernel
theorem dX0_shift_29 : decode cX0_shift 29 = .ok (.getfield 18, 3) := by decide +kernel
theorem dX0_shift_32 : decode cX0_shift 32 = .ok (.iload_n 1, 1) := by decide +kernel
theorem dX0_shift_33 : decode cX0_shift 33 = .ok (.aload_n 0, 1) := by decide +kernel
theorem dX0_shift_34 : decode cX0_shift 34 = .ok (.getfield 18, 3) := by decide +kernel
theorem dX0_shift_37 : decode cX0_shift 37 = .ok (.iload_n 2, 1) := by decide +kernel
theorem dX0_shift_38 : decode cX0_shift 38 = .ok (.iload_n 3, 1) := by decide +kernel
theorem dX0_shift_39 : decode cX0_shift 39 = .ok (.invokestatic 55, 3) := by decide +kernel
theorem dX0_shift_42 : decode cX0_shift 42 = .ok (.return_, 1) := by decide +kernel
theorem dX1_init_0 : decode cX1_init 0 = .ok (.aload_n 0, 1) := by decide +kernel
theorem dX1_init_1 : decode cX1_init 1 = .ok (.invokespecial 3, 3) := by decide +kernel
theorem dX1_init_4 : decode cX1_init 4 = .ok (.aload_n 0, 1) := by decide +kernel
theorem dX1_init_5 : decode cX1_init 5 = .ok (.new 9, 3) := by decide +kernel
theorem dX1_init_8 : decode cX1_init 8 = .ok (.dup, 1) := by decide +kernel
theorem dX1_init_9 : decode cX1_init 9 = .ok (.bipush 12, 2) := by decide +kernel
theorem dX1_init_11 : decode cX1_init 11 = .ok (.getstatic 11, 3) := by decide +kernel
theorem dX1_init_14 : decode cX1_init 14 = .ok (.getstatic 15, 3) := by decide +kernel
theorem dX1_init_17 : decode cX1_init 17 = .ok (.getstatic 18, 3) := by decide +kernel
theorem dX1_init_20 : decode cX1_init 20 = .ok (.invokespecial 21, 3) := by decide +kernel
theorem dX1_init_23 : decode cX1_init 23 = .ok (.putfield 24, 3) := by decide +kernel
theorem dX1_init_26 : decode cX1_init 26 = .ok (.aload_n 0, 1) := by decide +kernel
theorem dX1_init_27 : decode cX1_init 27 = .ok (.bipush 12, 2) := by decide +kernel
theorem dX1_init_29 : decode cX1_init 29 = .ok (.newarray .int, 2) := by decide +kernel
theorem dX1_init_31 : decode cX1_init 31 = .ok (.putfield 30, 3) := by decide +kernel
theorem dX1_init_34 : decode cX1_init 34 = .ok (.aload_n 0, 1) := by decide +kernel
theorem dX1_init_35 : decode cX1_init 35 = .ok (.bipush 12, 2) := by decide +kernel
theorem dX1_init_37 : decode cX1_init 37 = .ok (.newarray .int, 2) := by decide +kernel
theorem dX1_init_39 : decode cX1_init 39 = .ok (.putfield 33, 3) := by decide +kernel
theorem dX1_init_42 : decode cX1_init 42 = .ok (.aload_n 0, 1) := by decide +kernel
theorem dX1_init_43 : decode cX1_init 43 = .ok (.bipush 12, 2) := by decide +kernel
theorem dX1_init_45 : decode cX1_init 45 = .ok (.newarray .int, 2) := by decide +kernel
theorem dX1_init_47 : decode cX1_init 47 = .ok (.putfield 36, 3) := by decide +kernel
theorem dX1_init_50 : decode cX1_init 50 = .ok (.aload_n 0, 1) := by decide +kernel
theorem dX1_init_51 : decode cX1_init 51 = .ok (.bipush 12, 2) := by decide +kernel
theorem dX1_init_53 : decode cX1_init 53 = .ok (.newarray .int, 2) := by decide +kernel
theorem dX1_init_55 : decode cX1_init 55 = .ok (.putfield 39, 3) := by decide +kernel
theorem dX1_init_58 : decode cX1_init 58 = .ok (.aload_n 0, 1) := by decide +kernel
theorem dX1_init_59 : decode cX1_init 59 = .ok (.bipush 12, 2) := by decide +kernel
theorem dX1_init_61 : decode cX1_init 61 = .ok (.newarray .int, 2) := by decide +kernel
theorem dX1_init_63 : decode cX1_init 63 = .ok (.putfield 42, 3) := by decide +kernel
theorem dX1_init_66 : decode cX1_init 66 = .ok (.aload_n 0, 1) := by decide +kernel
theorem dX1_init_67 : decode cX1_init 67 = .ok (.bipush 12, 2) := by decide +kernel
theorem dX1_init_69 : decode cX1_init 69 = .ok (.newarray .int, 2) := by decide +kernel
theorem dX1_init_71 : decode cX1_init 71 = .ok (.putfield 45, 3) := by decide +kernel
theorem dX1_init_74 : decode cX1_init 74 = .ok (.aload_n 0, 1) := by decide +kernel
theorem dX1_init_75 : decode cX1_init 75 = .ok (.sipush 612, 3) := by decide +kernel
theorem dX1_init_78 : decode cX1_init 78 = .ok (.newarray .int, 2) := by decide +kernel
theorem dX1_init_80 : decode cX1_init 80 = .ok (.putfield 48, 3) := by decide +kernel
theorem dX1_init_83 : decode cX1_init 83 = .ok (.aload_n 0, 1) := by decide +kernel
theorem dX1_init_84 : decode cX1_init 84 = .ok (.iconst 4, 1) := by decide +kernel
theorem dX1_init_85 : decode cX1_init 85 = .ok (.putfield 51, 3) := by decide +kernel
theorem dX1_init_88 : decode cX1_init 88 = .ok (.aload_n 0, 1) := by decide +kernel
theorem dX1_init_89 : decode cX1_init 89 = .ok (.iconst 0, 1) := by decide +kernel
theorem dX1_init_90 : decode cX1_init 90 = .ok (.putfield 55, 3) := by decide +kernel
theorem dX1_init_93 : decode cX1_init 93 = .ok (.return_, 1) := by decide +kernel
theorem dX1_has_0 : decode cX1_has 0 = .ok (.iload_n 1, 1) := by decide +kernel
theorem dX1_has_1 : decode cX1_has 1 = .ok (.iconst 0, 1) := by decide +kernel
theorem dX1_has_2 : decode cX1_has 2 = .ok (.aload_n 0, 1) := by decide +kernel
theorem dX1_has_3 : decode cX1_has 3 = .ok (.getfield 51, 3) := by decide +kernel
theorem dX1_has_6 : decode cX1_has 6 = .ok (.iconst 1, 1) := by decide +kernel
theorem dX1_has_7 : decode cX1_has 7 = .ok (.isub, 1) := by decide +kernel
theorem dX1_has_8 : decode cX1_has 8 = .ok (.invokestatic 58, 3) := by decide +kernel
theorem dX1_has_11 : decode cX1_has 11 = .ok (.ireturn, 1) := by decide +kernel
theorem dX1_begin_0 : decode cX1_begin 0 = .ok (.aload_n 0, 1) := by decide +kernel
theorem dX1_begin_1 : decode cX1_begin 1 = .ok (.iload_n 1, 1) := by decide +kernel
theorem dX1_begin_2 : decode cX1_begin 2 = .ok (.putfield 51, 3) := by decide +kernel
theorem dX1_begin_5 : decode cX1_begin 5 = .ok (.aload_n 0, 1) := by decide +kernel
theorem dX1_begin_6 : decode cX1_begin 6 = .ok (.getfield 24, 3) := by decide +kernel
theorem dX1_begin_9 : decode cX1_begin 9 = .ok (.invokevirtual 62, 3) := by decide +kernel
theorem dX1_begin_12 : decode cX1_begin 12 = .ok (.return_, 1) := by decide +kernel
theorem dX1_goBack_0 : decode cX1_goBack 0 = .ok (.aload_n 0, 1) := by decide +kernel
theorem dX1_goBack_1 : decode cX1_goBack 1 = .ok (.getfield 30, 3) := by decide +kernel
theorem dX1_goBack_4 : decode cX1_goBack 4 = .ok (.invokestatic 65, 3) := by decide +kernel
theorem dX1_goBack_7 : decode cX1_goBack 7 = .ok (.aload_n 0, 1) := by decide +kernel
theorem dX1_goBack_8 : decode cX1_goBack 8 = .ok (.getfield 33, 3) := by decide +kernel
theorem dX1_goBack_11 : decode cX1_goBack 11 = .ok (.invokestatic 65, 3) := by decide +kernel
theorem dX1_goBack_14 : decode cX1_goBack 14 = .ok (.aload_n 0, 1) := by decide +kernel
theorem dX1_goBack_15 : decode cX1_goBack 15 = .ok (.getfield 36, 3) := by decide +kernel
theorem dX1_goBack_18 : decode cX1_goBack 18 = .ok (.invokestatic 65, 3) := by decide +kernel
theorem dX1_goBack_21 : decode cX1_goBack 21 = .ok (.aload_n 0, 1) := by decide +kernel
theorem dX1_goBack_22 : decode cX1_goBack 22 = .ok (.getfield 39, 3) := by decide +kernel
theorem dX1_goBack_25 : decode cX1_goBack 25 = .ok (.invokestatic 65, 3) := by decide +kernel
theorem dX1_goBack_28 : decode cX1_goBack 28 = .ok (.aload_n 0, 1) := by decide +kernel
theorem dX1_goBack_29 : decode cX1_goBack 29 = .ok (.getfield 42, 3) := by decide +kernel
theorem dX1_goBack_32 : decode cX1_goBack 32 = .ok (.invokestatic 65, 3) := by decide +kernel
theorem dX1_goBack_35 : decode cX1_goBack 35 = .ok (.aload_n 0, 1) := by decide +kernel
theorem dX1_goBack_36 : decode cX1_goBack 36 = .ok (.getfield 45, 3) := by decide +kernel
theorem dX1_goBack_39 : decode cX1_goBack 39 = .ok (.invokestatic 65, 3) := by decide +kernel
theorem dX1_goBack_42 : decode cX1_goBack 42 = .ok (.aload_n 0, 1) := by decide +kernel
theorem dX1_goBack_43 : decode cX1_goBack 43 = .ok (.getfield 48, 3) := by decide +kernel
theorem dX1_goBack_46 : decode cX1_goBack 46 = .ok (.invokestatic 65, 3) := by decide +kernel
theorem dX1_goBack_49 : decode cX1_goBack 49 = .ok (.return_, 1) := by decide +kernel
theorem dX1_copy_0 : decode cX1_copy 0 = .ok (.aload_n 0, 1) := by decide +kernel
theorem dX1_copy_1 : decode cX1_copy 1 = .ok (.aload_n 1, 1) := by decide +kernel
theorem dX1_copy_2 : decode cX1_copy 2 = .ok (.getfield 51, 3) := by decide +kernel
theorem dX1_copy_5 : decode cX1_copy 5 = .ok (.putfield 51, 3) := by decide +kernel
theorem dX1_copy_8 : decode cX1_copy 8 = .ok (.aload_n 0, 1) := by decide +kernel
theorem dX1_copy_9 : decode cX1_copy 9 = .ok (.getfield 24, 3) := by decide +kernel
theorem dX1_copy_12 : decode cX1_copy 12 = .ok (.aload_n 1, 1) := by decide +kernel
theorem dX1_copy_13 : decode cX1_copy 13 = .ok (.getfield 24, 3) := by decide +kernel
theorem dX1_copy_16 : decode cX1_copy 16 = .ok (.invokevirtual 69, 3) := by decide +kernel
theorem dX1_copy_19 : decode cX1_copy 19 = .ok (.aload_n 1, 1) := by decide +kernel
theorem dX1_copy_20 : decode cX1_copy 20 = .ok (.getfield 30, 3) := by decide +kernel
theorem dX1_copy_23 : decode cX1_copy 23 = .ok (.aload_n 0, 1) := by decide +kernel
theorem dX1_copy_24 : decode cX1_copy 24 = .ok (.getfield 30, 3) := by decide +kernel
theorem dX1_copy_27 : decode cX1_copy 27 = .ok (.invokestatic 73, 3) := by decide +kernel
theorem dX1_copy_30 : decode cX1_copy 30 = .ok (.aload_n 1, 1) := by decide +kernel
theorem dX1_copy_31 : decode cX1_copy 31 = .ok (.getfield 33, 3) := by decide +kernel
theorem dX1_copy_34 : decode cX1_copy 34 = .ok (.aload_n 0, 1) := by decide +kernel
theorem dX1_copy_35 : decode cX1_copy 35 = .ok (.getfield 33, 3) := by decide +kernel
theorem dX1_copy_38 : decode cX1_copy 38 = .ok (.invokestatic 73, 3) := by decide +kernel
theorem dX1_copy_41 : decode cX1_copy 41 = .ok (.aload_n 1, 1) := by decide +kernel
theorem dX1_copy_42 : decode cX1_copy 42 = .ok (.getfield 36, 3) := by decide +kernel
theorem dX1_copy_45 : decode cX1_copy 45 = .ok (.aload_n 0, 1) := by decide +kernel
theorem dX1_copy_46 : decode cX1_copy 46 = .ok (.getfield 36, 3) := by decide +kernel
theorem dX1_copy_49 : decode cX1_copy 49 = .ok (.invokestatic 73, 3) := by decide +kernel
theorem dX1_copy_52 : decode cX1_copy 52 = .ok (.aload_n 1, 1) := by decide +kernel
theorem dX1_copy_53 : decode cX1_copy 53 = .ok (.getfield 39, 3) := by decide +kernel
theorem dX1_copy_56 : decode cX1_copy 56 = .ok (.aload_n 0, 1) := by decide +kernel
theorem dX1_copy_57 : decode cX1_copy 57 = .ok (.getfield 39, 3) := by decide +kernel
theorem dX1_copy_60 : decode cX1_copy 60 = .ok (.invokestatic 73, 3) := by decide +kernel
theorem dX1_copy_63 : decode cX1_copy 63 = .ok (.aload_n 1, 1) := by decide +kernel
theorem dX1_copy_64 : decode cX1_copy 64 = .ok (.getfield 42, 3) := by decide +kernel
theorem dX1_copy_67 : decode cX1_copy 67 = .ok (.aload_n 0, 1) := by decide +kernel
theorem dX1_copy_68 : decode cX1_copy 68 = .ok (.getfield 42, 3) := by decide +kernel
theorem dX1_copy_71 : decode cX1_copy 71 = .ok (.invokestatic 73, 3) := by decide +kernel
theorem dX1_copy_74 : decode cX1_copy 74 = .ok (.aload_n 1, 1) := by decide +kernel
theorem dX1_copy_75 : decode cX1_copy 75 = .ok (.getfield 45, 3) := by decide +kernel
theorem dX1_copy_78 : decode cX1_copy 78 = .ok (.aload_n 0, 1) := by decide +kernel
theorem dX1_copy_79 : decode cX1_copy 79 = .ok (.getfield 45, 3) := by decide +kernel
theorem dX1_copy_82 : decode cX1_copy 82 = .ok (.invokestatic 73, 3) := by decide +kernel
theorem dX1_copy_85 : decode cX1_copy 85 = .ok (.aload_n 1, 1) := by decide +kernel
theorem dX1_copy_86 : decode cX1_copy 86 = .ok (.getfield 48, 3) := by decide +kernel
theorem dX1_copy_89 : decode cX1_copy 89 = .ok (.aload_n 0, 1) := by decide +kernel
theorem dX1_copy_90 : decode cX1_copy 90 = .ok (.getfield 48, 3) := by decide +kernel
theorem dX1_copy_93 : decode cX1_copy 93 = .ok (.invokestatic 73, 3) := by decide +kernel
theorem dX1_copy_96 : decode cX1_copy 96 = .ok (.return_, 1) := by decide +kernel
theorem dX1_obey_0 : decode cX1_obey 0 = .ok (.iconst 0, 1) := by decide +kernel
theorem dX1_obey_1 : decode cX1_obey 1 = .ok (.istore_n 3, 1) := by decide +kernel
theorem dX1_obey_2 : decode cX1_obey 2 = .ok (.iload_n 3, 1) := by decide +kernel
theorem dX1_obey_3 : decode cX1_obey 3 = .ok (.aload_n 0, 1) := by decide +kernel
theorem dX1_obey_4 : decode cX1_obey 4 = .ok (.getfield 51, 3) := by decide +kernel
theorem dX1_obey_7 : decode cX1_obey 7 = .ok (.if_icmp .ge 25, 3) := by decide +kernel
theorem dX1_obey_10 : decode cX1_obey 10 = .ok (.iload_n 1, 1) := by decide +kernel
theorem dX1_obey_11 : decode cX1_obey 11 = .ok (.iload_n 3, 1) := by decide +kernel
theorem dX1_obey_12 : decode cX1_obey 12 = .ok (.ishr, 1) := by decide +kernel
theorem dX1_obey_13 : decode cX1_obey 13 = .ok (.iconst 1, 1) := by decide +kernel
theorem dX1_obey_14 : decode cX1_obey 14 = .ok (.iand, 1) := by decide +kernel
theorem dX1_obey_15 : decode cX1_obey 15 = .ok (.iconst 1, 1) := by decide +kernel
theorem dX1_obey_16 : decode cX1_obey 16 = .ok (.if_icmp .ne 10, 3) := by decide +kernel
theorem dX1_obey_19 : decode cX1_obey 19 = .ok (.aload_n 0, 1) := by decide +kernel
theorem dX1_obey_20 : decode cX1_obey 20 = .ok (.getfield 30, 3) := by decide +kernel
theorem dX1_obey_23 : decode cX1_obey 23 = .ok (.iload_n 3, 1) := by decide +kernel
theorem dX1_obey_24 : decode cX1_obey 24 = .ok (.iload_n 2, 1) := by decide +kernel
theorem dX1_obey_25 : decode cX1_obey 25 = .ok (.iastore, 1) := by decide +kernel
theorem dX1_obey_26 : decode cX1_obey 26 = .ok (.iinc 3 1, 3) := by decide +kernel
theorem dX1_obey_29 : decode cX1_obey 29 = .ok (.goto (-27), 3) := by decide +kernel
theorem dX1_obey_32 : decode cX1_obey 32 = .ok (.return_, 1) := by decide +kernel
theorem dX1_keepCommands_0 : decode cX1_keepCommands 0 = .ok (.aload_n 0, 1) := by decide +kernel
theorem dX1_keepCommands_1 : decode cX1_keepCommands 1 = .ok (.getfield 30, 3) := by decide +kernel
theorem dX1_keepCommands_4 : decode cX1_keepCommands 4 = .ok (.iconst 0, 1) := by decide +kernel
theorem dX1_keepCommands_5 : decode cX1_keepCommands 5 = .ok (.aload_n 0, 1) := by decide +kernel
theorem dX1_keepCommands_6 : decode cX1_keepCommands 6 = .ok (.getfield 48, 3) := by decide +kernel
theorem dX1_keepCommands_9 : decode cX1_keepCommands 9 = .ok (.iload_n 1, 1) := by decide +kernel
theorem dX1_keepCommands_10 : decode cX1_keepCommands 10 = .ok (.invokestatic 77, 3) := by decide +kernel
theorem dX1_keepCommands_13 : decode cX1_keepCommands 13 = .ok (.bipush 12, 2) := by decide +kernel
theorem dX1_keepCommands_15 : decode cX1_keepCommands 15 = .ok (.invokestatic 81, 3) := by decide +kernel
theorem dX1_keepCommands_18 : decode cX1_keepCommands 18 = .ok (.return_, 1) := by decide +kernel
theorem dX1_open_0 : decode cX1_open 0 = .ok (.iconst 0, 1) := by decide +kernel
theorem dX1_open_1 : decode cX1_open 1 = .ok (.istore 4, 2) := by decide +kernel
theorem dX1_open_3 : decode cX1_open 3 = .ok (.iload 4, 2) := by decide +kernel
theorem dX1_open_5 : decode cX1_open 5 = .ok (.aload_n 0, 1) := by decide +kernel
theorem dX1_open_6 : decode cX1_open 6 = .ok (.getfield 51, 3) := by decide +kernel
theorem dX1_open_9 : decode cX1_open 9 = .ok (.if_icmp .ge 95, 3) := by decide +kernel
theorem dX1_open_12 : decode cX1_open 12 = .ok (.aload_n 0, 1) := by decide +kernel
theorem dX1_open_13 : decode cX1_open 13 = .ok (.iload_n 1, 1) := by decide +kernel
theorem dX1_open_14 : decode cX1_open 14 = .ok (.aload_n 0, 1) := by decide +kernel
theorem dX1_open_15 : decode cX1_open 15 = .ok (.getfield 24, 3) := by decide +kernel
theorem dX1_open_18 : decode cX1_open 18 = .ok (.iload 4, 2) := by decide +kernel
theorem dX1_open_20 : decode cX1_open 20 = .ok (.iconst 2, 1) := by decide +kernel
theorem dX1_open_21 : decode cX1_open 21 = .ok (.invokevirtual 87, 3) := by decide +kernel
theorem dX1_open_24 : decode cX1_open 24 = .ok (.isub, 1) := by decide +kernel
theorem dX1_open_25 : decode cX1_open 25 = .ok (.iload 4, 2) := by decide +kernel
theorem dX1_open_27 : decode cX1_open 27 = .ok (.invokevirtual 91, 3) := by decide +kernel
theorem dX1_open_30 : decode cX1_open 30 = .ok (.istore 5, 2) := by decide +kernel
theorem dX1_open_32 : decode cX1_open 32 = .ok (.iload_n 2, 1) := by decide +kernel
theorem dX1_open_33 : decode cX1_open 33 = .ok (.iconst 1, 1) := by decide +kernel
theorem dX1_open_34 : decode cX1_open 34 = .ok (.if_icmp .ne 27, 3) := by decide +kernel
theorem dX1_open_37 : decode cX1_open 37 = .ok (.aload_n 0, 1) := by decide +kernel
theorem dX1_open_38 : decode cX1_open 38 = .ok (.aload_n 0, 1) := by decide +kernel
theorem dX1_open_39 : decode cX1_open 39 = .ok (.getfield 55, 3) := by decide +kernel
theorem dX1_open_42 : decode cX1_open 42 = .ok (.iload 5, 2) := by decide +kernel
theorem dX1_open_44 : decode cX1_open 44 = .ok (.invokestatic 94, 3) := by decide +kernel
theorem dX1_open_47 : decode cX1_open 47 = .ok (.putfield 55, 3) := by decide +kernel
theorem dX1_open_50 : decode cX1_open 50 = .ok (.iload 5, 2) := by decide +kernel
theorem dX1_open_52 : decode cX1_open 52 = .ok (.iload_n 3, 1) := by decide +kernel
theorem dX1_open_53 : decode cX1_open 53 = .ok (.invokestatic 99, 3) := by decide +kernel
theorem dX1_open_56 : decode cX1_open 56 = .ok (.istore 5, 2) := by decide +kernel
theorem dX1_open_58 : decode cX1_open 58 = .ok (.goto 11, 3) := by decide +kernel
theorem dX1_open_61 : decode cX1_open 61 = .ok (.iload_n 2, 1) := by decide +kernel
theorem dX1_open_62 : decode cX1_open 62 = .ok (.iconst 2, 1) := by decide +kernel
theorem dX1_open_63 : decode cX1_open 63 = .ok (.if_icmp .ne 6, 3) := by decide +kernel
theorem dX1_open_66 : decode cX1_open 66 = .ok (.iconst 0, 1) := by decide +kernel
theorem dX1_open_67 : decode cX1_open 67 = .ok (.istore 5, 2) := by decide +kernel
theorem dX1_open_69 : decode cX1_open 69 = .ok (.aload_n 0, 1) := by decide +kernel
theorem dX1_open_70 : decode cX1_open 70 = .ok (.getfield 33, 3) := by decide +kernel
theorem dX1_open_73 : decode cX1_open 73 = .ok (.iload 4, 2) := by decide +kernel
theorem dX1_open_75 : decode cX1_open 75 = .ok (.aload_n 0, 1) := by decide +kernel
theorem dX1_open_76 : decode cX1_open 76 = .ok (.getfield 33, 3) := by decide +kernel
theorem dX1_open_79 : decode cX1_open 79 = .ok (.iload 4, 2) := by decide +kernel
theorem dX1_open_81 : decode cX1_open 81 = .ok (.iaload, 1) := by decide +kernel
theorem dX1_open_82 : decode cX1_open 82 = .ok (.iload 5, 2) := by decide +kernel
theorem dX1_open_84 : decode cX1_open 84 = .ok (.aload_n 0, 1) := by decide +kernel
theorem dX1_open_85 : decode cX1_open 85 = .ok (.getfield 24, 3) := by decide +kernel
theorem dX1_open_88 : decode cX1_open 88 = .ok (.iload 4, 2) := by decide +kernel
theorem dX1_open_90 : decode cX1_open 90 = .ok (.iconst 3, 1) := by decide +kernel
theorem dX1_open_91 : decode cX1_open 91 = .ok (.invokevirtual 87, 3) := by decide +kernel
theorem dX1_open_94 : decode cX1_open 94 = .ok (.invokestatic 102, 3) := by decide +kernel
theorem dX1_open_97 : decode cX1_open 97 = .ok (.iastore, 1) := by decide +kernel
theorem dX1_open_98 : decode cX1_open 98 = .ok (.iinc 4 1, 3) := by decide +kernel
theorem dX1_open_101 : decode cX1_open 101 = .ok (.goto (-98), 3) := by decide +kernel
theorem dX1_open_104 : decode cX1_open 104 = .ok (.return_, 1) := by decide +kernel
theorem dX1_demandOf_0 : decode cX1_demandOf 0 = .ok (.iconst 0, 1) := by decide +kernel
theorem dX1_demandOf_1 : decode cX1_demandOf 1 = .ok (.istore_n 2, 1) := by decide +kernel
theorem dX1_demandOf_2 : decode cX1_demandOf 2 = .ok (.iconst 0, 1) := by decide +kernel
theorem dX1_demandOf_3 : decode cX1_demandOf 3 = .ok (.istore_n 3, 1) := by decide +kernel
theorem dX1_demandOf_4 : decode cX1_demandOf 4 = .ok (.iload_n 3, 1) := by decide +kernel
theorem dX1_demandOf_5 : decode cX1_demandOf 5 = .ok (.aload_n 0, 1) := by decide +kernel
theorem dX1_demandOf_6 : decode cX1_demandOf 6 = .ok (.getfield 51, 3) := by decide +kernel
theorem dX1_demandOf_9 : decode cX1_demandOf 9 = .ok (.if_icmp .ge 30, 3) := by decide +kernel
theorem dX1_demandOf_12 : decode cX1_demandOf 12 = .ok (.aload_n 0, 1) := by decide +kernel
theorem dX1_demandOf_13 : decode cX1_demandOf 13 = .ok (.getfield 24, 3) := by decide +kernel
theorem dX1_demandOf_16 : decode cX1_demandOf 16 = .ok (.iload_n 3, 1) := by decide +kernel
theorem dX1_demandOf_17 : decode cX1_demandOf 17 = .ok (.iconst 4, 1) := by decide +kernel
theorem dX1_demandOf_18 : decode cX1_demandOf 18 = .ok (.invokevirtual 87, 3) := by decide +kernel
theorem dX1_demandOf_21 : decode cX1_demandOf 21 = .ok (.iload_n 1, 1) := by decide +kernel
theorem dX1_demandOf_22 : decode cX1_demandOf 22 = .ok (.if_icmp .ne 11, 3) := by decide +kernel
theorem dX1_demandOf_25 : decode cX1_demandOf 25 = .ok (.iload_n 2, 1) := by decide +kernel
theorem dX1_demandOf_26 : decode cX1_demandOf 26 = .ok (.aload_n 0, 1) := by decide +kernel
theorem dX1_demandOf_27 : decode cX1_demandOf 27 = .ok (.iload_n 3, 1) := by decide +kernel
theorem dX1_demandOf_28 : decode cX1_demandOf 28 = .ok (.invokevirtual 106, 3) := by decide +kernel
theorem dX1_demandOf_31 : decode cX1_demandOf 31 = .ok (.iadd, 1) := by decide +kernel
theorem dX1_demandOf_32 : decode cX1_demandOf 32 = .ok (.istore_n 2, 1) := by decide +kernel
theorem dX1_demandOf_33 : decode cX1_demandOf 33 = .ok (.iinc 3 1, 3) := by decide +kernel
theorem dX1_demandOf_36 : decode cX1_demandOf 36 = .ok (.goto (-32), 3) := by decide +kernel
theorem dX1_demandOf_39 : decode cX1_demandOf 39 = .ok (.iload_n 2, 1) := by decide +kernel
theorem dX1_demandOf_40 : decode cX1_demandOf 40 = .ok (.ireturn, 1) := by decide +kernel
theorem dX1_flow_0 : decode cX1_flow 0 = .ok (.iconst 0, 1) := by decide +kernel
theorem dX1_flow_1 : decode cX1_flow 1 = .ok (.istore 4, 2) := by decide +kernel
theorem dX1_flow_3 : decode cX1_flow 3 = .ok (.iload 4, 2) := by decide +kernel
theorem dX1_flow_5 : decode cX1_flow 5 = .ok (.aload_n 0, 1) := by decide +kernel
theorem dX1_flow_6 : decode cX1_flow 6 = .ok (.getfield 51, 3) := by decide +kernel
theorem dX1_flow_9 : decode cX1_flow 9 = .ok (.if_icmp .ge 60, 3) := by decide +kernel
theorem dX1_flow_12 : decode cX1_flow 12 = .ok (.aload_n 0, 1) := by decide +kernel
theorem dX1_flow_13 : decode cX1_flow 13 = .ok (.getfield 24, 3) := by decide +kernel
theorem dX1_flow_16 : decode cX1_flow 16 = .ok (.iload 4, 2) := by decide +kernel
theorem dX1_flow_18 : decode cX1_flow 18 = .ok (.iconst 4, 1) := by decide +kernel
theorem dX1_flow_19 : decode cX1_flow 19 = .ok (.invokevirtual 87, 3) := by decide +kernel
theorem dX1_flow_22 : decode cX1_flow 22 = .ok (.iload_n 1, 1) := by decide +kernel
theorem dX1_flow_23 : decode cX1_flow 23 = .ok (.if_icmp .ne 40, 3) := by decide +kernel
theorem dX1_flow_26 : decode cX1_flow 26 = .ok (.aload_n 0, 1) := by decide +kernel
theorem dX1_flow_27 : decode cX1_flow 27 = .ok (.iload 4, 2) := by decide +kernel
theorem dX1_flow_29 : decode cX1_flow 29 = .ok (.invokevirtual 106, 3) := by decide +kernel
theorem dX1_flow_32 : decode cX1_flow 32 = .ok (.istore 5, 2) := by decide +kernel
theorem dX1_flow_34 : decode cX1_flow 34 = .ok (.aload_n 0, 1) := by decide +kernel
theorem dX1_flow_35 : decode cX1_flow 35 = .ok (.getfield 36, 3) := by decide +kernel
theorem dX1_flow_38 : decode cX1_flow 38 = .ok (.iload 4, 2) := by decide +kernel
theorem dX1_flow_40 : decode cX1_flow 40 = .ok (.iload_n 2, 1) := by decide +kernel
theorem dX1_flow_41 : decode cX1_flow 41 = .ok (.iload_n 3, 1) := by decide +kernel
theorem dX1_flow_42 : decode cX1_flow 42 = .ok (.if_icmp .gt 8, 3) := by decide +kernel
theorem dX1_flow_45 : decode cX1_flow 45 = .ok (.iload 5, 2) := by decide +kernel
theorem dX1_flow_47 : decode cX1_flow 47 = .ok (.goto 15, 3) := by decide +kernel
theorem dX1_flow_50 : decode cX1_flow 50 = .ok (.iload 5, 2) := by decide +kernel
theorem dX1_flow_52 : decode cX1_flow 52 = .ok (.i2l, 1) := by decide +kernel
theorem dX1_flow_53 : decode cX1_flow 53 = .ok (.iload_n 3, 1) := by decide +kernel
theorem dX1_flow_54 : decode cX1_flow 54 = .ok (.i2l, 1) := by decide +kernel
theorem dX1_flow_55 : decode cX1_flow 55 = .ok (.lmul, 1) := by decide +kernel
theorem dX1_flow_56 : decode cX1_flow 56 = .ok (.iload_n 2, 1) := by decide +kernel
theorem dX1_flow_57 : decode cX1_flow 57 = .ok (.i2l, 1) := by decide +kernel
theorem dX1_flow_58 : decode cX1_flow 58 = .ok (.invokestatic 109, 3) := by decide +kernel
theorem dX1_flow_61 : decode cX1_flow 61 = .ok (.l2i, 1) := by decide +kernel
theorem dX1_flow_62 : decode cX1_flow 62 = .ok (.iastore, 1) := by decide +kernel
theorem dX1_flow_63 : decode cX1_flow 63 = .ok (.iinc 4 1, 3) := by decide +kernel
theorem dX1_flow_66 : decode cX1_flow 66 = .ok (.goto (-63), 3) := by decide +kernel
theorem dX1_flow_69 : decode cX1_flow 69 = .ok (.return_, 1) := by decide +kernel
theorem dX1_rise_0 : decode cX1_rise 0 = .ok (.iconst 0, 1) := by decide +kernel
theorem dX1_rise_1 : decode cX1_rise 1 = .ok (.istore_n 2, 1) := by decide +kernel
theorem dX1_rise_2 : decode cX1_rise 2 = .ok (.iload_n 2, 1) := by decide +kernel
theorem dX1_rise_3 : decode cX1_rise 3 = .ok (.aload_n 0, 1) := by decide +kernel
theorem dX1_rise_4 : decode cX1_rise 4 = .ok (.getfield 51, 3) := by decide +kernel
theorem dX1_rise_7 : decode cX1_rise 7 = .ok (.if_icmp .ge 108, 3) := by decide +kernel
theorem dX1_rise_10 : decode cX1_rise 10 = .ok (.aload_n 0, 1) := by decide +kernel
theorem dX1_rise_11 : decode cX1_rise 11 = .ok (.getfield 36, 3) := by decide +kernel
theorem dX1_rise_14 : decode cX1_rise 14 = .ok (.iload_n 2, 1) := by decide +kernel
theorem dX1_rise_15 : decode cX1_rise 15 = .ok (.iaload, 1) := by decide +kernel
theorem dX1_rise_16 : decode cX1_rise 16 = .ok (.i2l, 1) := by decide +kernel
theorem dX1_rise_17 : decode cX1_rise 17 = .ok (.aload_n 0, 1) := by decide +kernel
theorem dX1_rise_18 : decode cX1_rise 18 = .ok (.getfield 24, 3) := by decide +kernel
theorem dX1_rise_21 : decode cX1_rise 21 = .ok (.iload_n 2, 1) := by decide +kernel
theorem dX1_rise_22 : decode cX1_rise 22 = .ok (.iconst 0, 1) := by decide +kernel
theorem dX1_rise_23 : decode cX1_rise 23 = .ok (.invokevirtual 87, 3) := by decide +kernel
theorem dX1_rise_26 : decode cX1_rise 26 = .ok (.i2l, 1) := by decide +kernel
theorem dX1_rise_27 : decode cX1_rise 27 = .ok (.invokestatic 109, 3) := by decide +kernel
theorem dX1_rise_30 : decode cX1_rise 30 = .ok (.lstore_n 3, 1) := by decide +kernel
theorem dX1_rise_31 : decode cX1_rise 31 = .ok (.aload_n 0, 1) := by decide +kernel
theorem dX1_rise_32 : decode cX1_rise 32 = .ok (.getfield 39, 3) := by decide +kernel
theorem dX1_rise_35 : decode cX1_rise 35 = .ok (.iload_n 2, 1) := by decide +kernel
theorem dX1_rise_36 : decode cX1_rise 36 = .ok (.aload_n 0, 1) := by decide +kernel
theorem dX1_rise_37 : decode cX1_rise 37 = .ok (.getfield 24, 3) := by decide +kernel
theorem dX1_rise_40 : decode cX1_rise 40 = .ok (.iload_n 2, 1) := by decide +kernel
theorem dX1_rise_41 : decode cX1_rise 41 = .ok (.iconst 1, 1) := by decide +kernel
theorem dX1_rise_42 : decode cX1_rise 42 = .ok (.invokevirtual 87, 3) := by decide +kernel
theorem dX1_rise_45 : decode cX1_rise 45 = .ok (.i2l, 1) := by decide +kernel
theorem dX1_rise_46 : decode cX1_rise 46 = .ok (.lload_n 3, 1) := by decide +kernel
theorem dX1_rise_47 : decode cX1_rise 47 = .ok (.lmul, 1) := by decide +kernel
theorem dX1_rise_48 : decode cX1_rise 48 = .ok (.lload_n 3, 1) := by decide +kernel
theorem dX1_rise_49 : decode cX1_rise 49 = .ok (.lmul, 1) := by decide +kernel
theorem dX1_rise_50 : decode cX1_rise 50 = .ok (.ldc2_w 113, 3) := by decide +kernel
theorem dX1_rise_53 : decode cX1_rise 53 = .ok (.ldiv, 1) := by decide +kernel
theorem dX1_rise_54 : decode cX1_rise 54 = .ok (.l2i, 1) := by decide +kernel
theorem dX1_rise_55 : decode cX1_rise 55 = .ok (.iastore, 1) := by decide +kernel
theorem dX1_rise_56 : decode cX1_rise 56 = .ok (.aload_n 0, 1) := by decide +kernel
theorem dX1_rise_57 : decode cX1_rise 57 = .ok (.getfield 42, 3) := by decide +kernel
theorem dX1_rise_60 : decode cX1_rise 60 = .ok (.iload_n 2, 1) := by decide +kernel
theorem dX1_rise_61 : decode cX1_rise 61 = .ok (.aload_n 0, 1) := by decide +kernel
theorem dX1_rise_62 : decode cX1_rise 62 = .ok (.getfield 39, 3) := by decide +kernel
theorem dX1_rise_65 : decode cX1_rise 65 = .ok (.iload_n 2, 1) := by decide +kernel
theorem dX1_rise_66 : decode cX1_rise 66 = .ok (.iaload, 1) := by decide +kernel
theorem dX1_rise_67 : decode cX1_rise 67 = .ok (.i2l, 1) := by decide +kernel
theorem dX1_rise_68 : decode cX1_rise 68 = .ok (.iload_n 1, 1) := by decide +kernel
theorem dX1_rise_69 : decode cX1_rise 69 = .ok (.i2l, 1) := by decide +kernel
theorem dX1_rise_70 : decode cX1_rise 70 = .ok (.lmul, 1) := by decide +kernel
theorem dX1_rise_71 : decode cX1_rise 71 = .ok (.aload_n 0, 1) := by decide +kernel
theorem dX1_rise_72 : decode cX1_rise 72 = .ok (.getfield 24, 3) := by decide +kernel
theorem dX1_rise_75 : decode cX1_rise 75 = .ok (.iload_n 2, 1) := by decide +kernel
theorem dX1_rise_76 : decode cX1_rise 76 = .ok (.iconst 5, 1) := by decide +kernel
theorem dX1_rise_77 : decode cX1_rise 77 = .ok (.invokevirtual 87, 3) := by decide +kernel
theorem dX1_rise_80 : decode cX1_rise 80 = .ok (.i2l, 1) := by decide +kernel
theorem dX1_rise_81 : decode cX1_rise 81 = .ok (.lmul, 1) := by decide +kernel
theorem dX1_rise_82 : decode cX1_rise 82 = .ok (.ldc2_w 115, 3) := by decide +kernel
theorem dX1_rise_85 : decode cX1_rise 85 = .ok (.ldiv, 1) := by decide +kernel
theorem dX1_rise_86 : decode cX1_rise 86 = .ok (.l2i, 1) := by decide +kernel
theorem dX1_rise_87 : decode cX1_rise 87 = .ok (.iastore, 1) := by decide +kernel
theorem dX1_rise_88 : decode cX1_rise 88 = .ok (.aload_n 0, 1) := by decide +kernel
theorem dX1_rise_89 : decode cX1_rise 89 = .ok (.getfield 45, 3) := by decide +kernel
theorem dX1_rise_92 : decode cX1_rise 92 = .ok (.iload_n 2, 1) := by decide +kernel
theorem dX1_rise_93 : decode cX1_rise 93 = .ok (.aload_n 0, 1) := by decide +kernel
theorem dX1_rise_94 : decode cX1_rise 94 = .ok (.getfield 45, 3) := by decide +kernel
theorem dX1_rise_97 : decode cX1_rise 97 = .ok (.iload_n 2, 1) := by decide +kernel
theorem dX1_rise_98 : decode cX1_rise 98 = .ok (.iaload, 1) := by decide +kernel
theorem dX1_rise_99 : decode cX1_rise 99 = .ok (.aload_n 0, 1) := by decide +kernel
theorem dX1_rise_100 : decode cX1_rise 100 = .ok (.getfield 39, 3) := by decide +kernel
theorem dX1_rise_103 : decode cX1_rise 103 = .ok (.iload_n 2, 1) := by decide +kernel
theorem dX1_rise_104 : decode cX1_rise 104 = .ok (.iaload, 1) := by decide +kernel
theorem dX1_rise_105 : decode cX1_rise 105 = .ok (.invokestatic 94, 3) := by decide +kernel
theorem dX1_rise_108 : decode cX1_rise 108 = .ok (.iastore, 1) := by decide +kernel
theorem dX1_rise_109 : decode cX1_rise 109 = .ok (.iinc 2 1, 3) := by decide +kernel
theorem dX1_rise_112 : decode cX1_rise 112 = .ok (.goto (-110), 3) := by decide +kernel
theorem dX1_rise_115 : decode cX1_rise 115 = .ok (.return_, 1) := by decide +kernel
theorem dX1_driftsBeyond_0 : decode cX1_driftsBeyond 0 = .ok (.iconst 0, 1) := by decide +kernel
theorem dX1_driftsBeyond_1 : decode cX1_driftsBeyond 1 = .ok (.istore_n 2, 1) := by decide +kernel
theorem dX1_driftsBeyond_2 : decode cX1_driftsBeyond 2 = .ok (.iload_n 2, 1) := by decide +kernel
theorem dX1_driftsBeyond_3 : decode cX1_driftsBeyond 3 = .ok (.aload_n 0, 1) := by decide +kernel
theorem dX1_driftsBeyond_4 : decode cX1_driftsBeyond 4 = .ok (.getfield 51, 3) := by decide +kernel
theorem dX1_driftsBeyond_7 : decode cX1_driftsBeyond 7 = .ok (.if_icmp .ge 21, 3) := by decide +kernel
theorem dX1_driftsBeyond_10 : decode cX1_driftsBeyond 10 = .ok (.aload_n 0, 1) := by decide +kernel
theorem dX1_driftsBeyond_11 : decode cX1_driftsBeyond 11 = .ok (.getfield 42, 3) := by decide +kernel
theorem dX1_driftsBeyond_14 : decode cX1_driftsBeyond 14 = .ok (.iload_n 2, 1) := by decide +kernel
theorem dX1_driftsBeyond_15 : decode cX1_driftsBeyond 15 = .ok (.iaload, 1) := by decide +kernel
theorem dX1_driftsBeyond_16 : decode cX1_driftsBeyond 16 = .ok (.iload_n 1, 1) := by decide +kernel
theorem dX1_driftsBeyond_17 : decode cX1_driftsBeyond 17 = .ok (.if_icmp .le 5, 3) := by decide +kernel
theorem dX1_driftsBeyond_20 : decode cX1_driftsBeyond 20 = .ok (.iconst 1, 1) := by decide +kernel
theorem dX1_driftsBeyond_21 : decode cX1_driftsBeyond 21 = .ok (.ireturn, 1) := by decide +kernel
theorem dX1_driftsBeyond_22 : decode cX1_driftsBeyond 22 = .ok (.iinc 2 1, 3) := by decide +kernel
theorem dX1_driftsBeyond_25 : decode cX1_driftsBeyond 25 = .ok (.goto (-23), 3) := by decide +kernel
theorem dX1_driftsBeyond_28 : decode cX1_driftsBeyond 28 = .ok (.iconst 0, 1) := by decide +kernel
theorem dX1_driftsBeyond_29 : decode cX1_driftsBeyond 29 = .ok (.ireturn, 1) := by decide +kernel
theorem dX1_greatestHeightNow_0 : decode cX1_greatestHeightNow 0 = .ok (.iconst 0, 1) := by decide +kernel
theorem dX1_greatestHeightNow_1 : decode cX1_greatestHeightNow 1 = .ok (.istore_n 1, 1) := by decide +kernel
theorem dX1_greatestHeightNow_2 : decode cX1_greatestHeightNow 2 = .ok (.iconst 0, 1) := by decide +kernel
theorem dX1_greatestHeightNow_3 : decode cX1_greatestHeightNow 3 = .ok (.istore_n 2, 1) := by decide +kernel
theorem dX1_greatestHeightNow_4 : decode cX1_greatestHeightNow 4 = .ok (.iload_n 2, 1) := by decide +kernel
theorem dX1_greatestHeightNow_5 : decode cX1_greatestHeightNow 5 = .ok (.aload_n 0, 1) := by decide +kernel
theorem dX1_greatestHeightNow_6 : decode cX1_greatestHeightNow 6 = .ok (.getfield 51, 3) := by decide +kernel
theorem dX1_greatestHeightNow_9 : decode cX1_greatestHeightNow 9 = .ok (.if_icmp .ge 20, 3) := by decide +kernel
theorem dX1_greatestHeightNow_12 : decode cX1_greatestHeightNow 12 = .ok (.iload_n 1, 1) := by decide +kernel
theorem dX1_greatestHeightNow_13 : decode cX1_greatestHeightNow 13 = .ok (.aload_n 0, 1) := by decide +kernel
theorem dX1_greatestHeightNow_14 : decode cX1_greatestHeightNow 14 = .ok (.getfield 39, 3) := by decide +kernel
theorem dX1_greatestHeightNow_17 : decode cX1_greatestHeightNow 17 = .ok (.iload_n 2, 1) := by decide +kernel
theorem dX1_greatestHeightNow_18 : decode cX1_greatestHeightNow 18 = .ok (.iaload, 1) := by decide +kernel
theorem dX1_greatestHeightNow_19 : decode cX1_greatestHeightNow 19 = .ok (.invokestatic 94, 3) := by decide +kernel
theorem dX1_greatestHeightNow_22 : decode cX1_greatestHeightNow 22 = .ok (.istore_n 1, 1) := by decide +kernel
theorem dX1_greatestHeightNow_23 : decode cX1_greatestHeightNow 23 = .ok (.iinc 2 1, 3) := by decide +kernel
theorem dX1_greatestHeightNow_26 : decode cX1_greatestHeightNow 26 = .ok (.goto (-22), 3) := by decide +kernel
theorem dX1_greatestHeightNow_29 : decode cX1_greatestHeightNow 29 = .ok (.iload_n 1, 1) := by decide +kernel
theorem dX1_greatestHeightNow_30 : decode cX1_greatestHeightNow 30 = .ok (.ireturn, 1) := by decide +kernel
theorem dX1_demandAt_0 : decode cX1_demandAt 0 = .ok (.aload_n 0, 1) := by decide +kernel
theorem dX1_demandAt_1 : decode cX1_demandAt 1 = .ok (.getfield 33, 3) := by decide +kernel
theorem dX1_demandAt_4 : decode cX1_demandAt 4 = .ok (.iload_n 1, 1) := by decide +kernel
theorem dX1_demandAt_5 : decode cX1_demandAt 5 = .ok (.iaload, 1) := by decide +kernel
theorem dX1_demandAt_6 : decode cX1_demandAt 6 = .ok (.aload_n 0, 1) := by decide +kernel
theorem dX1_demandAt_7 : decode cX1_demandAt 7 = .ok (.getfield 24, 3) := by decide +kernel
theorem dX1_demandAt_10 : decode cX1_demandAt 10 = .ok (.iload_n 1, 1) := by decide +kernel
theorem dX1_demandAt_11 : decode cX1_demandAt 11 = .ok (.iconst 0, 1) := by decide +kernel
theorem dX1_demandAt_12 : decode cX1_demandAt 12 = .ok (.invokevirtual 87, 3) := by decide +kernel
theorem dX1_demandAt_15 : decode cX1_demandAt 15 = .ok (.imul, 1) := by decide +kernel
theorem dX1_demandAt_16 : decode cX1_demandAt 16 = .ok (.ireturn, 1) := by decide +kernel
theorem dX1_commandAt_0 : decode cX1_commandAt 0 = .ok (.iload_n 1, 1) := by decide +kernel
theorem dX1_commandAt_1 : decode cX1_commandAt 1 = .ok (.ifCond .ge 7, 3) := by decide +kernel
theorem dX1_commandAt_4 : decode cX1_commandAt 4 = .ok (.iconst 0, 1) := by decide +kernel
theorem dX1_commandAt_5 : decode cX1_commandAt 5 = .ok (.goto 14, 3) := by decide +kernel
theorem dX1_commandAt_8 : decode cX1_commandAt 8 = .ok (.aload_n 0, 1) := by decide +kernel
theorem dX1_commandAt_9 : decode cX1_commandAt 9 = .ok (.getfield 48, 3) := by decide +kernel
theorem dX1_commandAt_12 : decode cX1_commandAt 12 = .ok (.iload_n 1, 1) := by decide +kernel
theorem dX1_commandAt_13 : decode cX1_commandAt 13 = .ok (.invokestatic 77, 3) := by decide +kernel
theorem dX1_commandAt_16 : decode cX1_commandAt 16 = .ok (.iload_n 2, 1) := by decide +kernel
theorem dX1_commandAt_17 : decode cX1_commandAt 17 = .ok (.iadd, 1) := by decide +kernel
theorem dX1_commandAt_18 : decode cX1_commandAt 18 = .ok (.iaload, 1) := by decide +kernel
theorem dX1_commandAt_19 : decode cX1_commandAt 19 = .ok (.ireturn, 1) := by decide +kernel
theorem dX1_rowOf_0 : decode cX1_rowOf 0 = .ok (.iload_n 0, 1) := by decide +kernel
theorem dX1_rowOf_1 : decode cX1_rowOf 1 = .ok (.bipush 51, 2) := by decide +kernel
theorem dX1_rowOf_3 : decode cX1_rowOf 3 = .ok (.invokestatic 117, 3) := by decide +kernel
theorem dX1_rowOf_6 : decode cX1_rowOf 6 = .ok (.bipush 12, 2) := by decide +kernel
theorem dX1_rowOf_8 : decode cX1_rowOf 8 = .ok (.imul, 1) := by decide +kernel
theorem dX1_rowOf_9 : decode cX1_rowOf 9 = .ok (.ireturn, 1) := by decide +kernel
theorem dX2_init_0 : decode cX2_init 0 = .ok (.aload_n 0, 1) := by decide +kernel
theorem dX2_init_1 : decode cX2_init 1 = .ok (.invokespecial 3, 3) := by decide +kernel
theorem dX2_init_4 : decode cX2_init 4 = .ok (.aload_n 0, 1) := by decide +kernel
theorem dX2_init_5 : decode cX2_init 5 = .ok (.new 9, 3) := by decide +kernel
theorem dX2_init_8 : decode cX2_init 8 = .ok (.dup, 1) := by decide +kernel
theorem dX2_init_9 : decode cX2_init 9 = .ok (.invokespecial 11, 3) := by decide +kernel
theorem dX2_init_12 : decode cX2_init 12 = .ok (.putfield 12, 3) := by decide +kernel
theorem dX2_init_15 : decode cX2_init 15 = .ok (.aload_n 0, 1) := by decide +kernel
theorem dX2_init_16 : decode cX2_init 16 = .ok (.bipush 80, 2) := by decide +kernel
theorem dX2_init_18 : decode cX2_init 18 = .ok (.newarray .char, 2) := by decide +kernel
theorem dX2_init_20 : decode cX2_init 20 = .ok (.putfield 18, 3) := by decide +kernel
theorem dX2_init_23 : decode cX2_init 23 = .ok (.aload_n 0, 1) := by decide +kernel
theorem dX2_init_24 : decode cX2_init 24 = .ok (.iconst 0, 1) := by decide +kernel
theorem dX2_init_25 : decode cX2_init 25 = .ok (.putfield 22, 3) := by decide +kernel
theorem dX2_init_28 : decode cX2_init 28 = .ok (.aload_n 0, 1) := by decide +kernel
theorem dX2_init_29 : decode cX2_init 29 = .ok (.iconst 0, 1) := by decide +kernel
theorem dX2_init_30 : decode cX2_init 30 = .ok (.putfield 26, 3) := by decide +kernel
theorem dX2_init_33 : decode cX2_init 33 = .ok (.aload_n 0, 1) := by decide +kernel
theorem dX2_init_34 : decode cX2_init 34 = .ok (.iconst 0, 1) := by decide +kernel
theorem dX2_init_35 : decode cX2_init 35 = .ok (.putfield 29, 3) := by decide +kernel
theorem dX2_init_38 : decode cX2_init 38 = .ok (.aload_n 0, 1) := by decide +kernel
theorem dX2_init_39 : decode cX2_init 39 = .ok (.iconst 0, 1) := by decide +kernel
theorem dX2_init_40 : decode cX2_init 40 = .ok (.putfield 32, 3) := by decide +kernel
theorem dX2_init_43 : decode cX2_init 43 = .ok (.aload_n 0, 1) := by decide +kernel
theorem dX2_init_44 : decode cX2_init 44 = .ok (.iconst (-1), 1) := by decide +kernel
theorem dX2_init_45 : decode cX2_init 45 = .ok (.putfield 35, 3) := by decide +kernel
theorem dX2_init_48 : decode cX2_init 48 = .ok (.return_, 1) := by decide +kernel
theorem dX2_append_0 : decode cX2_append 0 = .ok (.aload_n 0, 1) := by decide +kernel
theorem dX2_append_1 : decode cX2_append 1 = .ok (.getfield 22, 3) := by decide +kernel
theorem dX2_append_4 : decode cX2_append 4 = .ok (.bipush 80, 2) := by decide +kernel
theorem dX2_append_6 : decode cX2_append 6 = .ok (.if_icmp .lt 6, 3) := by decide +kernel
theorem dX2_append_9 : decode cX2_append 9 = .ok (.bipush (-4), 2) := by decide +kernel
theorem dX2_append_11 : decode cX2_append 11 = .ok (.ireturn, 1) := by decide +kernel
theorem dX2_append_12 : decode cX2_append 12 = .ok (.aload_n 0, 1) := by decide +kernel
theorem dX2_append_13 : decode cX2_append 13 = .ok (.getfield 18, 3) := by decide +kernel
theorem dX2_append_16 : decode cX2_append 16 = .ok (.aload_n 0, 1) := by decide +kernel
theorem dX2_append_17 : decode cX2_append 17 = .ok (.getfield 22, 3) := by decide +kernel
theorem dX2_append_20 : decode cX2_append 20 = .ok (.iload_n 1, 1) := by decide +kernel
theorem dX2_append_21 : decode cX2_append 21 = .ok (.castore, 1) := by decide +kernel
theorem dX2_append_22 : decode cX2_append 22 = .ok (.aload_n 0, 1) := by decide +kernel
theorem dX2_append_23 : decode cX2_append 23 = .ok (.dup, 1) := by decide +kernel
theorem dX2_append_24 : decode cX2_append 24 = .ok (.getfield 22, 3) := by decide +kernel
theorem dX2_append_27 : decode cX2_append 27 = .ok (.iconst 1, 1) := by decide +kernel
theorem dX2_append_28 : decode cX2_append 28 = .ok (.iadd, 1) := by decide +kernel
theorem dX2_append_29 : decode cX2_append 29 = .ok (.putfield 22, 3) := by decide +kernel
theorem dX2_append_32 : decode cX2_append 32 = .ok (.aload_n 0, 1) := by decide +kernel
theorem dX2_append_33 : decode cX2_append 33 = .ok (.getfield 22, 3) := by decide +kernel
theorem dX2_append_36 : decode cX2_append 36 = .ok (.ireturn, 1) := by decide +kernel
theorem dX2_findFault_0 : decode cX2_findFault 0 = .ok (.aload_n 0, 1) := by decide +kernel
theorem dX2_findFault_1 : decode cX2_findFault 1 = .ok (.getfield 12, 3) := by decide +kernel
theorem dX2_findFault_4 : decode cX2_findFault 4 = .ok (.iconst 0, 1) := by decide +kernel
theorem dX2_findFault_5 : decode cX2_findFault 5 = .ok (.putfield 38, 3) := by decide +kernel
theorem dX2_findFault_8 : decode cX2_findFault 8 = .ok (.aload_n 0, 1) := by decide +kernel
theorem dX2_findFault_9 : decode cX2_findFault 9 = .ok (.iconst 0, 1) := by decide +kernel
theorem dX2_findFault_10 : decode cX2_findFault 10 = .ok (.putfield 26, 3) := by decide +kernel
theorem dX2_findFault_13 : decode cX2_findFault 13 = .ok (.aload_n 0, 1) := by decide +kernel
theorem dX2_findFault_14 : decode cX2_findFault 14 = .ok (.iconst (-1), 1) := by decide +kernel
theorem dX2_findFault_15 : decode cX2_findFault 15 = .ok (.putfield 35, 3) := by decide +kernel
theorem dX2_findFault_18 : decode cX2_findFault 18 = .ok (.iconst 0, 1) := by decide +kernel
theorem dX2_findFault_19 : decode cX2_findFault 19 = .ok (.istore_n 1, 1) := by decide +kernel
theorem dX2_findFault_20 : decode cX2_findFault 20 = .ok (.iload_n 1, 1) := by decide +kernel
theorem dX2_findFault_21 : decode cX2_findFault 21 = .ok (.aload_n 0, 1) := by decide +kernel
theorem dX2_findFault_22 : decode cX2_findFault 22 = .ok (.getfield 22, 3) := by decide +kernel
theorem dX2_findFault_25 : decode cX2_findFault 25 = .ok (.if_icmp .ge 24, 3) := by decide +kernel
theorem dX2_findFault_28 : decode cX2_findFault 28 = .ok (.aload_n 0, 1) := by decide +kernel
theorem dX2_findFault_29 : decode cX2_findFault 29 = .ok (.aload_n 0, 1) := by decide +kernel
theorem dX2_findFault_30 : decode cX2_findFault 30 = .ok (.getfield 18, 3) := by decide +kernel
theorem dX2_findFault_33 : decode cX2_findFault 33 = .ok (.iload_n 1, 1) := by decide +kernel
theorem dX2_findFault_34 : decode cX2_findFault 34 = .ok (.caload, 1) := by decide +kernel
theorem dX2_findFault_35 : decode cX2_findFault 35 = .ok (.invokevirtual 41, 3) := by decide +kernel
theorem dX2_findFault_38 : decode cX2_findFault 38 = .ok (.ifCond .ne 5, 3) := by decide +kernel
theorem dX2_findFault_41 : decode cX2_findFault 41 = .ok (.iload_n 1, 1) := by decide +kernel
theorem dX2_findFault_42 : decode cX2_findFault 42 = .ok (.ireturn, 1) := by decide +kernel
theorem dX2_findFault_43 : decode cX2_findFault 43 = .ok (.iinc 1 1, 3) := by decide +kernel
theorem dX2_findFault_46 : decode cX2_findFault 46 = .ok (.goto (-26), 3) := by decide +kernel
theorem dX2_findFault_49 : decode cX2_findFault 49 = .ok (.aload_n 0, 1) := by decide +kernel
theorem dX2_findFault_50 : decode cX2_findFault 50 = .ok (.invokevirtual 45, 3) := by decide +kernel
theorem dX2_findFault_53 : decode cX2_findFault 53 = .ok (.ifCond .eq 8, 3) := by decide +kernel
theorem dX2_findFault_56 : decode cX2_findFault 56 = .ok (.bipush (-6), 2) := by decide +kernel
theorem dX2_findFault_58 : decode cX2_findFault 58 = .ok (.goto 7, 3) := by decide +kernel
theorem dX2_findFault_61 : decode cX2_findFault 61 = .ok (.aload_n 0, 1) := by decide +kernel
theorem dX2_findFault_62 : decode cX2_findFault 62 = .ok (.getfield 22, 3) := by decide +kernel
theorem dX2_findFault_65 : decode cX2_findFault 65 = .ok (.ireturn, 1) := by decide +kernel
theorem dX2_accepts_0 : decode cX2_accepts 0 = .ok (.aload_n 0, 1) := by decide +kernel
theorem dX2_accepts_1 : decode cX2_accepts 1 = .ok (.getfield 26, 3) := by decide +kernel
theorem dX2_accepts_4 : decode cX2_accepts 4 = .ok (.lookupswitch 69 #[(0, 28), (1, 50)], 28) := by decide +kernel
theorem dX2_accepts_32 : decode cX2_accepts 32 = .ok (.iload_n 1, 1) := by decide +kernel
theorem dX2_accepts_33 : decode cX2_accepts 33 = .ok (.bipush 58, 2) := by decide +kernel
theorem dX2_accepts_35 : decode cX2_accepts 35 = .ok (.if_icmp .ne 10, 3) := by decide +kernel
theorem dX2_accepts_38 : decode cX2_accepts 38 = .ok (.aload_n 0, 1) := by decide +kernel
theorem dX2_accepts_39 : decode cX2_accepts 39 = .ok (.invokevirtual 49, 3) := by decide +kernel
theorem dX2_accepts_42 : decode cX2_accepts 42 = .ok (.goto 11, 3) := by decide +kernel
theorem dX2_accepts_45 : decode cX2_accepts 45 = .ok (.aload_n 0, 1) := by decide +kernel
theorem dX2_accepts_46 : decode cX2_accepts 46 = .ok (.sipush 9999, 3) := by decide +kernel
theorem dX2_accepts_49 : decode cX2_accepts 49 = .ok (.iload_n 1, 1) := by decide +kernel
