theorem dX0_init_0 : decode cX0_init 0 = .ok (.aload_n 0, 1) := by decide +kernel
theorem dX0_init_1 : decode cX0_init 1 = .ok (.invokespecial 3, 3) := by decide +kernel
theorem dX0_init_4 : decode cX0_init 4 = .ok (.aload_n 0, 1) := by decide +kernel
theorem dX0_init_5 : decode cX0_init 5 = .ok (.bipush 60, 2) := by decide +kernel
theorem dX0_init_7 : decode cX0_init 7 = .ok (.newarray .int, 2) := by decide +kernel
theorem dX0_init_9 : decode cX0_init 9 = .ok (.putfield 9, 3) := by decide +kernel
theorem dX0_init_12 : decode cX0_init 12 = .ok (.aload_n 0, 1) := by decide +kernel
theorem dX0_init_13 : decode cX0_init 13 = .ok (.bipush 60, 2) := by decide +kernel
theorem dX0_init_15 : decode cX0_init 15 = .ok (.newarray .int, 2) := by decide +kernel
theorem dX0_init_17 : decode cX0_init 17 = .ok (.putfield 15, 3) := by decide +kernel
theorem dX0_init_20 : decode cX0_init 20 = .ok (.aload_n 0, 1) := by decide +kernel
theorem dX0_init_21 : decode cX0_init 21 = .ok (.bipush 60, 2) := by decide +kernel
theorem dX0_init_23 : decode cX0_init 23 = .ok (.newarray .int, 2) := by decide +kernel
theorem dX0_init_25 : decode cX0_init 25 = .ok (.putfield 18, 3) := by decide +kernel
theorem dX0_init_28 : decode cX0_init 28 = .ok (.aload_n 0, 1) := by decide +kernel
theorem dX0_init_29 : decode cX0_init 29 = .ok (.iconst 0, 1) := by decide +kernel
theorem dX0_init_30 : decode cX0_init 30 = .ok (.putfield 21, 3) := by decide +kernel
theorem dX0_init_33 : decode cX0_init 33 = .ok (.return_, 1) := by decide +kernel
theorem dX0_has_0 : decode cX0_has 0 = .ok (.iload_n 1, 1) := by decide +kernel
theorem dX0_has_1 : decode cX0_has 1 = .ok (.iconst 0, 1) := by decide +kernel
theorem dX0_has_2 : decode cX0_has 2 = .ok (.aload_n 0, 1) := by decide +kernel
theorem dX0_has_3 : decode cX0_has 3 = .ok (.getfield 21, 3) := by decide +kernel
theorem dX0_has_6 : decode cX0_has 6 = .ok (.iconst 1, 1) := by decide +kernel
theorem dX0_has_7 : decode cX0_has 7 = .ok (.isub, 1) := by decide +kernel
theorem dX0_has_8 : decode cX0_has 8 = .ok (.invokestatic 25, 3) := by decide +kernel
theorem dX0_has_11 : decode cX0_has 11 = .ok (.ireturn, 1) := by decide +kernel
theorem dX0_copy_0 : decode cX0_copy 0 = .ok (.aload_n 0, 1) := by decide +kernel
theorem dX0_copy_1 : decode cX0_copy 1 = .ok (.aload_n 1, 1) := by decide +kernel
theorem dX0_copy_2 : decode cX0_copy 2 = .ok (.getfield 21, 3) := by decide +kernel
theorem dX0_copy_5 : decode cX0_copy 5 = .ok (.putfield 21, 3) := by decide +kernel
theorem dX0_copy_8 : decode cX0_copy 8 = .ok (.aload_n 1, 1) := by decide +kernel
theorem dX0_copy_9 : decode cX0_copy 9 = .ok (.getfield 9, 3) := by decide +kernel
theorem dX0_copy_12 : decode cX0_copy 12 = .ok (.aload_n 0, 1) := by decide +kernel
theorem dX0_copy_13 : decode cX0_copy 13 = .ok (.getfield 9, 3) := by decide +kernel
theorem dX0_copy_16 : decode cX0_copy 16 = .ok (.invokestatic 29, 3) := by decide +kernel
theorem dX0_copy_19 : decode cX0_copy 19 = .ok (.aload_n 1, 1) := by decide +kernel
theorem dX0_copy_20 : decode cX0_copy 20 = .ok (.getfield 15, 3) := by decide +kernel
theorem dX0_copy_23 : decode cX0_copy 23 = .ok (.aload_n 0, 1) := by decide +kernel
theorem dX0_copy_24 : decode cX0_copy 24 = .ok (.getfield 15, 3) := by decide +kernel
theorem dX0_copy_27 : decode cX0_copy 27 = .ok (.invokestatic 29, 3) := by decide +kernel
theorem dX0_copy_30 : decode cX0_copy 30 = .ok (.aload_n 1, 1) := by decide +kernel
theorem dX0_copy_31 : decode cX0_copy 31 = .ok (.getfield 18, 3) := by decide +kernel
theorem dX0_copy_34 : decode cX0_copy 34 = .ok (.aload_n 0, 1) := by decide +kernel
theorem dX0_copy_35 : decode cX0_copy 35 = .ok (.getfield 18, 3) := by decide +kernel
theorem dX0_copy_38 : decode cX0_copy 38 = .ok (.invokestatic 29, 3) := by decide +kernel
theorem dX0_copy_41 : decode cX0_copy 41 = .ok (.return_, 1) := by decide +kernel
theorem dX0_insert_0 : decode cX0_insert 0 = .ok (.aload_n 0, 1) := by decide +kernel
theorem dX0_insert_1 : decode cX0_insert 1 = .ok (.getfield 21, 3) := by decide +kernel
theorem dX0_insert_4 : decode cX0_insert 4 = .ok (.bipush 60, 2) := by decide +kernel
theorem dX0_insert_6 : decode cX0_insert 6 = .ok (.if_icmp .lt 6, 3) := by decide +kernel
theorem dX0_insert_9 : decode cX0_insert 9 = .ok (.bipush (-4), 2) := by decide +kernel
theorem dX0_insert_11 : decode cX0_insert 11 = .ok (.ireturn, 1) := by decide +kernel
theorem dX0_insert_12 : decode cX0_insert 12 = .ok (.aload_n 0, 1) := by decide +kernel
theorem dX0_insert_13 : decode cX0_insert 13 = .ok (.iload_n 1, 1) := by decide +kernel
theorem dX0_insert_14 : decode cX0_insert 14 = .ok (.iconst 1, 1) := by decide +kernel
theorem dX0_insert_15 : decode cX0_insert 15 = .ok (.iadd, 1) := by decide +kernel
theorem dX0_insert_16 : decode cX0_insert 16 = .ok (.invokevirtual 33, 3) := by decide +kernel
theorem dX0_insert_19 : decode cX0_insert 19 = .ok (.istore 4, 2) := by decide +kernel
theorem dX0_insert_21 : decode cX0_insert 21 = .ok (.iload 4, 2) := by decide +kernel
theorem dX0_insert_23 : decode cX0_insert 23 = .ok (.bipush (-6), 2) := by decide +kernel
theorem dX0_insert_25 : decode cX0_insert 25 = .ok (.if_icmp .ne 9, 3) := by decide +kernel
theorem dX0_insert_28 : decode cX0_insert 28 = .ok (.aload_n 0, 1) := by decide +kernel
theorem dX0_insert_29 : decode cX0_insert 29 = .ok (.getfield 21, 3) := by decide +kernel
theorem dX0_insert_32 : decode cX0_insert 32 = .ok (.istore 4, 2) := by decide +kernel
theorem dX0_insert_34 : decode cX0_insert 34 = .ok (.aload_n 0, 1) := by decide +kernel
theorem dX0_insert_35 : decode cX0_insert 35 = .ok (.iload 4, 2) := by decide +kernel
theorem dX0_insert_37 : decode cX0_insert 37 = .ok (.iload 4, 2) := by decide +kernel
theorem dX0_insert_39 : decode cX0_insert 39 = .ok (.iconst 1, 1) := by decide +kernel
theorem dX0_insert_40 : decode cX0_insert 40 = .ok (.iadd, 1) := by decide +kernel
theorem dX0_insert_41 : decode cX0_insert 41 = .ok (.aload_n 0, 1) := by decide +kernel
theorem dX0_insert_42 : decode cX0_insert 42 = .ok (.getfield 21, 3) := by decide +kernel
theorem dX0_insert_45 : decode cX0_insert 45 = .ok (.iload 4, 2) := by decide +kernel
theorem dX0_insert_47 : decode cX0_insert 47 = .ok (.isub, 1) := by decide +kernel
theorem dX0_insert_48 : decode cX0_insert 48 = .ok (.invokevirtual 37, 3) := by decide +kernel
theorem dX0_insert_51 : decode cX0_insert 51 = .ok (.aload_n 0, 1) := by decide +kernel
theorem dX0_insert_52 : decode cX0_insert 52 = .ok (.getfield 9, 3) := by decide +kernel
theorem dX0_insert_55 : decode cX0_insert 55 = .ok (.iload 4, 2) := by decide +kernel
theorem dX0_insert_57 : decode cX0_insert 57 = .ok (.iload_n 1, 1) := by decide +kernel
theorem dX0_insert_58 : decode cX0_insert 58 = .ok (.iastore, 1) := by decide +kernel
theorem dX0_insert_59 : decode cX0_insert 59 = .ok (.aload_n 0, 1) := by decide +kernel
theorem dX0_insert_60 : decode cX0_insert 60 = .ok (.getfield 15, 3) := by decide +kernel
theorem dX0_insert_63 : decode cX0_insert 63 = .ok (.iload 4, 2) := by decide +kernel
theorem dX0_insert_65 : decode cX0_insert 65 = .ok (.iload_n 2, 1) := by decide +kernel
theorem dX0_insert_66 : decode cX0_insert 66 = .ok (.iastore, 1) := by decide +kernel
theorem dX0_insert_67 : decode cX0_insert 67 = .ok (.aload_n 0, 1) := by decide +kernel
theorem dX0_insert_68 : decode cX0_insert 68 = .ok (.getfield 18, 3) := by decide +kernel
theorem dX0_insert_71 : decode cX0_insert 71 = .ok (.iload 4, 2) := by decide +kernel
theorem dX0_insert_73 : decode cX0_insert 73 = .ok (.iload_n 3, 1) := by decide +kernel
theorem dX0_insert_74 : decode cX0_insert 74 = .ok (.iastore, 1) := by decide +kernel
theorem dX0_insert_75 : decode cX0_insert 75 = .ok (.aload_n 0, 1) := by decide +kernel
theorem dX0_insert_76 : decode cX0_insert 76 = .ok (.dup, 1) := by decide +kernel
theorem dX0_insert_77 : decode cX0_insert 77 = .ok (.getfield 21, 3) := by decide +kernel
theorem dX0_insert_80 : decode cX0_insert 80 = .ok (.iconst 1, 1) := by decide +kernel
theorem dX0_insert_81 : decode cX0_insert 81 = .ok (.iadd, 1) := by decide +kernel
theorem dX0_insert_82 : decode cX0_insert 82 = .ok (.putfield 21, 3) := by decide +kernel
theorem dX0_insert_85 : decode cX0_insert 85 = .ok (.iload 4, 2) := by decide +kernel
theorem dX0_insert_87 : decode cX0_insert 87 = .ok (.ireturn, 1) := by decide +kernel
theorem dX0_takeOut_0 : decode cX0_takeOut 0 = .ok (.aload_n 0, 1) := by decide +kernel
theorem dX0_takeOut_1 : decode cX0_takeOut 1 = .ok (.iload_n 1, 1) := by decide +kernel
theorem dX0_takeOut_2 : decode cX0_takeOut 2 = .ok (.iconst 1, 1) := by decide +kernel
theorem dX0_takeOut_3 : decode cX0_takeOut 3 = .ok (.iadd, 1) := by decide +kernel
theorem dX0_takeOut_4 : decode cX0_takeOut 4 = .ok (.iload_n 1, 1) := by decide +kernel
theorem dX0_takeOut_5 : decode cX0_takeOut 5 = .ok (.aload_n 0, 1) := by decide +kernel
theorem dX0_takeOut_6 : decode cX0_takeOut 6 = .ok (.getfield 21, 3) := by decide +kernel
theorem dX0_takeOut_9 : decode cX0_takeOut 9 = .ok (.iload_n 1, 1) := by decide +kernel
theorem dX0_takeOut_10 : decode cX0_takeOut 10 = .ok (.isub, 1) := by decide +kernel
theorem dX0_takeOut_11 : decode cX0_takeOut 11 = .ok (.iconst 1, 1) := by decide +kernel
theorem dX0_takeOut_12 : decode cX0_takeOut 12 = .ok (.isub, 1) := by decide +kernel
theorem dX0_takeOut_13 : decode cX0_takeOut 13 = .ok (.invokevirtual 37, 3) := by decide +kernel
theorem dX0_takeOut_16 : decode cX0_takeOut 16 = .ok (.aload_n 0, 1) := by decide +kernel
theorem dX0_takeOut_17 : decode cX0_takeOut 17 = .ok (.dup, 1) := by decide +kernel
theorem dX0_takeOut_18 : decode cX0_takeOut 18 = .ok (.getfield 21, 3) := by decide +kernel
theorem dX0_takeOut_21 : decode cX0_takeOut 21 = .ok (.iconst 1, 1) := by decide +kernel
theorem dX0_takeOut_22 : decode cX0_takeOut 22 = .ok (.isub, 1) := by decide +kernel
theorem dX0_takeOut_23 : decode cX0_takeOut 23 = .ok (.putfield 21, 3) := by decide +kernel
theorem dX0_takeOut_26 : decode cX0_takeOut 26 = .ok (.return_, 1) := by decide +kernel
theorem dX0_postpone_0 : decode cX0_postpone 0 = .ok (.aload_n 0, 1) := by decide +kernel
theorem dX0_postpone_1 : decode cX0_postpone 1 = .ok (.getfield 9, 3) := by decide +kernel
theorem dX0_postpone_4 : decode cX0_postpone 4 = .ok (.iload_n 1, 1) := by decide +kernel
theorem dX0_postpone_5 : decode cX0_postpone 5 = .ok (.iaload, 1) := by decide +kernel
theorem dX0_postpone_6 : decode cX0_postpone 6 = .ok (.iload_n 2, 1) := by decide +kernel
theorem dX0_postpone_7 : decode cX0_postpone 7 = .ok (.iadd, 1) := by decide +kernel
theorem dX0_postpone_8 : decode cX0_postpone 8 = .ok (.istore_n 3, 1) := by decide +kernel
theorem dX0_postpone_9 : decode cX0_postpone 9 = .ok (.aload_n 0, 1) := by decide +kernel
theorem dX0_postpone_10 : decode cX0_postpone 10 = .ok (.getfield 15, 3) := by decide +kernel
theorem dX0_postpone_13 : decode cX0_postpone 13 = .ok (.iload_n 1, 1) := by decide +kernel
theorem dX0_postpone_14 : decode cX0_postpone 14 = .ok (.iaload, 1) := by decide +kernel
theorem dX0_postpone_15 : decode cX0_postpone 15 = .ok (.istore 4, 2) := by decide +kernel
theorem dX0_postpone_17 : decode cX0_postpone 17 = .ok (.aload_n 0, 1) := by decide +kernel
theorem dX0_postpone_18 : decode cX0_postpone 18 = .ok (.getfield 18, 3) := by decide +kernel
theorem dX0_postpone_21 : decode cX0_postpone 21 = .ok (.iload_n 1, 1) := by decide +kernel
theorem dX0_postpone_22 : decode cX0_postpone 22 = .ok (.iaload, 1) := by decide +kernel
theorem dX0_postpone_23 : decode cX0_postpone 23 = .ok (.istore 5, 2) := by decide +kernel
theorem dX0_postpone_25 : decode cX0_postpone 25 = .ok (.aload_n 0, 1) := by decide +kernel
theorem dX0_postpone_26 : decode cX0_postpone 26 = .ok (.iload_n 1, 1) := by decide +kernel
theorem dX0_postpone_27 : decode cX0_postpone 27 = .ok (.invokevirtual 41, 3) := by decide +kernel
theorem dX0_postpone_30 : decode cX0_postpone 30 = .ok (.aload_n 0, 1) := by decide +kernel
theorem dX0_postpone_31 : decode cX0_postpone 31 = .ok (.iload_n 3, 1) := by decide +kernel
theorem dX0_postpone_32 : decode cX0_postpone 32 = .ok (.iload 4, 2) := by decide +kernel
theorem dX0_postpone_34 : decode cX0_postpone 34 = .ok (.iload 5, 2) := by decide +kernel
theorem dX0_postpone_36 : decode cX0_postpone 36 = .ok (.invokevirtual 45, 3) := by decide +kernel
theorem dX0_postpone_39 : decode cX0_postpone 39 = .ok (.ireturn, 1) := by decide +kernel
theorem dX0_next_0 : decode cX0_next 0 = .ok (.iconst 0, 1) := by decide +kernel
theorem dX0_next_1 : decode cX0_next 1 = .ok (.istore_n 2, 1) := by decide +kernel
theorem dX0_next_2 : decode cX0_next 2 = .ok (.iload_n 2, 1) := by decide +kernel
theorem dX0_next_3 : decode cX0_next 3 = .ok (.aload_n 0, 1) := by decide +kernel
theorem dX0_next_4 : decode cX0_next 4 = .ok (.getfield 21, 3) := by decide +kernel
theorem dX0_next_7 : decode cX0_next 7 = .ok (.if_icmp .ge 21, 3) := by decide +kernel
theorem dX0_next_10 : decode cX0_next 10 = .ok (.aload_n 0, 1) := by decide +kernel
theorem dX0_next_11 : decode cX0_next 11 = .ok (.getfield 9, 3) := by decide +kernel
theorem dX0_next_14 : decode cX0_next 14 = .ok (.iload_n 2, 1) := by decide +kernel
theorem dX0_next_15 : decode cX0_next 15 = .ok (.iaload, 1) := by decide +kernel
theorem dX0_next_16 : decode cX0_next 16 = .ok (.iload_n 1, 1) := by decide +kernel
theorem dX0_next_17 : decode cX0_next 17 = .ok (.if_icmp .lt 5, 3) := by decide +kernel
theorem dX0_next_20 : decode cX0_next 20 = .ok (.iload_n 2, 1) := by decide +kernel
theorem dX0_next_21 : decode cX0_next 21 = .ok (.ireturn, 1) := by decide +kernel
theorem dX0_next_22 : decode cX0_next 22 = .ok (.iinc 2 1, 3) := by decide +kernel
theorem dX0_next_25 : decode cX0_next 25 = .ok (.goto (-23), 3) := by decide +kernel
theorem dX0_next_28 : decode cX0_next 28 = .ok (.bipush (-6), 2) := by decide +kernel
theorem dX0_next_30 : decode cX0_next 30 = .ok (.ireturn, 1) := by decide +kernel
theorem dX0_carryOut_0 : decode cX0_carryOut 0 = .ok (.iconst 0, 1) := by decide +kernel
theorem dX0_carryOut_1 : decode cX0_carryOut 1 = .ok (.istore_n 3, 1) := by decide +kernel
theorem dX0_carryOut_2 : decode cX0_carryOut 2 = .ok (.iload_n 3, 1) := by decide +kernel
theorem dX0_carryOut_3 : decode cX0_carryOut 3 = .ok (.aload_n 0, 1) := by decide +kernel
theorem dX0_carryOut_4 : decode cX0_carryOut 4 = .ok (.getfield 21, 3) := by decide +kernel
theorem dX0_carryOut_7 : decode cX0_carryOut 7 = .ok (.if_icmp .ge 45, 3) := by decide +kernel
theorem dX0_carryOut_10 : decode cX0_carryOut 10 = .ok (.aload_n 0, 1) := by decide +kernel
theorem dX0_carryOut_11 : decode cX0_carryOut 11 = .ok (.getfield 9, 3) := by decide +kernel
theorem dX0_carryOut_14 : decode cX0_carryOut 14 = .ok (.iload_n 3, 1) := by decide +kernel
theorem dX0_carryOut_15 : decode cX0_carryOut 15 = .ok (.iaload, 1) := by decide +kernel
theorem dX0_carryOut_16 : decode cX0_carryOut 16 = .ok (.iload_n 1, 1) := by decide +kernel
theorem dX0_carryOut_17 : decode cX0_carryOut 17 = .ok (.if_icmp .gt 35, 3) := by decide +kernel
theorem dX0_carryOut_20 : decode cX0_carryOut 20 = .ok (.aload_n 0, 1) := by decide +kernel
theorem dX0_carryOut_21 : decode cX0_carryOut 21 = .ok (.getfield 9, 3) := by decide +kernel
theorem dX0_carryOut_24 : decode cX0_carryOut 24 = .ok (.iload_n 3, 1) := by decide +kernel
theorem dX0_carryOut_25 : decode cX0_carryOut 25 = .ok (.iaload, 1) := by decide +kernel
theorem dX0_carryOut_26 : decode cX0_carryOut 26 = .ok (.iload_n 1, 1) := by decide +kernel
theorem dX0_carryOut_27 : decode cX0_carryOut 27 = .ok (.if_icmp .ne 19, 3) := by decide +kernel
theorem dX0_carryOut_30 : decode cX0_carryOut 30 = .ok (.aload_n 2, 1) := by decide +kernel
theorem dX0_carryOut_31 : decode cX0_carryOut 31 = .ok (.aload_n 0, 1) := by decide +kernel
theorem dX0_carryOut_32 : decode cX0_carryOut 32 = .ok (.getfield 15, 3) := by decide +kernel
theorem dX0_carryOut_35 : decode cX0_carryOut 35 = .ok (.iload_n 3, 1) := by decide +kernel
theorem dX0_carryOut_36 : decode cX0_carryOut 36 = .ok (.iaload, 1) := by decide +kernel
theorem dX0_carryOut_37 : decode cX0_carryOut 37 = .ok (.aload_n 0, 1) := by decide +kernel
theorem dX0_carryOut_38 : decode cX0_carryOut 38 = .ok (.getfield 18, 3) := by decide +kernel
theorem dX0_carryOut_41 : decode cX0_carryOut 41 = .ok (.iload_n 3, 1) := by decide +kernel
theorem dX0_carryOut_42 : decode cX0_carryOut 42 = .ok (.iaload, 1) := by decide +kernel
theorem dX0_carryOut_43 : decode cX0_carryOut 43 = .ok (.invokevirtual 49, 3) := by decide +kernel
theorem dX0_carryOut_46 : decode cX0_carryOut 46 = .ok (.iinc 3 1, 3) := by decide +kernel
theorem dX0_carryOut_49 : decode cX0_carryOut 49 = .ok (.goto (-47), 3) := by decide +kernel
theorem dX0_carryOut_52 : decode cX0_carryOut 52 = .ok (.return_, 1) := by decide +kernel
theorem dX0_shift_0 : decode cX0_shift 0 = .ok (.aload_n 0, 1) := by decide +kernel
theorem dX0_shift_1 : decode cX0_shift 1 = .ok (.getfield 9, 3) := by decide +kernel
theorem dX0_shift_4 : decode cX0_shift 4 = .ok (.iload_n 1, 1) := by decide +kernel
theorem dX0_shift_5 : decode cX0_shift 5 = .ok (.aload_n 0, 1) := by decide +kernel
theorem dX0_shift_6 : decode cX0_shift 6 = .ok (.getfield 9, 3) := by decide +kernel
theorem dX0_shift_9 : decode cX0_shift 9 = .ok (.iload_n 2, 1) := by decide +kernel
theorem dX0_shift_10 : decode cX0_shift 10 = .ok (.iload_n 3, 1) := by decide +kernel
theorem dX0_shift_11 : decode cX0_shift 11 = .ok (.invokestatic 55, 3) := by decide +kernel
theorem dX0_shift_14 : decode cX0_shift 14 = .ok (.aload_n 0, 1) := by decide +kernel
theorem dX0_shift_15 : decode cX0_shift 15 = .ok (.getfield 15, 3) := by decide +kernel
theorem dX0_shift_18 : decode cX0_shift 18 = .ok (.iload_n 1, 1) := by decide +kernel
theorem dX0_shift_19 : decode cX0_shift 19 = .ok (.aload_n 0, 1) := by decide +kernel
theorem dX0_shift_20 : decode cX0_shift 20 = .ok (.getfield 15, 3) := by decide +kernel
theorem dX0_shift_23 : decode cX0_shift 23 = .ok (.iload_n 2, 1) := by decide +kernel
theorem dX0_shift_24 : decode cX0_shift 24 = .ok (.iload_n 3, 1) := by decide +kernel
theorem dX0_shift_25 : decode cX0_shift 25 = .ok (.invokestatic 55, 3) := by decide +kernel
theorem dX0_shift_28 : decode cX0_shift 28 = .ok (.aload_n 0, 1) := by decide +kernel
theorem dX0_shift_29 : decode cX0_shift 29 = .ok (.getfield 18, 3) := by decide +kernel
theorem dX0_shift_32 : decode cX0_shift 32 = .ok (.iload_n 1, 1) := by decide +kernel
theorem dX0_shift_33 : decode cX0_shift 33 = .ok (.aload_n 0, 1) := by decide +kernel
theorem dX0_shift_34 : decode cX0_shift 34 = .ok (.getfield 18, 3) := by decide +kernel
theorem dX0_shift_37 : decode cX0_shift 37 = .ok (.iload_n 2, 1) := by decide +kernel
theorem dX0_shift_38 : decode cX0_shift 38 = .ok (.iload_n 3, 1) := by decide +kernel
theorem dX0_shift_39 : decode cX0_shift 39 = .ok (.invokestatic 55, 3) := by decide +kernel
theorem dX0_shift_42 : decode cX0_shift 42 = .ok (.return_, 1) := by decide +kernel
theorem dX1_init_0 : decode cX1_init 0 = .ok (.aload_n 0, 1) := by decide +kernel
theorem dX1_init_1 : decode cX1_init 1 = .ok (.invokespecial 3, 3) := by decide +kernel
theorem dX1_init_4 : decode cX1_init 4 = .ok (.aload_n 0, 1) := by decide +kernel
theorem dX1_init_5 : decode cX1_init 5 = .ok (.new 9, 3) := by decide +kernel
theorem dX1_init_8 : decode cX1_init 8 = .ok (.dup, 1) := by decide +kernel
theorem dX1_init_9 : decode cX1_init 9 = .ok (.bipush 12, 2) := by decide +kernel
theorem dX1_init_11 : decode cX1_init 11 = .ok (.getstatic 11, 3) := by decide +kernel
theorem dX1_init_14 : decode cX1_init 14 = .ok (.getstatic 15, 3) := by decide +kernel
theorem dX1_init_17 : decode cX1_init 17 = .ok (.getstatic 18, 3) := by decide +kernel
theorem dX1_init_20 : decode cX1_init 20 = .ok (.invokespecial 21, 3) := by decide +kernel
theorem dX1_init_23 : decode cX1_init 23 = .ok (.putfield 24, 3) := by decide +kernel
theorem dX1_init_26 : decode cX1_init 26 = .ok (.aload_n 0, 1) := by decide +kernel
theorem dX1_init_27 : decode cX1_init 27 = .ok (.bipush 12, 2) := by decide +kernel
theorem dX1_init_29 : decode cX1_init 29 = .ok (.newarray .int, 2) := by decide +kernel
theorem dX1_init_31 : decode cX1_init 31 = .ok (.putfield 30, 3) := by decide +kernel
theorem dX1_init_34 : decode cX1_init 34 = .ok (.aload_n 0, 1) := by decide +kernel
theorem dX1_init_35 : decode cX1_init 35 = .ok (.bipush 12, 2) := by decide +kernel
theorem dX1_init_37 : decode cX1_init 37 = .ok (.newarray .int, 2) := by decide +kernel
theorem dX1_init_39 : decode cX1_init 39 = .ok (.putfield 33, 3) := by decide +kernel
theorem dX1_init_42 : decode cX1_init 42 = .ok (.aload_n 0, 1) := by decide +kernel
theorem dX1_init_43 : decode cX1_init 43 = .ok (.bipush 12, 2) := by decide +kernel
theorem dX1_init_45 : decode cX1_init 45 = .ok (.newarray .int, 2) := by decide +kernel
theorem dX1_init_47 : decode cX1_init 47 = .ok (.putfield 36, 3) := by decide +kernel
theorem dX1_init_50 : decode cX1_init 50 = .ok (.aload_n 0, 1) := by decide +kernel
theorem dX1_init_51 : decode cX1_init 51 = .ok (.bipush 12, 2) := by decide +kernel
theorem dX1_init_53 : decode cX1_init 53 = .ok (.newarray .int, 2) := by decide +kernel
theorem dX1_init_55 : decode cX1_init 55 = .ok (.putfield 39, 3) := by decide +kernel
theorem dX1_init_58 : decode cX1_init 58 = .ok (.aload_n 0, 1) := by decide +kernel
theorem dX1_init_59 : decode cX1_init 59 = .ok (.bipush 12, 2) := by decide +kernel
theorem dX1_init_61 : decode cX1_init 61 = .ok (.newarray .int, 2) := by decide +kernel
theorem dX1_init_63 : decode cX1_init 63 = .ok (.putfield 42, 3) := by decide +kernel
theorem dX1_init_66 : decode cX1_init 66 = .ok (.aload_n 0, 1) := by decide +kernel
theorem dX1_init_67 : decode cX1_init 67 = .ok (.bipush 12, 2) := by decide +kernel
theorem dX1_init_69 : decode cX1_init 69 = .ok (.newarray .int, 2) := by decide +kernel
theorem dX1_init_71 : decode cX1_init 71 = .ok (.putfield 45, 3) := by decide +kernel
theorem dX1_init_74 : decode cX1_init 74 = .ok (.aload_n 0, 1) := by decide +kernel
theorem dX1_init_75 : decode cX1_init 75 = .ok (.sipush 612, 3) := by decide +kernel
theorem dX1_init_78 : decode cX1_init 78 = .ok (.newarray .int, 2) := by decide +kernel
theorem dX1_init_80 : decode cX1_init 80 = .ok (.putfield 48, 3) := by decide +kernel
theorem dX1_init_83 : decode cX1_init 83 = .ok (.aload_n 0, 1) := by decide +kernel
theorem dX1_init_84 : decode cX1_init 84 = .ok (.iconst 4, 1) := by decide +kernel
theorem dX1_init_85 : decode cX1_init 85 = .ok (.putfield 51, 3) := by decide +kernel
theorem dX1_init_88 : decode cX1_init 88 = .ok (.aload_n 0, 1) := by decide +kernel
theorem dX1_init_89 : decode cX1_init 89 = .ok (.iconst 0, 1) := by decide +kernel
theorem dX1_init_90 : decode cX1_init 90 = .ok (.putfield 55, 3) := by decide +kernel
theorem dX1_init_93 : decode cX1_init 93 = .ok (.return_, 1) := by decide +kernel
theorem dX1_has_0 : decode cX1_has 0 = .ok (.iload_n 1, 1) := by decide +kernel
theorem dX1_has_1 : decode cX1_has 1 = .ok (.iconst 0, 1) := by decide +kernel
theorem dX1_has_2 : decode cX1_has 2 = .ok (.aload_n 0, 1) := by decide +kernel
theorem dX1_has_3 : decode cX1_has 3 = .ok (.getfield 51, 3) := by decide +kernel
theorem dX1_has_6 : decode cX1_has 6 = .ok (.iconst 1, 1) := by decide +kernel
theorem dX1_has_7 : decode cX1_has 7 = .ok (.isub, 1) := by decide +kernel
theorem dX1_has_8 : decode cX1_has 8 = .ok (.invokestatic 58, 3) := by decide +kernel
theorem dX1_has_11 : decode cX1_has 11 = .ok (.ireturn, 1) := by decide +kernel
theorem dX1_begin_0 : decode cX1_begin 0 = .ok (.aload_n 0, 1) := by decide +kernel
theorem dX1_begin_1 : decode cX1_begin 1 = .ok (.iload_n 1, 1) := by decide +kernel
theorem dX1_begin_2 : decode cX1_begin 2 = .ok (.putfield 51, 3) := by decide +kernel
theorem dX1_begin_5 : decode cX1_begin 5 = .ok (.aload_n 0, 1) := by decide +kernel
theorem dX1_begin_6 : decode cX1_begin 6 = .ok (.getfield 24, 3) := by decide +kernel
theorem dX1_begin_9 : decode cX1_begin 9 = .ok (.invokevirtual 62, 3) := by decide +kernel
theorem dX1_begin_12 : decode cX1_begin 12 = .ok (.return_, 1) := by decide +kernel
theorem dX1_goBack_0 : decode cX1_goBack 0 = .ok (.aload_n 0, 1) := by decide +kernel
theorem dX1_goBack_1 : decode cX1_goBack 1 = .ok (.getfield 30, 3) := by decide +kernel
theorem dX1_goBack_4 : decode cX1_goBack 4 = .ok (.invokestatic 65, 3) := by decide +kernel
theorem dX1_goBack_7 : decode cX1_goBack 7 = .ok (.aload_n 0, 1) := by decide +kernel
theorem dX1_goBack_8 : decode cX1_goBack 8 = .ok (.getfield 33, 3) := by decide +kernel
theorem dX1_goBack_11 : decode cX1_goBack 11 = .ok (.invokestatic 65, 3) := by decide +kernel
theorem dX1_goBack_14 : decode cX1_goBack 14 = .ok (.aload_n 0, 1) := by decide +kernel
theorem dX1_goBack_15 : decode cX1_goBack 15 = .ok (.getfield 36, 3) := by decide +kernel
theorem dX1_goBack_18 : decode cX1_goBack 18 = .ok (.invokestatic 65, 3) := by decide +kernel
theorem dX1_goBack_21 : decode cX1_goBack 21 = .ok (.aload_n 0, 1) := by decide +kernel
theorem dX1_goBack_22 : decode cX1_goBack 22 = .ok (.getfield 39, 3) := by decide +kernel
theorem dX1_goBack_25 : decode cX1_goBack 25 = .ok (.invokestatic 65, 3) := by decide +kernel
theorem dX1_goBack_28 : decode cX1_goBack 28 = .ok (.aload_n 0, 1) := by decide +kernel
theorem dX1_goBack_29 : decode cX1_goBack 29 = .ok (.getfield 42, 3) := by decide +kernel
theorem dX1_goBack_32 : decode cX1_goBack 32 = .ok (.invokestatic 65, 3) := by decide +kernel
theorem dX1_goBack_35 : decode cX1_goBack 35 = .ok (.aload_n 0, 1) := by decide +kernel
theorem dX1_goBack_36 : decode cX1_goBack 36 = .ok (.getfield 45, 3) := by decide +kernel
theorem dX1_goBack_39 : decode cX1_goBack 39 = .ok (.invokestatic 65, 3) := by decide +kernel
theorem dX1_goBack_42 : decode cX1_goBack 42 = .ok (.aload_n 0, 1) := by decide +kernel
theorem dX1_goBack_43 : decode cX1_goBack 43 = .ok (.getfield 48, 3) := by decide +kernel
theorem dX1_goBack_46 : decode cX1_goBack 46 = .ok (.invokestatic 65, 3) := by decide +kernel
theorem dX1_goBack_49 : decode cX1_goBack 49 = .ok (.return_, 1) := by decide +kernel
theorem dX1_copy_0 : decode cX1_copy 0 = .ok (.aload_n 0, 1) := by decide +kernel
theorem dX1_copy_1 : decode cX1_copy 1 = .ok (.aload_n 1, 1) := by decide +kernel
theorem dX1_copy_2 : decode cX1_copy 2 = .ok (.getfield 51, 3) := by decide +kernel
theorem dX1_copy_5 : decode cX1_copy 5 = .ok (.putfield 51, 3) := by decide +kernel
theorem dX1_copy_8 : decode cX1_copy 8 = .ok (.aload_n 0, 1) := by decide +kernel
theorem dX1_copy_9 : decode cX1_copy 9 = .ok (.getfield 24, 3) := by decide +kernel
theorem dX1_copy_12 : decode cX1_copy 12 = .ok (.aload_n 1, 1) := by decide +kernel
theorem dX1_copy_13 : decode cX1_copy 13 = .ok (.getfield 24, 3) := by decide +kernel
theorem dX1_copy_16 : decode cX1_copy 16 = .ok (.invokevirtual 69, 3) := by decide +kernel
theorem dX1_copy_19 : decode cX1_copy 19 = .ok (.aload_n 1, 1) := by decide +kernel
theorem dX1_copy_20 : decode cX1_copy 20 = .ok (.getfield 30, 3) := by decide +kernel
theorem dX1_copy_23 : decode cX1_copy 23 = .ok (.aload_n 0, 1) := by decide +kernel
theorem dX1_copy_24 : decode cX1_copy 24 = .ok (.getfield 30, 3) := by decide +kernel
theorem dX1_copy_27 : decode cX1_copy 27 = .ok (.invokestatic 73, 3) := by decide +kernel
theorem dX1_copy_30 : decode cX1_copy 30 = .ok (.aload_n 1, 1) := by decide +kernel
theorem dX1_copy_31 : decode cX1_copy 31 = .ok (.getfield 33, 3) := by decide +kernel
theorem dX1_copy_34 : decode cX1_copy 34 = .ok (.aload_n 0, 1) := by decide +kernel
theorem dX1_copy_35 : decode cX1_copy 35 = .ok (.getfield 33, 3) := by decide +kernel
theorem dX1_copy_38 : decode cX1_copy 38 = .ok (.invokestatic 73, 3) := by decide +kernel
theorem dX1_copy_41 : decode cX1_copy 41 = .ok (.aload_n 1, 1) := by decide +kernel
theorem dX1_copy_42 : decode cX1_copy 42 = .ok (.getfield 36, 3) := by decide +kernel
theorem dX1_copy_45 : decode cX1_copy 45 = .ok (.aload_n 0, 1) := by decide +kernel
theorem dX1_copy_46 : decode cX1_copy 46 = .ok (.getfield 36, 3) := by decide +kernel
theorem dX1_copy_49 : decode cX1_copy 49 = .ok (.invokestatic 73, 3) := by decide +kernel
theorem dX1_copy_52 : decode cX1_copy 52 = .ok (.aload_n 1, 1) := by decide +kernel
theorem dX1_copy_53 : decode cX1_copy 53 = .ok (.getfield 39, 3) := by decide +kernel
theorem dX1_copy_56 : decode cX1_copy 56 = .ok (.aload_n 0, 1) := by decide +kernel
theorem dX1_copy_57 : decode cX1_copy 57 = .ok (.getfield 39, 3) := by decide +kernel
theorem dX1_copy_60 : decode cX1_copy 60 = .ok (.invokestatic 73, 3) := by decide +kernel
theorem dX1_copy_63 : decode cX1_copy 63 = .ok (.aload_n 1, 1) := by decide +kernel
theorem dX1_copy_64 : decode cX1_copy 64 = .ok (.getfield 42, 3) := by decide +kernel
theorem dX1_copy_67 : decode cX1_copy 67 = .ok (.aload_n 0, 1) := by decide +kernel
theorem dX1_copy_68 : decode cX1_copy 68 = .ok (.getfield 42, 3) := by decide +kernel
theorem dX1_copy_71 : decode cX1_copy 71 = .ok (.invokestatic 73, 3) := by decide +kernel
theorem dX1_copy_74 : decode cX1_copy 74 = .ok (.aload_n 1, 1) := by decide +kernel
theorem dX1_copy_75 : decode cX1_copy 75 = .ok (.getfield 45, 3) := by decide +kernel
theorem dX1_copy_78 : decode cX1_copy 78 = .ok (.aload_n 0, 1) := by decide +kernel
theorem dX1_copy_79 : decode cX1_copy 79 = .ok (.getfield 45, 3) := by decide +kernel
theorem dX1_copy_82 : decode cX1_copy 82 = .ok (.invokestatic 73, 3) := by decide +kernel
theorem dX1_copy_85 : decode cX1_copy 85 = .ok (.aload_n 1, 1) := by decide +kernel
theorem dX1_copy_86 : decode cX1_copy 86 = .ok (.getfield 48, 3) := by decide +kernel
theorem dX1_copy_89 : decode cX1_copy 89 = .ok (.aload_n 0, 1) := by decide +kernel
theorem dX1_copy_90 : decode cX1_copy 90 = .ok (.getfield 48, 3) := by decide +kernel
theorem dX1_copy_93 : decode cX1_copy 93 = .ok (.invokestatic 73, 3) := by decide +kernel
theorem dX1_copy_96 : decode cX1_copy 96 = .ok (.return_, 1) := by decide +kernel
theorem dX1_obey_0 : decode cX1_obey 0 = .ok (.iconst 0, 1) := by decide +kernel
theorem dX1_obey_1 : decode cX1_obey 1 = .ok (.istore_n 3, 1) := by decide +kernel
theorem dX1_obey_2 : decode cX1_obey 2 = .ok (.iload_n 3, 1) := by decide +kernel
theorem dX1_obey_3 : decode cX1_obey 3 = .ok (.aload_n 0, 1) := by decide +kernel
theorem dX1_obey_4 : decode cX1_obey 4 = .ok (.getfield 51, 3) := by decide +kernel
theorem dX1_obey_7 : decode cX1_obey 7 = .ok (.if_icmp .ge 25, 3) := by decide +kernel
theorem dX1_obey_10 : decode cX1_obey 10 = .ok (.iload_n 1, 1) := by decide +kernel
theorem dX1_obey_11 : decode cX1_obey 11 = .ok (.iload_n 3, 1) := by decide +kernel
theorem dX1_obey_12 : decode cX1_obey 12 = .ok (.ishr, 1) := by decide +kernel
theorem dX1_obey_13 : decode cX1_obey 13 = .ok (.iconst 1, 1) := by decide +kernel
theorem dX1_obey_14 : decode cX1_obey 14 = .ok (.iand, 1) := by decide +kernel
theorem dX1_obey_15 : decode cX1_obey 15 = .ok (.iconst 1, 1) := by decide +kernel
theorem dX1_obey_16 : decode cX1_obey 16 = .ok (.if_icmp .ne 10, 3) := by decide +kernel
theorem dX1_obey_19 : decode cX1_obey 19 = .ok (.aload_n 0, 1) := by decide +kernel
theorem dX1_obey_20 : decode cX1_obey 20 = .ok (.getfield 30, 3) := by decide +kernel
theorem dX1_obey_23 : decode cX1_obey 23 = .ok (.iload_n 3, 1) := by decide +kernel
theorem dX1_obey_24 : decode cX1_obey 24 = .ok (.iload_n 2, 1) := by decide +kernel
theorem dX1_obey_25 : decode cX1_obey 25 = .ok (.iastore, 1) := by decide +kernel
theorem dX1_obey_26 : decode cX1_obey 26 = .ok (.iinc 3 1, 3) := by decide +kernel
theorem dX1_obey_29 : decode cX1_obey 29 = .ok (.goto (-27), 3) := by decide +kernel
theorem dX1_obey_32 : decode cX1_obey 32 = .ok (.return_, 1) := by decide +kernel
theorem dX1_keepCommands_0 : decode cX1_keepCommands 0 = .ok (.aload_n 0, 1) := by decide +kernel
theorem dX1_keepCommands_1 : decode cX1_keepCommands 1 = .ok (.getfield 30, 3) := by decide +kernel
theorem dX1_keepCommands_4 : decode cX1_keepCommands 4 = .ok (.iconst 0, 1) := by decide +kernel
theorem dX1_keepCommands_5 : decode cX1_keepCommands 5 = .ok (.aload_n 0, 1) := by decide +kernel
theorem dX1_keepCommands_6 : decode cX1_keepCommands 6 = .ok (.getfield 48, 3) := by decide +kernel
theorem dX1_keepCommands_9 : decode cX1_keepCommands 9 = .ok (.iload_n 1, 1) := by decide +kernel
theorem dX1_keepCommands_10 : decode cX1_keepCommands 10 = .ok (.invokestatic 77, 3) := by decide +kernel
theorem dX1_keepCommands_13 : decode cX1_keepCommands 13 = .ok (.bipush 12, 2) := by decide +kernel
theorem dX1_keepCommands_15 : decode cX1_keepCommands 15 = .ok (.invokestatic 81, 3) := by decide +kernel
theorem dX1_keepCommands_18 : decode cX1_keepCommands 18 = .ok (.return_, 1) := by decide +kernel
theorem dX1_open_0 : decode cX1_open 0 = .ok (.iconst 0, 1) := by decide +kernel
theorem dX1_open_1 : decode cX1_open 1 = .ok (.istore 4, 2) := by decide +kernel
theorem dX1_open_3 : decode cX1_open 3 = .ok (.iload 4, 2) := by decide +kernel
theorem dX1_open_5 : decode cX1_open 5 = .ok (.aload_n 0, 1) := by decide +kernel
theorem dX1_open_6 : decode cX1_open 6 = .ok (.getfield 51, 3) := by decide +kernel
theorem dX1_open_9 : decode cX1_open 9 = .ok (.if_icmp .ge 95, 3) := by decide +kernel
theorem dX1_open_12 : decode cX1_open 12 = .ok (.aload_n 0, 1) := by decide +kernel
theorem dX1_open_13 : decode cX1_open 13 = .ok (.iload_n 1, 1) := by decide +kernel
theorem dX1_open_14 : decode cX1_open 14 = .ok (.aload_n 0, 1) := by decide +kernel
theorem dX1_open_15 : decode cX1_open 15 = .ok (.getfield 24, 3) := by decide +kernel
theorem dX1_open_18 : decode cX1_open 18 = .ok (.iload 4, 2) := by decide +kernel
theorem dX1_open_20 : decode cX1_open 20 = .ok (.iconst 2, 1) := by decide +kernel
theorem dX1_open_21 : decode cX1_open 21 = .ok (.invokevirtual 87, 3) := by decide +kernel
theorem dX1_open_24 : decode cX1_open 24 = .ok (.isub, 1) := by decide +kernel
theorem dX1_open_25 : decode cX1_open 25 = .ok (.iload 4, 2) := by decide +kernel
theorem dX1_open_27 : decode cX1_open 27 = .ok (.invokevirtual 91, 3) := by decide +kernel
theorem dX1_open_30 : decode cX1_open 30 = .ok (.istore 5, 2) := by decide +kernel
theorem dX1_open_32 : decode cX1_open 32 = .ok (.iload_n 2, 1) := by decide +kernel
theorem dX1_open_33 : decode cX1_open 33 = .ok (.iconst 1, 1) := by decide +kernel
theorem dX1_open_34 : decode cX1_open 34 = .ok (.if_icmp .ne 27, 3) := by decide +kernel
theorem dX1_open_37 : decode cX1_open 37 = .ok (.aload_n 0, 1) := by decide +kernel
theorem dX1_open_38 : decode cX1_open 38 = .ok (.aload_n 0, 1) := by decide +kernel
theorem dX1_open_39 : decode cX1_open 39 = .ok (.getfield 55, 3) := by decide +kernel
theorem dX1_open_42 : decode cX1_open 42 = .ok (.iload 5, 2) := by decide +kernel
theorem dX1_open_44 : decode cX1_open 44 = .ok (.invokestatic 94, 3) := by decide +kernel
theorem dX1_open_47 : decode cX1_open 47 = .ok (.putfield 55, 3) := by decide +kernel
theorem dX1_open_50 : decode cX1_open 50 = .ok (.iload 5, 2) := by decide +kernel
theorem dX1_open_52 : decode cX1_open 52 = .ok (.iload_n 3, 1) := by decide +kernel
theorem dX1_open_53 : decode cX1_open 53 = .ok (.invokestatic 99, 3) := by decide +kernel
theorem dX1_open_56 : decode cX1_open 56 = .ok (.istore 5, 2) := by decide +kernel
theorem dX1_open_58 : decode cX1_open 58 = .ok (.goto 11, 3) := by decide +kernel
theorem dX1_open_61 : decode cX1_open 61 = .ok (.iload_n 2, 1) := by decide +kernel
theorem dX1_open_62 : decode cX1_open 62 = .ok (.iconst 2, 1) := by decide +kernel
theorem dX1_open_63 : decode cX1_open 63 = .ok (.if_icmp .ne 6, 3) := by decide +kernel
theorem dX1_open_66 : decode cX1_open 66 = .ok (.iconst 0, 1) := by decide +kernel
theorem dX1_open_67 : decode cX1_open 67 = .ok (.istore 5, 2) := by decide +kernel
theorem dX1_open_69 : decode cX1_open 69 = .ok (.aload_n 0, 1) := by decide +kernel
theorem dX1_open_70 : decode cX1_open 70 = .ok (.getfield 33, 3) := by decide +kernel
theorem dX1_open_73 : decode cX1_open 73 = .ok (.iload 4, 2) := by decide +kernel
theorem dX1_open_75 : decode cX1_open 75 = .ok (.aload_n 0, 1) := by decide +kernel
theorem dX1_open_76 : decode cX1_open 76 = .ok (.getfield 33, 3) := by decide +kernel
theorem dX1_open_79 : decode cX1_open 79 = .ok (.iload 4, 2) := by decide +kernel
theorem dX1_open_81 : decode cX1_open 81 = .ok (.iaload, 1) := by decide +kernel
theorem dX1_open_82 : decode cX1_open 82 = .ok (.iload 5, 2) := by decide +kernel
theorem dX1_open_84 : decode cX1_open 84 = .ok (.aload_n 0, 1) := by decide +kernel
theorem dX1_open_85 : decode cX1_open 85 = .ok (.getfield 24, 3) := by decide +kernel
theorem dX1_open_88 : decode cX1_open 88 = .ok (.iload 4, 2) := by decide +kernel
theorem dX1_open_90 : decode cX1_open 90 = .ok (.iconst 3, 1) := by decide +kernel
theorem dX1_open_91 : decode cX1_open 91 = .ok (.invokevirtual 87, 3) := by decide +kernel
theorem dX1_open_94 : decode cX1_open 94 = .ok (.invokestatic 102, 3) := by decide +kernel
theorem dX1_open_97 : decode cX1_open 97 = .ok (.iastore, 1) := by decide +kernel
theorem dX1_open_98 : decode cX1_open 98 = .ok (.iinc 4 1, 3) := by decide +kernel
theorem dX1_open_101 : decode cX1_open 101 = .ok (.goto (-98), 3) := by decide +kernel
theorem dX1_open_104 : decode cX1_open 104 = .ok (.return_, 1) := by decide +kernel
theorem dX1_demandOf_0 : decode cX1_demandOf 0 = .ok (.iconst 0, 1) := by decide +kernel
theorem dX1_demandOf_1 : decode cX1_demandOf 1 = .ok (.istore_n 2, 1) := by decide +kernel
theorem dX1_demandOf_2 : decode cX1_demandOf 2 = .ok (.iconst 0, 1) := by decide +kernel
theorem dX1_demandOf_3 : decode cX1_demandOf 3 = .ok (.istore_n 3, 1) := by decide +kernel
theorem dX1_demandOf_4 : decode cX1_demandOf 4 = .ok (.iload_n 3, 1) := by decide +kernel
theorem dX1_demandOf_5 : decode cX1_demandOf 5 = .ok (.aload_n 0, 1) := by decide +kernel
theorem dX1_demandOf_6 : decode cX1_demandOf 6 = .ok (.getfield 51, 3) := by decide +kernel
theorem dX1_demandOf_9 : decode cX1_demandOf 9 = .ok (.if_icmp .ge 30, 3) := by decide +kernel
theorem dX1_demandOf_12 : decode cX1_demandOf 12 = .ok (.aload_n 0, 1) := by decide +kernel
theorem dX1_demandOf_13 : decode cX1_demandOf 13 = .ok (.getfield 24, 3) := by decide +kernel
theorem dX1_demandOf_16 : decode cX1_demandOf 16 = .ok (.iload_n 3, 1) := by decide +kernel
theorem dX1_demandOf_17 : decode cX1_demandOf 17 = .ok (.iconst 4, 1) := by decide +kernel
theorem dX1_demandOf_18 : decode cX1_demandOf 18 = .ok (.invokevirtual 87, 3) := by decide +kernel
theorem dX1_demandOf_21 : decode cX1_demandOf 21 = .ok (.iload_n 1, 1) := by decide +kernel
theorem dX1_demandOf_22 : decode cX1_demandOf 22 = .ok (.if_icmp .ne 11, 3) := by decide +kernel
theorem dX1_demandOf_25 : decode cX1_demandOf 25 = .ok (.iload_n 2, 1) := by decide +kernel
theorem dX1_demandOf_26 : decode cX1_demandOf 26 = .ok (.aload_n 0, 1) := by decide +kernel
theorem dX1_demandOf_27 : decode cX1_demandOf 27 = .ok (.iload_n 3, 1) := by decide +kernel
theorem dX1_demandOf_28 : decode cX1_demandOf 28 = .ok (.invokevirtual 106, 3) := by decide +kernel
theorem dX1_demandOf_31 : decode cX1_demandOf 31 = .ok (.iadd, 1) := by decide +kernel
theorem dX1_demandOf_32 : decode cX1_demandOf 32 = .ok (.istore_n 2, 1) := by decide +kernel
theorem dX1_demandOf_33 : decode cX1_demandOf 33 = .ok (.iinc 3 1, 3) := by decide +kernel
theorem dX1_demandOf_36 : decode cX1_demandOf 36 = .ok (.goto (-32), 3) := by decide +kernel
theorem dX1_demandOf_39 : decode cX1_demandOf 39 = .ok (.iload_n 2, 1) := by decide +kernel
theorem dX1_demandOf_40 : decode cX1_demandOf 40 = .ok (.ireturn, 1) := by decide +kernel
theorem dX1_flow_0 : decode cX1_flow 0 = .ok (.iconst 0, 1) := by decide +kernel
theorem dX1_flow_1 : decode cX1_flow 1 = .ok (.istore 4, 2) := by decide +kernel
theorem dX1_flow_3 : decode cX1_flow 3 = .ok (.iload 4, 2) := by decide +kernel
theorem dX1_flow_5 : decode cX1_flow 5 = .ok (.aload_n 0, 1) := by decide +kernel
theorem dX1_flow_6 : decode cX1_flow 6 = .ok (.getfield 51, 3) := by decide +kernel
theorem dX1_flow_9 : decode cX1_flow 9 = .ok (.if_icmp .ge 60, 3) := by decide +kernel
theorem dX1_flow_12 : decode cX1_flow 12 = .ok (.aload_n 0, 1) := by decide +kernel
theorem dX1_flow_13 : decode cX1_flow 13 = .ok (.getfield 24, 3) := by decide +kernel
theorem dX1_flow_16 : decode cX1_flow 16 = .ok (.iload 4, 2) := by decide +kernel
theorem dX1_flow_18 : decode cX1_flow 18 = .ok (.iconst 4, 1) := by decide +kernel
theorem dX1_flow_19 : decode cX1_flow 19 = .ok (.invokevirtual 87, 3) := by decide +kernel
theorem dX1_flow_22 : decode cX1_flow 22 = .ok (.iload_n 1, 1) := by decide +kernel
theorem dX1_flow_23 : decode cX1_flow 23 = .ok (.if_icmp .ne 40, 3) := by decide +kernel
theorem dX1_flow_26 : decode cX1_flow 26 = .ok (.aload_n 0, 1) := by decide +kernel
theorem dX1_flow_27 : decode cX1_flow 27 = .ok (.iload 4, 2) := by decide +kernel
theorem dX1_flow_29 : decode cX1_flow 29 = .ok (.invokevirtual 106, 3) := by decide +kernel
theorem dX1_flow_32 : decode cX1_flow 32 = .ok (.istore 5, 2) := by decide +kernel
theorem dX1_flow_34 : decode cX1_flow 34 = .ok (.aload_n 0, 1) := by decide +kernel
theorem dX1_flow_35 : decode cX1_flow 35 = .ok (.getfield 36, 3) := by decide +kernel
theorem dX1_flow_38 : decode cX1_flow 38 = .ok (.iload 4, 2) := by decide +kernel
theorem dX1_flow_40 : decode cX1_flow 40 = .ok (.iload_n 2, 1) := by decide +kernel
theorem dX1_flow_41 : decode cX1_flow 41 = .ok (.iload_n 3, 1) := by decide +kernel
theorem dX1_flow_42 : decode cX1_flow 42 = .ok (.if_icmp .gt 8, 3) := by decide +kernel
theorem dX1_flow_45 : decode cX1_flow 45 = .ok (.iload 5, 2) := by decide +kernel
theorem dX1_flow_47 : decode cX1_flow 47 = .ok (.goto 15, 3) := by decide +kernel
theorem dX1_flow_50 : decode cX1_flow 50 = .ok (.iload 5, 2) := by decide +kernel
theorem dX1_flow_52 : decode cX1_flow 52 = .ok (.i2l, 1) := by decide +kernel
theorem dX1_flow_53 : decode cX1_flow 53 = .ok (.iload_n 3, 1) := by decide +kernel
theorem dX1_flow_54 : decode cX1_flow 54 = .ok (.i2l, 1) := by decide +kernel
theorem dX1_flow_55 : decode cX1_flow 55 = .ok (.lmul, 1) := by decide +kernel
theorem dX1_flow_56 : decode cX1_flow 56 = .ok (.iload_n 2, 1) := by decide +kernel
theorem dX1_flow_57 : decode cX1_flow 57 = .ok (.i2l, 1) := by decide +kernel
theorem dX1_flow_58 : decode cX1_flow 58 = .ok (.invokestatic 109, 3) := by decide +kernel
theorem dX1_flow_61 : decode cX1_flow 61 = .ok (.l2i, 1) := by decide +kernel
theorem dX1_flow_62 : decode cX1_flow 62 = .ok (.iastore, 1) := by decide +kernel
theorem dX1_flow_63 : decode cX1_flow 63 = .ok (.iinc 4 1, 3) := by decide +kernel
theorem dX1_flow_66 : decode cX1_flow 66 = .ok (.goto (-63), 3) := by decide +kernel
theorem dX1_flow_69 : decode cX1_flow 69 = .ok (.return_, 1) := by decide +kernel
theorem dX1_rise_0 : decode cX1_rise 0 = .ok (.iconst 0, 1) := by decide +kernel
theorem dX1_rise_1 : decode cX1_rise 1 = .ok (.istore_n 2, 1) := by decide +kernel
theorem dX1_rise_2 : decode cX1_rise 2 = .ok (.iload_n 2, 1) := by decide +kernel
theorem dX1_rise_3 : decode cX1_rise 3 = .ok (.aload_n 0, 1) := by decide +kernel
theorem dX1_rise_4 : decode cX1_rise 4 = .ok (.getfield 51, 3) := by decide +kernel
theorem dX1_rise_7 : decode cX1_rise 7 = .ok (.if_icmp .ge 108, 3) := by decide +kernel
theorem dX1_rise_10 : decode cX1_rise 10 = .ok (.aload_n 0, 1) := by decide +kernel
theorem dX1_rise_11 : decode cX1_rise 11 = .ok (.getfield 36, 3) := by decide +kernel
theorem dX1_rise_14 : decode cX1_rise 14 = .ok (.iload_n 2, 1) := by decide +kernel
theorem dX1_rise_15 : decode cX1_rise 15 = .ok (.iaload, 1) := by decide +kernel
theorem dX1_rise_16 : decode cX1_rise 16 = .ok (.i2l, 1) := by decide +kernel
theorem dX1_rise_17 : decode cX1_rise 17 = .ok (.aload_n 0, 1) := by decide +kernel
theorem dX1_rise_18 : decode cX1_rise 18 = .ok (.getfield 24, 3) := by decide +kernel
theorem dX1_rise_21 : decode cX1_rise 21 = .ok (.iload_n 2, 1) := by decide +kernel
theorem dX1_rise_22 : decode cX1_rise 22 = .ok (.iconst 0, 1) := by decide +kernel
theorem dX1_rise_23 : decode cX1_rise 23 = .ok (.invokevirtual 87, 3) := by decide +kernel
theorem dX1_rise_26 : decode cX1_rise 26 = .ok (.i2l, 1) := by decide +kernel
theorem dX1_rise_27 : decode cX1_rise 27 = .ok (.invokestatic 109, 3) := by decide +kernel
theorem dX1_rise_30 : decode cX1_rise 30 = .ok (.lstore_n 3, 1) := by decide +kernel
theorem dX1_rise_31 : decode cX1_rise 31 = .ok (.aload_n 0, 1) := by decide +kernel
theorem dX1_rise_32 : decode cX1_rise 32 = .ok (.getfield 39, 3) := by decide +kernel
theorem dX1_rise_35 : decode cX1_rise 35 = .ok (.iload_n 2, 1) := by decide +kernel
theorem dX1_rise_36 : decode cX1_rise 36 = .ok (.aload_n 0, 1) := by decide +kernel
theorem dX1_rise_37 : decode cX1_rise 37 = .ok (.getfield 24, 3) := by decide +kernel
theorem dX1_rise_40 : decode cX1_rise 40 = .ok (.iload_n 2, 1) := by decide +kernel
theorem dX1_rise_41 : decode cX1_rise 41 = .ok (.iconst 1, 1) := by decide +kernel
theorem dX1_rise_42 : decode cX1_rise 42 = .ok (.invokevirtual 87, 3) := by decide +kernel
theorem dX1_rise_45 : decode cX1_rise 45 = .ok (.i2l, 1) := by decide +kernel
theorem dX1_rise_46 : decode cX1_rise 46 = .ok (.lload_n 3, 1) := by decide +kernel
theorem dX1_rise_47 : decode cX1_rise 47 = .ok (.lmul, 1) := by decide +kernel
theorem dX1_rise_48 : decode cX1_rise 48 = .ok (.lload_n 3, 1) := by decide +kernel
theorem dX1_rise_49 : decode cX1_rise 49 = .ok (.lmul, 1) := by decide +kernel
theorem dX1_rise_50 : decode cX1_rise 50 = .ok (.ldc2_w 113, 3) := by decide +kernel
theorem dX1_rise_53 : decode cX1_rise 53 = .ok (.ldiv, 1) := by decide +kernel
theorem dX1_rise_54 : decode cX1_rise 54 = .ok (.l2i, 1) := by decide +kernel
theorem dX1_rise_55 : decode cX1_rise 55 = .ok (.iastore, 1) := by decide +kernel
theorem dX1_rise_56 : decode cX1_rise 56 = .ok (.aload_n 0, 1) := by decide +kernel
theorem dX1_rise_57 : decode cX1_rise 57 = .ok (.getfield 42, 3) := by decide +kernel
theorem dX1_rise_60 : decode cX1_rise 60 = .ok (.iload_n 2, 1) := by decide +kernel
theorem dX1_rise_61 : decode cX1_rise 61 = .ok (.aload_n 0, 1) := by decide +kernel
theorem dX1_rise_62 : decode cX1_rise 62 = .ok (.getfield 39, 3) := by decide +kernel
theorem dX1_rise_65 : decode cX1_rise 65 = .ok (.iload_n 2, 1) := by decide +kernel
theorem dX1_rise_66 : decode cX1_rise 66 = .ok (.iaload, 1) := by decide +kernel
theorem dX1_rise_67 : decode cX1_rise 67 = .ok (.i2l, 1) := by decide +kernel
theorem dX1_rise_68 : decode cX1_rise 68 = .ok (.iload_n 1, 1) := by decide +kernel
theorem dX1_rise_69 : decode cX1_rise 69 = .ok (.i2l, 1) := by decide +kernel
theorem dX1_rise_70 : decode cX1_rise 70 = .ok (.lmul, 1) := by decide +kernel
theorem dX1_rise_71 : decode cX1_rise 71 = .ok (.aload_n 0, 1) := by decide +kernel
theorem dX1_rise_72 : decode cX1_rise 72 = .ok (.getfield 24, 3) := by decide +kernel
theorem dX1_rise_75 : decode cX1_rise 75 = .ok (.iload_n 2, 1) := by decide +kernel
theorem dX1_rise_76 : decode cX1_rise 76 = .ok (.iconst 5, 1) := by decide +kernel
theorem dX1_rise_77 : decode cX1_rise 77 = .ok (.invokevirtual 87, 3) := by decide +kernel
theorem dX1_rise_80 : decode cX1_rise 80 = .ok (.i2l, 1) := by decide +kernel
theorem dX1_rise_81 : decode cX1_rise 81 = .ok (.lmul, 1) := by decide +kernel
theorem dX1_rise_82 : decode cX1_rise 82 = .ok (.ldc2_w 115, 3) := by decide +kernel
theorem dX1_rise_85 : decode cX1_rise 85 = .ok (.ldiv, 1) := by decide +kernel
theorem dX1_rise_86 : decode cX1_rise 86 = .ok (.l2i, 1) := by decide +kernel
theorem dX1_rise_87 : decode cX1_rise 87 = .ok (.iastore, 1) := by decide +kernel
theorem dX1_rise_88 : decode cX1_rise 88 = .ok (.aload_n 0, 1) := by decide +kernel
theorem dX1_rise_89 : decode cX1_rise 89 = .ok (.getfield 45, 3) := by decide +kernel
theorem dX1_rise_92 : decode cX1_rise 92 = .ok (.iload_n 2, 1) := by decide +kernel
theorem dX1_rise_93 : decode cX1_rise 93 = .ok (.aload_n 0, 1) := by decide +kernel
theorem dX1_rise_94 : decode cX1_rise 94 = .ok (.getfield 45, 3) := by decide +kernel
theorem dX1_rise_97 : decode cX1_rise 97 = .ok (.iload_n 2, 1) := by decide +kernel
theorem dX1_rise_98 : decode cX1_rise 98 = .ok (.iaload, 1) := by decide +kernel
theorem dX1_rise_99 : decode cX1_rise 99 = .ok (.aload_n 0, 1) := by decide +kernel
theorem dX1_rise_100 : decode cX1_rise 100 = .ok (.getfield 39, 3) := by decide +kernel
theorem dX1_rise_103 : decode cX1_rise 103 = .ok (.iload_n 2, 1) := by decide +kernel
theorem dX1_rise_104 : decode cX1_rise 104 = .ok (.iaload, 1) := by decide +kernel
theorem dX1_rise_105 : decode cX1_rise 105 = .ok (.invokestatic 94, 3) := by decide +kernel
theorem dX1_rise_108 : decode cX1_rise 108 = .ok (.iastore, 1) := by decide +kernel
theorem dX1_rise_109 : decode cX1_rise 109 = .ok (.iinc 2 1, 3) := by decide +kernel
theorem dX1_rise_112 : decode cX1_rise 112 = .ok (.goto (-110), 3) := by decide +kernel
theorem dX1_rise_115 : decode cX1_rise 115 = .ok (.return_, 1) := by decide +kernel
theorem dX1_driftsBeyond_0 : decode cX1_driftsBeyond 0 = .ok (.iconst 0, 1) := by decide +kernel
theorem dX1_driftsBeyond_1 : decode cX1_driftsBeyond 1 = .ok (.istore_n 2, 1) := by decide +kernel
theorem dX1_driftsBeyond_2 : decode cX1_driftsBeyond 2 = .ok (.iload_n 2, 1) := by decide +kernel
theorem dX1_driftsBeyond_3 : decode cX1_driftsBeyond 3 = .ok (.aload_n 0, 1) := by decide +kernel
theorem dX1_driftsBeyond_4 : decode cX1_driftsBeyond 4 = .ok (.getfield 51, 3) := by decide +kernel
theorem dX1_driftsBeyond_7 : decode cX1_driftsBeyond 7 = .ok (.if_icmp .ge 21, 3) := by decide +kernel
theorem dX1_driftsBeyond_10 : decode cX1_driftsBeyond 10 = .ok (.aload_n 0, 1) := by decide +kernel
theorem dX1_driftsBeyond_11 : decode cX1_driftsBeyond 11 = .ok (.getfield 42, 3) := by decide +kernel
theorem dX1_driftsBeyond_14 : decode cX1_driftsBeyond 14 = .ok (.iload_n 2, 1) := by decide +kernel
theorem dX1_driftsBeyond_15 : decode cX1_driftsBeyond 15 = .ok (.iaload, 1) := by decide +kernel
theorem dX1_driftsBeyond_16 : decode cX1_driftsBeyond 16 = .ok (.iload_n 1, 1) := by decide +kernel
theorem dX1_driftsBeyond_17 : decode cX1_driftsBeyond 17 = .ok (.if_icmp .le 5, 3) := by decide +kernel
theorem dX1_driftsBeyond_20 : decode cX1_driftsBeyond 20 = .ok (.iconst 1, 1) := by decide +kernel
theorem dX1_driftsBeyond_21 : decode cX1_driftsBeyond 21 = .ok (.ireturn, 1) := by decide +kernel
theorem dX1_driftsBeyond_22 : decode cX1_driftsBeyond 22 = .ok (.iinc 2 1, 3) := by decide +kernel
theorem dX1_driftsBeyond_25 : decode cX1_driftsBeyond 25 = .ok (.goto (-23), 3) := by decide +kernel
theorem dX1_driftsBeyond_28 : decode cX1_driftsBeyond 28 = .ok (.iconst 0, 1) := by decide +kernel
theorem dX1_driftsBeyond_29 : decode cX1_driftsBeyond 29 = .ok (.ireturn, 1) := by decide +kernel
theorem dX1_sumOfHeights_0 : decode cX1_sumOfHeights 0 = .ok (.iconst 0, 1) := by decide +kernel
theorem dX1_sumOfHeights_1 : decode cX1_sumOfHeights 1 = .ok (.istore_n 1, 1) := by decide +kernel
theorem dX1_sumOfHeights_2 : decode cX1_sumOfHeights 2 = .ok (.iconst 0, 1) := by decide +kernel
theorem dX1_sumOfHeights_3 : decode cX1_sumOfHeights 3 = .ok (.istore_n 2, 1) := by decide +kernel
theorem dX1_sumOfHeights_4 : decode cX1_sumOfHeights 4 = .ok (.iload_n 2, 1) := by decide +kernel
theorem dX1_sumOfHeights_5 : decode cX1_sumOfHeights 5 = .ok (.aload_n 0, 1) := by decide +kernel
theorem dX1_sumOfHeights_6 : decode cX1_sumOfHeights 6 = .ok (.getfield 51, 3) := by decide +kernel
theorem dX1_sumOfHeights_9 : decode cX1_sumOfHeights 9 = .ok (.if_icmp .ge 18, 3) := by decide +kernel
theorem dX1_sumOfHeights_12 : decode cX1_sumOfHeights 12 = .ok (.iload_n 1, 1) := by decide +kernel
theorem dX1_sumOfHeights_13 : decode cX1_sumOfHeights 13 = .ok (.aload_n 0, 1) := by decide +kernel
theorem dX1_sumOfHeights_14 : decode cX1_sumOfHeights 14 = .ok (.getfield 39, 3) := by decide +kernel
theorem dX1_sumOfHeights_17 : decode cX1_sumOfHeights 17 = .ok (.iload_n 2, 1) := by decide +kernel
theorem dX1_sumOfHeights_18 : decode cX1_sumOfHeights 18 = .ok (.iaload, 1) := by decide +kernel
theorem dX1_sumOfHeights_19 : decode cX1_sumOfHeights 19 = .ok (.iadd, 1) := by decide +kernel
theorem dX1_sumOfHeights_20 : decode cX1_sumOfHeights 20 = .ok (.istore_n 1, 1) := by decide +kernel
theorem dX1_sumOfHeights_21 : decode cX1_sumOfHeights 21 = .ok (.iinc 2 1, 3) := by decide +kernel
theorem dX1_sumOfHeights_24 : decode cX1_sumOfHeights 24 = .ok (.goto (-20), 3) := by decide +kernel
theorem dX1_sumOfHeights_27 : decode cX1_sumOfHeights 27 = .ok (.iload_n 1, 1) := by decide +kernel
theorem dX1_sumOfHeights_28 : decode cX1_sumOfHeights 28 = .ok (.ireturn, 1) := by decide +kernel
theorem dX1_greatestHeightNow_0 : decode cX1_greatestHeightNow 0 = .ok (.iconst 0, 1) := by decide +kernel
theorem dX1_greatestHeightNow_1 : decode cX1_greatestHeightNow 1 = .ok (.istore_n 1, 1) := by decide +kernel
theorem dX1_greatestHeightNow_2 : decode cX1_greatestHeightNow 2 = .ok (.iconst 0, 1) := by decide +kernel
theorem dX1_greatestHeightNow_3 : decode cX1_greatestHeightNow 3 = .ok (.istore_n 2, 1) := by decide +kernel
theorem dX1_greatestHeightNow_4 : decode cX1_greatestHeightNow 4 = .ok (.iload_n 2, 1) := by decide +kernel
theorem dX1_greatestHeightNow_5 : decode cX1_greatestHeightNow 5 = .ok (.aload_n 0, 1) := by decide +kernel
theorem dX1_greatestHeightNow_6 : decode cX1_greatestHeightNow 6 = .ok (.getfield 51, 3) := by decide +kernel
theorem dX1_greatestHeightNow_9 : decode cX1_greatestHeightNow 9 = .ok (.if_icmp .ge 20, 3) := by decide +kernel
theorem dX1_greatestHeightNow_12 : decode cX1_greatestHeightNow 12 = .ok (.iload_n 1, 1) := by decide +kernel
theorem dX1_greatestHeightNow_13 : decode cX1_greatestHeightNow 13 = .ok (.aload_n 0, 1) := by decide +kernel
theorem dX1_greatestHeightNow_14 : decode cX1_greatestHeightNow 14 = .ok (.getfield 39, 3) := by decide +kernel
theorem dX1_greatestHeightNow_17 : decode cX1_greatestHeightNow 17 = .ok (.iload_n 2, 1) := by decide +kernel
theorem dX1_greatestHeightNow_18 : decode cX1_greatestHeightNow 18 = .ok (.iaload, 1) := by decide +kernel
theorem dX1_greatestHeightNow_19 : decode cX1_greatestHeightNow 19 = .ok (.invokestatic 94, 3) := by decide +kernel
theorem dX1_greatestHeightNow_22 : decode cX1_greatestHeightNow 22 = .ok (.istore_n 1, 1) := by decide +kernel
theorem dX1_greatestHeightNow_23 : decode cX1_greatestHeightNow 23 = .ok (.iinc 2 1, 3) := by decide +kernel
theorem dX1_greatestHeightNow_26 : decode cX1_greatestHeightNow 26 = .ok (.goto (-22), 3) := by decide +kernel
theorem dX1_greatestHeightNow_29 : decode cX1_greatestHeightNow 29 = .ok (.iload_n 1, 1) := by decide +kernel
theorem dX1_greatestHeightNow_30 : decode cX1_greatestHeightNow 30 = .ok (.ireturn, 1) := by decide +kernel
theorem dX1_demandAt_0 : decode cX1_demandAt 0 = .ok (.aload_n 0, 1) := by decide +kernel
theorem dX1_demandAt_1 : decode cX1_demandAt 1 = .ok (.getfield 33, 3) := by decide +kernel
theorem dX1_demandAt_4 : decode cX1_demandAt 4 = .ok (.iload_n 1, 1) := by decide +kernel
theorem dX1_demandAt_5 : decode cX1_demandAt 5 = .ok (.iaload, 1) := by decide +kernel
theorem dX1_demandAt_6 : decode cX1_demandAt 6 = .ok (.aload_n 0, 1) := by decide +kernel
theorem dX1_demandAt_7 : decode cX1_demandAt 7 = .ok (.getfield 24, 3) := by decide +kernel
theorem dX1_demandAt_10 : decode cX1_demandAt 10 = .ok (.iload_n 1, 1) := by decide +kernel
theorem dX1_demandAt_11 : decode cX1_demandAt 11 = .ok (.iconst 0, 1) := by decide +kernel
theorem dX1_demandAt_12 : decode cX1_demandAt 12 = .ok (.invokevirtual 87, 3) := by decide +kernel
theorem dX1_demandAt_15 : decode cX1_demandAt 15 = .ok (.imul, 1) := by decide +kernel
theorem dX1_demandAt_16 : decode cX1_demandAt 16 = .ok (.ireturn, 1) := by decide +kernel
theorem dX1_commandAt_0 : decode cX1_commandAt 0 = .ok (.iload_n 1, 1) := by decide +kernel
theorem dX1_commandAt_1 : decode cX1_commandAt 1 = .ok (.ifCond .ge 7, 3) := by decide +kernel
theorem dX1_commandAt_4 : decode cX1_commandAt 4 = .ok (.iconst 0, 1) := by decide +kernel
theorem dX1_commandAt_5 : decode cX1_commandAt 5 = .ok (.goto 14, 3) := by decide +kernel
theorem dX1_commandAt_8 : decode cX1_commandAt 8 = .ok (.aload_n 0, 1) := by decide +kernel
theorem dX1_commandAt_9 : decode cX1_commandAt 9 = .ok (.getfield 48, 3) := by decide +kernel
theorem dX1_commandAt_12 : decode cX1_commandAt 12 = .ok (.iload_n 1, 1) := by decide +kernel
theorem dX1_commandAt_13 : decode cX1_commandAt 13 = .ok (.invokestatic 77, 3) := by decide +kernel
theorem dX1_commandAt_16 : decode cX1_commandAt 16 = .ok (.iload_n 2, 1) := by decide +kernel
theorem dX1_commandAt_17 : decode cX1_commandAt 17 = .ok (.iadd, 1) := by decide +kernel
theorem dX1_commandAt_18 : decode cX1_commandAt 18 = .ok (.iaload, 1) := by decide +kernel
theorem dX1_commandAt_19 : decode cX1_commandAt 19 = .ok (.ireturn, 1) := by decide +kernel
theorem dX1_rowOf_0 : decode cX1_rowOf 0 = .ok (.iload_n 0, 1) := by decide +kernel
theorem dX1_rowOf_1 : decode cX1_rowOf 1 = .ok (.bipush 51, 2) := by decide +kernel
theorem dX1_rowOf_3 : decode cX1_rowOf 3 = .ok (.invokestatic 117, 3) := by decide +kernel
theorem dX1_rowOf_6 : decode cX1_rowOf 6 = .ok (.bipush 12, 2) := by decide +kernel
theorem dX1_rowOf_8 : decode cX1_rowOf 8 = .ok (.imul, 1) := by decide +kernel
theorem dX1_rowOf_9 : decode cX1_rowOf 9 = .ok (.ireturn, 1) := by decide +kernel
theorem dX2_init_0 : decode cX2_init 0 = .ok (.aload_n 0, 1) := by decide +kernel
theorem dX2_init_1 : decode cX2_init 1 = .ok (.invokespecial 3, 3) := by decide +kernel
theorem dX2_init_4 : decode cX2_init 4 = .ok (.aload_n 0, 1) := by decide +kernel
theorem dX2_init_5 : decode cX2_init 5 = .ok (.new 9, 3) := by decide +kernel
theorem dX2_init_8 : decode cX2_init 8 = .ok (.dup, 1) := by decide +kernel
theorem dX2_init_9 : decode cX2_init 9 = .ok (.invokespecial 11, 3) := by decide +kernel
theorem dX2_init_12 : decode cX2_init 12 = .ok (.putfield 12, 3) := by decide +kernel
theorem dX2_init_15 : decode cX2_init 15 = .ok (.aload_n 0, 1) := by decide +kernel
theorem dX2_init_16 : decode cX2_init 16 = .ok (.bipush 80, 2) := by decide +kernel
theorem dX2_init_18 : decode cX2_init 18 = .ok (.newarray .char, 2) := by decide +kernel
theorem dX2_init_20 : decode cX2_init 20 = .ok (.putfield 18, 3) := by decide +kernel
theorem dX2_init_23 : decode cX2_init 23 = .ok (.aload_n 0, 1) := by decide +kernel
theorem dX2_init_24 : decode cX2_init 24 = .ok (.iconst 0, 1) := by decide +kernel
theorem dX2_init_25 : decode cX2_init 25 = .ok (.putfield 22, 3) := by decide +kernel
theorem dX2_init_28 : decode cX2_init 28 = .ok (.aload_n 0, 1) := by decide +kernel
theorem dX2_init_29 : decode cX2_init 29 = .ok (.iconst 0, 1) := by decide +kernel
theorem dX2_init_30 : decode cX2_init 30 = .ok (.putfield 26, 3) := by decide +kernel
theorem dX2_init_33 : decode cX2_init 33 = .ok (.aload_n 0, 1) := by decide +kernel
theorem dX2_init_34 : decode cX2_init 34 = .ok (.iconst 0, 1) := by decide +kernel
theorem dX2_init_35 : decode cX2_init 35 = .ok (.putfield 29, 3) := by decide +kernel
theorem dX2_init_38 : decode cX2_init 38 = .ok (.aload_n 0, 1) := by decide +kernel
theorem dX2_init_39 : decode cX2_init 39 = .ok (.iconst 0, 1) := by decide +kernel
theorem dX2_init_40 : decode cX2_init 40 = .ok (.putfield 32, 3) := by decide +kernel
theorem dX2_init_43 : decode cX2_init 43 = .ok (.aload_n 0, 1) := by decide +kernel
theorem dX2_init_44 : decode cX2_init 44 = .ok (.iconst (-1), 1) := by decide +kernel
theorem dX2_init_45 : decode cX2_init 45 = .ok (.putfield 35, 3) := by decide +kernel
theorem dX2_init_48 : decode cX2_init 48 = .ok (.return_, 1) := by decide +kernel
theorem dX2_append_0 : decode cX2_append 0 = .ok (.aload_n 0, 1) := by decide +kernel
theorem dX2_append_1 : decode cX2_append 1 = .ok (.getfield 22, 3) := by decide +kernel
theorem dX2_append_4 : decode cX2_append 4 = .ok (.bipush 80, 2) := by decide +kernel
theorem dX2_append_6 : decode cX2_append 6 = .ok (.if_icmp .lt 6, 3) := by decide +kernel
theorem dX2_append_9 : decode cX2_append 9 = .ok (.bipush (-4), 2) := by decide +kernel
theorem dX2_append_11 : decode cX2_append 11 = .ok (.ireturn, 1) := by decide +kernel
theorem dX2_append_12 : decode cX2_append 12 = .ok (.aload_n 0, 1) := by decide +kernel
theorem dX2_append_13 : decode cX2_append 13 = .ok (.getfield 18, 3) := by decide +kernel
theorem dX2_append_16 : decode cX2_append 16 = .ok (.aload_n 0, 1) := by decide +kernel
theorem dX2_append_17 : decode cX2_append 17 = .ok (.getfield 22, 3) := by decide +kernel
theorem dX2_append_20 : decode cX2_append 20 = .ok (.iload_n 1, 1) := by decide +kernel
theorem dX2_append_21 : decode cX2_append 21 = .ok (.castore, 1) := by decide +kernel
theorem dX2_append_22 : decode cX2_append 22 = .ok (.aload_n 0, 1) := by decide +kernel
theorem dX2_append_23 : decode cX2_append 23 = .ok (.dup, 1) := by decide +kernel
theorem dX2_append_24 : decode cX2_append 24 = .ok (.getfield 22, 3) := by decide +kernel
theorem dX2_append_27 : decode cX2_append 27 = .ok (.iconst 1, 1) := by decide +kernel
theorem dX2_append_28 : decode cX2_append 28 = .ok (.iadd, 1) := by decide +kernel
theorem dX2_append_29 : decode cX2_append 29 = .ok (.putfield 22, 3) := by decide +kernel
theorem dX2_append_32 : decode cX2_append 32 = .ok (.aload_n 0, 1) := by decide +kernel
theorem dX2_append_33 : decode cX2_append 33 = .ok (.getfield 22, 3) := by decide +kernel
theorem dX2_append_36 : decode cX2_append 36 = .ok (.ireturn, 1) := by decide +kernel
theorem dX2_findFault_0 : decode cX2_findFault 0 = .ok (.aload_n 0, 1) := by decide +kernel
theorem dX2_findFault_1 : decode cX2_findFault 1 = .ok (.getfield 12, 3) := by decide +kernel
theorem dX2_findFault_4 : decode cX2_findFault 4 = .ok (.iconst 0, 1) := by decide +kernel
theorem dX2_findFault_5 : decode cX2_findFault 5 = .ok (.putfield 38, 3) := by decide +kernel
theorem dX2_findFault_8 : decode cX2_findFault 8 = .ok (.aload_n 0, 1) := by decide +kernel
theorem dX2_findFault_9 : decode cX2_findFault 9 = .ok (.iconst 0, 1) := by decide +kernel
theorem dX2_findFault_10 : decode cX2_findFault 10 = .ok (.putfield 26, 3) := by decide +kernel
theorem dX2_findFault_13 : decode cX2_findFault 13 = .ok (.aload_n 0, 1) := by decide +kernel
theorem dX2_findFault_14 : decode cX2_findFault 14 = .ok (.iconst (-1), 1) := by decide +kernel
theorem dX2_findFault_15 : decode cX2_findFault 15 = .ok (.putfield 35, 3) := by decide +kernel
theorem dX2_findFault_18 : decode cX2_findFault 18 = .ok (.iconst 0, 1) := by decide +kernel
theorem dX2_findFault_19 : decode cX2_findFault 19 = .ok (.istore_n 1, 1) := by decide +kernel
theorem dX2_findFault_20 : decode cX2_findFault 20 = .ok (.iload_n 1, 1) := by decide +kernel
theorem dX2_findFault_21 : decode cX2_findFault 21 = .ok (.aload_n 0, 1) := by decide +kernel
theorem dX2_findFault_22 : decode cX2_findFault 22 = .ok (.getfield 22, 3) := by decide +kernel
theorem dX2_findFault_25 : decode cX2_findFault 25 = .ok (.if_icmp .ge 24, 3) := by decide +kernel
theorem dX2_findFault_28 : decode cX2_findFault 28 = .ok (.aload_n 0, 1) := by decide +kernel
theorem dX2_findFault_29 : decode cX2_findFault 29 = .ok (.aload_n 0, 1) := by decide +kernel
theorem dX2_findFault_30 : decode cX2_findFault 30 = .ok (.getfield 18, 3) := by decide +kernel
theorem dX2_findFault_33 : decode cX2_findFault 33 = .ok (.iload_n 1, 1) := by decide +kernel
theorem dX2_findFault_34 : decode cX2_findFault 34 = .ok (.caload, 1) := by decide +kernel
theorem dX2_findFault_35 : decode cX2_findFault 35 = .ok (.invokevirtual 41, 3) := by decide +kernel
theorem dX2_findFault_38 : decode cX2_findFault 38 = .ok (.ifCond .ne 5, 3) := by decide +kernel
theorem dX2_findFault_41 : decode cX2_findFault 41 = .ok (.iload_n 1, 1) := by decide +kernel
theorem dX2_findFault_42 : decode cX2_findFault 42 = .ok (.ireturn, 1) := by decide +kernel
theorem dX2_findFault_43 : decode cX2_findFault 43 = .ok (.iinc 1 1, 3) := by decide +kernel
theorem dX2_findFault_46 : decode cX2_findFault 46 = .ok (.goto (-26), 3) := by decide +kernel
theorem dX2_findFault_49 : decode cX2_findFault 49 = .ok (.aload_n 0, 1) := by decide +kernel
theorem dX2_findFault_50 : decode cX2_findFault 50 = .ok (.invokevirtual 45, 3) := by decide +kernel
theorem dX2_findFault_53 : decode cX2_findFault 53 = .ok (.ifCond .eq 8, 3) := by decide +kernel
theorem dX2_findFault_56 : decode cX2_findFault 56 = .ok (.bipush (-6), 2) := by decide +kernel
theorem dX2_findFault_58 : decode cX2_findFault 58 = .ok (.goto 7, 3) := by decide +kernel
theorem dX2_findFault_61 : decode cX2_findFault 61 = .ok (.aload_n 0, 1) := by decide +kernel
theorem dX2_findFault_62 : decode cX2_findFault 62 = .ok (.getfield 22, 3) := by decide +kernel
theorem dX2_findFault_65 : decode cX2_findFault 65 = .ok (.ireturn, 1) := by decide +kernel
theorem dX2_accepts_0 : decode cX2_accepts 0 = .ok (.aload_n 0, 1) := by decide +kernel
theorem dX2_accepts_1 : decode cX2_accepts 1 = .ok (.getfield 26, 3) := by decide +kernel
theorem dX2_accepts_4 : decode cX2_accepts 4 = .ok (.lookupswitch 69 #[(0, 28), (1, 50)], 28) := by decide +kernel
theorem dX2_accepts_32 : decode cX2_accepts 32 = .ok (.iload_n 1, 1) := by decide +kernel
theorem dX2_accepts_33 : decode cX2_accepts 33 = .ok (.bipush 58, 2) := by decide +kernel
theorem dX2_accepts_35 : decode cX2_accepts 35 = .ok (.if_icmp .ne 10, 3) := by decide +kernel
theorem dX2_accepts_38 : decode cX2_accepts 38 = .ok (.aload_n 0, 1) := by decide +kernel
theorem dX2_accepts_39 : decode cX2_accepts 39 = .ok (.invokevirtual 49, 3) := by decide +kernel
theorem dX2_accepts_42 : decode cX2_accepts 42 = .ok (.goto 11, 3) := by decide +kernel
theorem dX2_accepts_45 : decode cX2_accepts 45 = .ok (.aload_n 0, 1) := by decide +kernel
theorem dX2_accepts_46 : decode cX2_accepts 46 = .ok (.sipush 9999, 3) := by decide +kernel
theorem dX2_accepts_49 : decode cX2_accepts 49 = .ok (.iload_n 1, 1) := by decide +kernel
theorem dX2_accepts_50 : decode cX2_accepts 50 = .ok (.invokevirtual 52, 3) := by decide +kernel
theorem dX2_accepts_53 : decode cX2_accepts 53 = .ok (.ireturn, 1) := by decide +kernel
theorem dX2_accepts_54 : decode cX2_accepts 54 = .ok (.iload_n 1, 1) := by decide +kernel
theorem dX2_accepts_55 : decode cX2_accepts 55 = .ok (.bipush 61, 2) := by decide +kernel
theorem dX2_accepts_57 : decode cX2_accepts 57 = .ok (.if_icmp .ne 10, 3) := by decide +kernel
theorem dX2_accepts_60 : decode cX2_accepts 60 = .ok (.aload_n 0, 1) := by decide +kernel
theorem dX2_accepts_61 : decode cX2_accepts 61 = .ok (.invokevirtual 56, 3) := by decide +kernel
theorem dX2_accepts_64 : decode cX2_accepts 64 = .ok (.goto 8, 3) := by decide +kernel
theorem dX2_accepts_67 : decode cX2_accepts 67 = .ok (.aload_n 0, 1) := by decide +kernel
theorem dX2_accepts_68 : decode cX2_accepts 68 = .ok (.iload_n 1, 1) := by decide +kernel
theorem dX2_accepts_69 : decode cX2_accepts 69 = .ok (.invokevirtual 59, 3) := by decide +kernel
theorem dX2_accepts_72 : decode cX2_accepts 72 = .ok (.ireturn, 1) := by decide +kernel
theorem dX2_accepts_73 : decode cX2_accepts 73 = .ok (.iload_n 1, 1) := by decide +kernel
theorem dX2_accepts_74 : decode cX2_accepts 74 = .ok (.bipush 44, 2) := by decide +kernel
theorem dX2_accepts_76 : decode cX2_accepts 76 = .ok (.if_icmp .ne 10, 3) := by decide +kernel
theorem dX2_accepts_79 : decode cX2_accepts 79 = .ok (.aload_n 0, 1) := by decide +kernel
theorem dX2_accepts_80 : decode cX2_accepts 80 = .ok (.invokevirtual 45, 3) := by decide +kernel
theorem dX2_accepts_83 : decode cX2_accepts 83 = .ok (.goto 11, 3) := by decide +kernel
theorem dX2_accepts_86 : decode cX2_accepts 86 = .ok (.aload_n 0, 1) := by decide +kernel
theorem dX2_accepts_87 : decode cX2_accepts 87 = .ok (.sipush 1000, 3) := by decide +kernel
theorem dX2_accepts_90 : decode cX2_accepts 90 = .ok (.iload_n 1, 1) := by decide +kernel
theorem dX2_accepts_91 : decode cX2_accepts 91 = .ok (.invokevirtual 52, 3) := by decide +kernel
theorem dX2_accepts_94 : decode cX2_accepts 94 = .ok (.ireturn, 1) := by decide +kernel
theorem dX2_endsTime_0 : decode cX2_endsTime 0 = .ok (.aload_n 0, 1) := by decide +kernel
theorem dX2_endsTime_1 : decode cX2_endsTime 1 = .ok (.aload_n 0, 1) := by decide +kernel
theorem dX2_endsTime_2 : decode cX2_endsTime 2 = .ok (.getfield 35, 3) := by decide +kernel
theorem dX2_endsTime_5 : decode cX2_endsTime 5 = .ok (.putfield 29, 3) := by decide +kernel
theorem dX2_endsTime_8 : decode cX2_endsTime 8 = .ok (.aload_n 0, 1) := by decide +kernel
theorem dX2_endsTime_9 : decode cX2_endsTime 9 = .ok (.iconst 0, 1) := by decide +kernel
theorem dX2_endsTime_10 : decode cX2_endsTime 10 = .ok (.putfield 32, 3) := by decide +kernel
theorem dX2_endsTime_13 : decode cX2_endsTime 13 = .ok (.aload_n 0, 1) := by decide +kernel
theorem dX2_endsTime_14 : decode cX2_endsTime 14 = .ok (.iconst 1, 1) := by decide +kernel
theorem dX2_endsTime_15 : decode cX2_endsTime 15 = .ok (.putfield 26, 3) := by decide +kernel
theorem dX2_endsTime_18 : decode cX2_endsTime 18 = .ok (.aload_n 0, 1) := by decide +kernel
theorem dX2_endsTime_19 : decode cX2_endsTime 19 = .ok (.getfield 35, 3) := by decide +kernel
theorem dX2_endsTime_22 : decode cX2_endsTime 22 = .ok (.iconst (-1), 1) := by decide +kernel
theorem dX2_endsTime_23 : decode cX2_endsTime 23 = .ok (.if_icmp .eq 7, 3) := by decide +kernel
theorem dX2_endsTime_26 : decode cX2_endsTime 26 = .ok (.iconst 1, 1) := by decide +kernel
theorem dX2_endsTime_27 : decode cX2_endsTime 27 = .ok (.goto 4, 3) := by decide +kernel
theorem dX2_endsTime_30 : decode cX2_endsTime 30 = .ok (.iconst 0, 1) := by decide +kernel
theorem dX2_endsTime_31 : decode cX2_endsTime 31 = .ok (.ireturn, 1) := by decide +kernel
theorem dX2_endsSet_0 : decode cX2_endsSet 0 = .ok (.aload_n 0, 1) := by decide +kernel
theorem dX2_endsSet_1 : decode cX2_endsSet 1 = .ok (.iconst (-1), 1) := by decide +kernel
theorem dX2_endsSet_2 : decode cX2_endsSet 2 = .ok (.putfield 35, 3) := by decide +kernel
theorem dX2_endsSet_5 : decode cX2_endsSet 5 = .ok (.aload_n 0, 1) := by decide +kernel
theorem dX2_endsSet_6 : decode cX2_endsSet 6 = .ok (.iconst 2, 1) := by decide +kernel
theorem dX2_endsSet_7 : decode cX2_endsSet 7 = .ok (.putfield 26, 3) := by decide +kernel
theorem dX2_endsSet_10 : decode cX2_endsSet 10 = .ok (.aload_n 0, 1) := by decide +kernel
theorem dX2_endsSet_11 : decode cX2_endsSet 11 = .ok (.getfield 32, 3) := by decide +kernel
theorem dX2_endsSet_14 : decode cX2_endsSet 14 = .ok (.ifCond .eq 7, 3) := by decide +kernel
theorem dX2_endsSet_17 : decode cX2_endsSet 17 = .ok (.iconst 1, 1) := by decide +kernel
theorem dX2_endsSet_18 : decode cX2_endsSet 18 = .ok (.goto 4, 3) := by decide +kernel
theorem dX2_endsSet_21 : decode cX2_endsSet 21 = .ok (.iconst 0, 1) := by decide +kernel
theorem dX2_endsSet_22 : decode cX2_endsSet 22 = .ok (.ireturn, 1) := by decide +kernel
theorem dX2_endsCue_0 : decode cX2_endsCue 0 = .ok (.aload_n 0, 1) := by decide +kernel
theorem dX2_endsCue_1 : decode cX2_endsCue 1 = .ok (.getfield 26, 3) := by decide +kernel
theorem dX2_endsCue_4 : decode cX2_endsCue 4 = .ok (.iconst 2, 1) := by decide +kernel
theorem dX2_endsCue_5 : decode cX2_endsCue 5 = .ok (.if_icmp .ne 11, 3) := by decide +kernel
theorem dX2_endsCue_8 : decode cX2_endsCue 8 = .ok (.aload_n 0, 1) := by decide +kernel
theorem dX2_endsCue_9 : decode cX2_endsCue 9 = .ok (.getfield 35, 3) := by decide +kernel
theorem dX2_endsCue_12 : decode cX2_endsCue 12 = .ok (.iconst (-1), 1) := by decide +kernel
theorem dX2_endsCue_13 : decode cX2_endsCue 13 = .ok (.if_icmp .ne 5, 3) := by decide +kernel
theorem dX2_endsCue_16 : decode cX2_endsCue 16 = .ok (.iconst 0, 1) := by decide +kernel
theorem dX2_endsCue_17 : decode cX2_endsCue 17 = .ok (.ireturn, 1) := by decide +kernel
theorem dX2_endsCue_18 : decode cX2_endsCue 18 = .ok (.aload_n 0, 1) := by decide +kernel
theorem dX2_endsCue_19 : decode cX2_endsCue 19 = .ok (.getfield 12, 3) := by decide +kernel
theorem dX2_endsCue_22 : decode cX2_endsCue 22 = .ok (.aload_n 0, 1) := by decide +kernel
theorem dX2_endsCue_23 : decode cX2_endsCue 23 = .ok (.getfield 29, 3) := by decide +kernel
theorem dX2_endsCue_26 : decode cX2_endsCue 26 = .ok (.aload_n 0, 1) := by decide +kernel
theorem dX2_endsCue_27 : decode cX2_endsCue 27 = .ok (.getfield 32, 3) := by decide +kernel
theorem dX2_endsCue_30 : decode cX2_endsCue 30 = .ok (.aload_n 0, 1) := by decide +kernel
theorem dX2_endsCue_31 : decode cX2_endsCue 31 = .ok (.getfield 35, 3) := by decide +kernel
theorem dX2_endsCue_34 : decode cX2_endsCue 34 = .ok (.invokevirtual 62, 3) := by decide +kernel
theorem dX2_endsCue_37 : decode cX2_endsCue 37 = .ok (.pop, 1) := by decide +kernel
theorem dX2_endsCue_38 : decode cX2_endsCue 38 = .ok (.aload_n 0, 1) := by decide +kernel
theorem dX2_endsCue_39 : decode cX2_endsCue 39 = .ok (.iconst (-1), 1) := by decide +kernel
theorem dX2_endsCue_40 : decode cX2_endsCue 40 = .ok (.putfield 35, 3) := by decide +kernel
theorem dX2_endsCue_43 : decode cX2_endsCue 43 = .ok (.aload_n 0, 1) := by decide +kernel
theorem dX2_endsCue_44 : decode cX2_endsCue 44 = .ok (.iconst 0, 1) := by decide +kernel
theorem dX2_endsCue_45 : decode cX2_endsCue 45 = .ok (.putfield 26, 3) := by decide +kernel
theorem dX2_endsCue_48 : decode cX2_endsCue 48 = .ok (.iconst 1, 1) := by decide +kernel
theorem dX2_endsCue_49 : decode cX2_endsCue 49 = .ok (.ireturn, 1) := by decide +kernel
theorem dX2_isDigitUpTo_0 : decode cX2_isDigitUpTo 0 = .ok (.iload_n 2, 1) := by decide +kernel
theorem dX2_isDigitUpTo_1 : decode cX2_isDigitUpTo 1 = .ok (.bipush 48, 2) := by decide +kernel
theorem dX2_isDigitUpTo_3 : decode cX2_isDigitUpTo 3 = .ok (.if_icmp .lt 16, 3) := by decide +kernel
theorem dX2_isDigitUpTo_6 : decode cX2_isDigitUpTo 6 = .ok (.iload_n 2, 1) := by decide +kernel
theorem dX2_isDigitUpTo_7 : decode cX2_isDigitUpTo 7 = .ok (.bipush 57, 2) := by decide +kernel
theorem dX2_isDigitUpTo_9 : decode cX2_isDigitUpTo 9 = .ok (.if_icmp .gt 10, 3) := by decide +kernel
theorem dX2_isDigitUpTo_12 : decode cX2_isDigitUpTo 12 = .ok (.aload_n 0, 1) := by decide +kernel
theorem dX2_isDigitUpTo_13 : decode cX2_isDigitUpTo 13 = .ok (.getfield 35, 3) := by decide +kernel
theorem dX2_isDigitUpTo_16 : decode cX2_isDigitUpTo 16 = .ok (.ifCond .ne 5, 3) := by decide +kernel
theorem dX2_isDigitUpTo_19 : decode cX2_isDigitUpTo 19 = .ok (.iconst 0, 1) := by decide +kernel
theorem dX2_isDigitUpTo_20 : decode cX2_isDigitUpTo 20 = .ok (.ireturn, 1) := by decide +kernel
theorem dX2_isDigitUpTo_21 : decode cX2_isDigitUpTo 21 = .ok (.iload_n 2, 1) := by decide +kernel
theorem dX2_isDigitUpTo_22 : decode cX2_isDigitUpTo 22 = .ok (.bipush 48, 2) := by decide +kernel
theorem dX2_isDigitUpTo_24 : decode cX2_isDigitUpTo 24 = .ok (.isub, 1) := by decide +kernel
theorem dX2_isDigitUpTo_25 : decode cX2_isDigitUpTo 25 = .ok (.istore_n 3, 1) := by decide +kernel
theorem dX2_isDigitUpTo_26 : decode cX2_isDigitUpTo 26 = .ok (.aload_n 0, 1) := by decide +kernel
theorem dX2_isDigitUpTo_27 : decode cX2_isDigitUpTo 27 = .ok (.aload_n 0, 1) := by decide +kernel
theorem dX2_isDigitUpTo_28 : decode cX2_isDigitUpTo 28 = .ok (.getfield 35, 3) := by decide +kernel
theorem dX2_isDigitUpTo_31 : decode cX2_isDigitUpTo 31 = .ok (.iconst (-1), 1) := by decide +kernel
theorem dX2_isDigitUpTo_32 : decode cX2_isDigitUpTo 32 = .ok (.if_icmp .ne 7, 3) := by decide +kernel
theorem dX2_isDigitUpTo_35 : decode cX2_isDigitUpTo 35 = .ok (.iload_n 3, 1) := by decide +kernel
theorem dX2_isDigitUpTo_36 : decode cX2_isDigitUpTo 36 = .ok (.goto 12, 3) := by decide +kernel
theorem dX2_isDigitUpTo_39 : decode cX2_isDigitUpTo 39 = .ok (.bipush 10, 2) := by decide +kernel
theorem dX2_isDigitUpTo_41 : decode cX2_isDigitUpTo 41 = .ok (.aload_n 0, 1) := by decide +kernel
theorem dX2_isDigitUpTo_42 : decode cX2_isDigitUpTo 42 = .ok (.getfield 35, 3) := by decide +kernel
theorem dX2_isDigitUpTo_45 : decode cX2_isDigitUpTo 45 = .ok (.imul, 1) := by decide +kernel
theorem dX2_isDigitUpTo_46 : decode cX2_isDigitUpTo 46 = .ok (.iload_n 3, 1) := by decide +kernel
theorem dX2_isDigitUpTo_47 : decode cX2_isDigitUpTo 47 = .ok (.iadd, 1) := by decide +kernel
theorem dX2_isDigitUpTo_48 : decode cX2_isDigitUpTo 48 = .ok (.putfield 35, 3) := by decide +kernel
theorem dX2_isDigitUpTo_51 : decode cX2_isDigitUpTo 51 = .ok (.aload_n 0, 1) := by decide +kernel
theorem dX2_isDigitUpTo_52 : decode cX2_isDigitUpTo 52 = .ok (.getfield 35, 3) := by decide +kernel
theorem dX2_isDigitUpTo_55 : decode cX2_isDigitUpTo 55 = .ok (.iload_n 1, 1) := by decide +kernel
theorem dX2_isDigitUpTo_56 : decode cX2_isDigitUpTo 56 = .ok (.if_icmp .gt 7, 3) := by decide +kernel
theorem dX2_isDigitUpTo_59 : decode cX2_isDigitUpTo 59 = .ok (.iconst 1, 1) := by decide +kernel
theorem dX2_isDigitUpTo_60 : decode cX2_isDigitUpTo 60 = .ok (.goto 4, 3) := by decide +kernel
theorem dX2_isDigitUpTo_63 : decode cX2_isDigitUpTo 63 = .ok (.iconst 0, 1) := by decide +kernel
theorem dX2_isDigitUpTo_64 : decode cX2_isDigitUpTo 64 = .ok (.ireturn, 1) := by decide +kernel
theorem dX2_isLetter_0 : decode cX2_isLetter 0 = .ok (.iload_n 1, 1) := by decide +kernel
theorem dX2_isLetter_1 : decode cX2_isLetter 1 = .ok (.bipush 97, 2) := by decide +kernel
theorem dX2_isLetter_3 : decode cX2_isLetter 3 = .ok (.if_icmp .lt 9, 3) := by decide +kernel
theorem dX2_isLetter_6 : decode cX2_isLetter 6 = .ok (.iload_n 1, 1) := by decide +kernel
theorem dX2_isLetter_7 : decode cX2_isLetter 7 = .ok (.bipush 108, 2) := by decide +kernel
theorem dX2_isLetter_9 : decode cX2_isLetter 9 = .ok (.if_icmp .le 5, 3) := by decide +kernel
theorem dX2_isLetter_12 : decode cX2_isLetter 12 = .ok (.iconst 0, 1) := by decide +kernel
theorem dX2_isLetter_13 : decode cX2_isLetter 13 = .ok (.ireturn, 1) := by decide +kernel
theorem dX2_isLetter_14 : decode cX2_isLetter 14 = .ok (.iconst 1, 1) := by decide +kernel
theorem dX2_isLetter_15 : decode cX2_isLetter 15 = .ok (.iload_n 1, 1) := by decide +kernel
theorem dX2_isLetter_16 : decode cX2_isLetter 16 = .ok (.bipush 97, 2) := by decide +kernel
theorem dX2_isLetter_18 : decode cX2_isLetter 18 = .ok (.isub, 1) := by decide +kernel
theorem dX2_isLetter_19 : decode cX2_isLetter 19 = .ok (.ishl, 1) := by decide +kernel
theorem dX2_isLetter_20 : decode cX2_isLetter 20 = .ok (.istore_n 2, 1) := by decide +kernel
theorem dX2_isLetter_21 : decode cX2_isLetter 21 = .ok (.iload_n 2, 1) := by decide +kernel
theorem dX2_isLetter_22 : decode cX2_isLetter 22 = .ok (.aload_n 0, 1) := by decide +kernel
theorem dX2_isLetter_23 : decode cX2_isLetter 23 = .ok (.getfield 32, 3) := by decide +kernel
theorem dX2_isLetter_26 : decode cX2_isLetter 26 = .ok (.if_icmp .le 7, 3) := by decide +kernel
theorem dX2_isLetter_29 : decode cX2_isLetter 29 = .ok (.iconst 1, 1) := by decide +kernel
theorem dX2_isLetter_30 : decode cX2_isLetter 30 = .ok (.goto 4, 3) := by decide +kernel
theorem dX2_isLetter_33 : decode cX2_isLetter 33 = .ok (.iconst 0, 1) := by decide +kernel
theorem dX2_isLetter_34 : decode cX2_isLetter 34 = .ok (.istore_n 3, 1) := by decide +kernel
theorem dX2_isLetter_35 : decode cX2_isLetter 35 = .ok (.aload_n 0, 1) := by decide +kernel
theorem dX2_isLetter_36 : decode cX2_isLetter 36 = .ok (.dup, 1) := by decide +kernel
theorem dX2_isLetter_37 : decode cX2_isLetter 37 = .ok (.getfield 32, 3) := by decide +kernel
theorem dX2_isLetter_40 : decode cX2_isLetter 40 = .ok (.iload_n 2, 1) := by decide +kernel
theorem dX2_isLetter_41 : decode cX2_isLetter 41 = .ok (.ior, 1) := by decide +kernel
theorem dX2_isLetter_42 : decode cX2_isLetter 42 = .ok (.putfield 32, 3) := by decide +kernel
theorem dX2_isLetter_45 : decode cX2_isLetter 45 = .ok (.iload_n 3, 1) := by decide +kernel
theorem dX2_isLetter_46 : decode cX2_isLetter 46 = .ok (.ireturn, 1) := by decide +kernel
theorem dX3_init_0 : decode cX3_init 0 = .ok (.aload_n 0, 1) := by decide +kernel
theorem dX3_init_1 : decode cX3_init 1 = .ok (.invokespecial 3, 3) := by decide +kernel
theorem dX3_init_4 : decode cX3_init 4 = .ok (.aload_n 0, 1) := by decide +kernel
theorem dX3_init_5 : decode cX3_init 5 = .ok (.new 9, 3) := by decide +kernel
theorem dX3_init_8 : decode cX3_init 8 = .ok (.dup, 1) := by decide +kernel
theorem dX3_init_9 : decode cX3_init 9 = .ok (.iconst 3, 1) := by decide +kernel
theorem dX3_init_10 : decode cX3_init 10 = .ok (.getstatic 11, 3) := by decide +kernel
theorem dX3_init_13 : decode cX3_init 13 = .ok (.getstatic 15, 3) := by decide +kernel
theorem dX3_init_16 : decode cX3_init 16 = .ok (.getstatic 18, 3) := by decide +kernel
theorem dX3_init_19 : decode cX3_init 19 = .ok (.invokespecial 21, 3) := by decide +kernel
theorem dX3_init_22 : decode cX3_init 22 = .ok (.putfield 24, 3) := by decide +kernel
theorem dX3_init_25 : decode cX3_init 25 = .ok (.aload_n 0, 1) := by decide +kernel
theorem dX3_init_26 : decode cX3_init 26 = .ok (.iconst 3, 1) := by decide +kernel
theorem dX3_init_27 : decode cX3_init 27 = .ok (.newarray .int, 2) := by decide +kernel
theorem dX3_init_29 : decode cX3_init 29 = .ok (.putfield 30, 3) := by decide +kernel
theorem dX3_init_32 : decode cX3_init 32 = .ok (.aload_n 0, 1) := by decide +kernel
theorem dX3_init_33 : decode cX3_init 33 = .ok (.iconst 3, 1) := by decide +kernel
theorem dX3_init_34 : decode cX3_init 34 = .ok (.newarray .int, 2) := by decide +kernel
theorem dX3_init_36 : decode cX3_init 36 = .ok (.putfield 33, 3) := by decide +kernel
theorem dX3_init_39 : decode cX3_init 39 = .ok (.aload_n 0, 1) := by decide +kernel
theorem dX3_init_40 : decode cX3_init 40 = .ok (.iconst 3, 1) := by decide +kernel
theorem dX3_init_41 : decode cX3_init 41 = .ok (.newarray .int, 2) := by decide +kernel
theorem dX3_init_43 : decode cX3_init 43 = .ok (.putfield 36, 3) := by decide +kernel
theorem dX3_init_46 : decode cX3_init 46 = .ok (.return_, 1) := by decide +kernel
theorem dX3_goBack_0 : decode cX3_goBack 0 = .ok (.aload_n 0, 1) := by decide +kernel
theorem dX3_goBack_1 : decode cX3_goBack 1 = .ok (.getfield 30, 3) := by decide +kernel
theorem dX3_goBack_4 : decode cX3_goBack 4 = .ok (.invokestatic 39, 3) := by decide +kernel
theorem dX3_goBack_7 : decode cX3_goBack 7 = .ok (.aload_n 0, 1) := by decide +kernel
theorem dX3_goBack_8 : decode cX3_goBack 8 = .ok (.getfield 33, 3) := by decide +kernel
theorem dX3_goBack_11 : decode cX3_goBack 11 = .ok (.invokestatic 39, 3) := by decide +kernel
theorem dX3_goBack_14 : decode cX3_goBack 14 = .ok (.aload_n 0, 1) := by decide +kernel
theorem dX3_goBack_15 : decode cX3_goBack 15 = .ok (.getfield 36, 3) := by decide +kernel
theorem dX3_goBack_18 : decode cX3_goBack 18 = .ok (.invokestatic 39, 3) := by decide +kernel
theorem dX3_goBack_21 : decode cX3_goBack 21 = .ok (.return_, 1) := by decide +kernel
theorem dX3_copy_0 : decode cX3_copy 0 = .ok (.aload_n 0, 1) := by decide +kernel
theorem dX3_copy_1 : decode cX3_copy 1 = .ok (.getfield 24, 3) := by decide +kernel
theorem dX3_copy_4 : decode cX3_copy 4 = .ok (.aload_n 1, 1) := by decide +kernel
theorem dX3_copy_5 : decode cX3_copy 5 = .ok (.getfield 24, 3) := by decide +kernel
theorem dX3_copy_8 : decode cX3_copy 8 = .ok (.invokevirtual 43, 3) := by decide +kernel
theorem dX3_copy_11 : decode cX3_copy 11 = .ok (.aload_n 1, 1) := by decide +kernel
theorem dX3_copy_12 : decode cX3_copy 12 = .ok (.getfield 30, 3) := by decide +kernel
theorem dX3_copy_15 : decode cX3_copy 15 = .ok (.aload_n 0, 1) := by decide +kernel
theorem dX3_copy_16 : decode cX3_copy 16 = .ok (.getfield 30, 3) := by decide +kernel
theorem dX3_copy_19 : decode cX3_copy 19 = .ok (.invokestatic 47, 3) := by decide +kernel
theorem dX3_copy_22 : decode cX3_copy 22 = .ok (.aload_n 1, 1) := by decide +kernel
theorem dX3_copy_23 : decode cX3_copy 23 = .ok (.getfield 33, 3) := by decide +kernel
theorem dX3_copy_26 : decode cX3_copy 26 = .ok (.aload_n 0, 1) := by decide +kernel
theorem dX3_copy_27 : decode cX3_copy 27 = .ok (.getfield 33, 3) := by decide +kernel
theorem dX3_copy_30 : decode cX3_copy 30 = .ok (.invokestatic 47, 3) := by decide +kernel
theorem dX3_copy_33 : decode cX3_copy 33 = .ok (.aload_n 1, 1) := by decide +kernel
theorem dX3_copy_34 : decode cX3_copy 34 = .ok (.getfield 36, 3) := by decide +kernel
theorem dX3_copy_37 : decode cX3_copy 37 = .ok (.aload_n 0, 1) := by decide +kernel
theorem dX3_copy_38 : decode cX3_copy 38 = .ok (.getfield 36, 3) := by decide +kernel
theorem dX3_copy_41 : decode cX3_copy 41 = .ok (.invokestatic 47, 3) := by decide +kernel
theorem dX3_copy_44 : decode cX3_copy 44 = .ok (.return_, 1) := by decide +kernel
theorem dX3_supply_0 : decode cX3_supply 0 = .ok (.iconst 0, 1) := by decide +kernel
theorem dX3_supply_1 : decode cX3_supply 1 = .ok (.istore_n 2, 1) := by decide +kernel
theorem dX3_supply_2 : decode cX3_supply 2 = .ok (.iload_n 2, 1) := by decide +kernel
theorem dX3_supply_3 : decode cX3_supply 3 = .ok (.iconst 3, 1) := by decide +kernel
theorem dX3_supply_4 : decode cX3_supply 4 = .ok (.if_icmp .ge 89, 3) := by decide +kernel
theorem dX3_supply_7 : decode cX3_supply 7 = .ok (.aload_n 0, 1) := by decide +kernel
theorem dX3_supply_8 : decode cX3_supply 8 = .ok (.getfield 33, 3) := by decide +kernel
theorem dX3_supply_11 : decode cX3_supply 11 = .ok (.iload_n 2, 1) := by decide +kernel
theorem dX3_supply_12 : decode cX3_supply 12 = .ok (.aload_n 1, 1) := by decide +kernel
theorem dX3_supply_13 : decode cX3_supply 13 = .ok (.iload_n 2, 1) := by decide +kernel
theorem dX3_supply_14 : decode cX3_supply 14 = .ok (.invokevirtual 51, 3) := by decide +kernel
theorem dX3_supply_17 : decode cX3_supply 17 = .ok (.iastore, 1) := by decide +kernel
theorem dX3_supply_18 : decode cX3_supply 18 = .ok (.aload_n 0, 1) := by decide +kernel
theorem dX3_supply_19 : decode cX3_supply 19 = .ok (.getfield 33, 3) := by decide +kernel
theorem dX3_supply_22 : decode cX3_supply 22 = .ok (.iload_n 2, 1) := by decide +kernel
theorem dX3_supply_23 : decode cX3_supply 23 = .ok (.iaload, 1) := by decide +kernel
theorem dX3_supply_24 : decode cX3_supply 24 = .ok (.sipush 1000, 3) := by decide +kernel
theorem dX3_supply_27 : decode cX3_supply 27 = .ok (.aload_n 0, 1) := by decide +kernel
theorem dX3_supply_28 : decode cX3_supply 28 = .ok (.getfield 24, 3) := by decide +kernel
theorem dX3_supply_31 : decode cX3_supply 31 = .ok (.iload_n 2, 1) := by decide +kernel
theorem dX3_supply_32 : decode cX3_supply 32 = .ok (.iconst 0, 1) := by decide +kernel
theorem dX3_supply_33 : decode cX3_supply 33 = .ok (.invokevirtual 57, 3) := by decide +kernel
theorem dX3_supply_36 : decode cX3_supply 36 = .ok (.imul, 1) := by decide +kernel
theorem dX3_supply_37 : decode cX3_supply 37 = .ok (.invokestatic 61, 3) := by decide +kernel
theorem dX3_supply_40 : decode cX3_supply 40 = .ok (.istore_n 3, 1) := by decide +kernel
theorem dX3_supply_41 : decode cX3_supply 41 = .ok (.aload_n 0, 1) := by decide +kernel
theorem dX3_supply_42 : decode cX3_supply 42 = .ok (.getfield 30, 3) := by decide +kernel
theorem dX3_supply_45 : decode cX3_supply 45 = .ok (.iload_n 2, 1) := by decide +kernel
theorem dX3_supply_46 : decode cX3_supply 46 = .ok (.aload_n 0, 1) := by decide +kernel
theorem dX3_supply_47 : decode cX3_supply 47 = .ok (.getfield 30, 3) := by decide +kernel
theorem dX3_supply_50 : decode cX3_supply 50 = .ok (.iload_n 2, 1) := by decide +kernel
theorem dX3_supply_51 : decode cX3_supply 51 = .ok (.iaload, 1) := by decide +kernel
theorem dX3_supply_52 : decode cX3_supply 52 = .ok (.iload_n 3, 1) := by decide +kernel
theorem dX3_supply_53 : decode cX3_supply 53 = .ok (.sipush 1000, 3) := by decide +kernel
theorem dX3_supply_56 : decode cX3_supply 56 = .ok (.aload_n 0, 1) := by decide +kernel
theorem dX3_supply_57 : decode cX3_supply 57 = .ok (.getfield 24, 3) := by decide +kernel
theorem dX3_supply_60 : decode cX3_supply 60 = .ok (.iload_n 2, 1) := by decide +kernel
theorem dX3_supply_61 : decode cX3_supply 61 = .ok (.iconst 1, 1) := by decide +kernel
theorem dX3_supply_62 : decode cX3_supply 62 = .ok (.invokevirtual 57, 3) := by decide +kernel
theorem dX3_supply_65 : decode cX3_supply 65 = .ok (.imul, 1) := by decide +kernel
theorem dX3_supply_66 : decode cX3_supply 66 = .ok (.invokestatic 66, 3) := by decide +kernel
theorem dX3_supply_69 : decode cX3_supply 69 = .ok (.iastore, 1) := by decide +kernel
theorem dX3_supply_70 : decode cX3_supply 70 = .ok (.aload_n 1, 1) := by decide +kernel
theorem dX3_supply_71 : decode cX3_supply 71 = .ok (.iload_n 2, 1) := by decide +kernel
theorem dX3_supply_72 : decode cX3_supply 72 = .ok (.aload_n 0, 1) := by decide +kernel
theorem dX3_supply_73 : decode cX3_supply 73 = .ok (.getfield 33, 3) := by decide +kernel
theorem dX3_supply_76 : decode cX3_supply 76 = .ok (.iload_n 2, 1) := by decide +kernel
theorem dX3_supply_77 : decode cX3_supply 77 = .ok (.iaload, 1) := by decide +kernel
theorem dX3_supply_78 : decode cX3_supply 78 = .ok (.aload_n 0, 1) := by decide +kernel
theorem dX3_supply_79 : decode cX3_supply 79 = .ok (.getfield 30, 3) := by decide +kernel
theorem dX3_supply_82 : decode cX3_supply 82 = .ok (.iload_n 2, 1) := by decide +kernel
theorem dX3_supply_83 : decode cX3_supply 83 = .ok (.iaload, 1) := by decide +kernel
theorem dX3_supply_84 : decode cX3_supply 84 = .ok (.invokevirtual 70, 3) := by decide +kernel
theorem dX3_supply_87 : decode cX3_supply 87 = .ok (.iinc 2 1, 3) := by decide +kernel
theorem dX3_supply_90 : decode cX3_supply 90 = .ok (.goto (-88), 3) := by decide +kernel
theorem dX3_supply_93 : decode cX3_supply 93 = .ok (.return_, 1) := by decide +kernel
theorem dX3_countShort_0 : decode cX3_countShort 0 = .ok (.iconst 0, 1) := by decide +kernel
theorem dX3_countShort_1 : decode cX3_countShort 1 = .ok (.istore_n 1, 1) := by decide +kernel
theorem dX3_countShort_2 : decode cX3_countShort 2 = .ok (.iload_n 1, 1) := by decide +kernel
theorem dX3_countShort_3 : decode cX3_countShort 3 = .ok (.iconst 3, 1) := by decide +kernel
theorem dX3_countShort_4 : decode cX3_countShort 4 = .ok (.if_icmp .ge 27, 3) := by decide +kernel
theorem dX3_countShort_7 : decode cX3_countShort 7 = .ok (.aload_n 0, 1) := by decide +kernel
theorem dX3_countShort_8 : decode cX3_countShort 8 = .ok (.iload_n 1, 1) := by decide +kernel
theorem dX3_countShort_9 : decode cX3_countShort 9 = .ok (.invokevirtual 74, 3) := by decide +kernel
theorem dX3_countShort_12 : decode cX3_countShort 12 = .ok (.ifCond .eq 13, 3) := by decide +kernel
theorem dX3_countShort_15 : decode cX3_countShort 15 = .ok (.aload_n 0, 1) := by decide +kernel
theorem dX3_countShort_16 : decode cX3_countShort 16 = .ok (.getfield 36, 3) := by decide +kernel
theorem dX3_countShort_19 : decode cX3_countShort 19 = .ok (.iload_n 1, 1) := by decide +kernel
theorem dX3_countShort_20 : decode cX3_countShort 20 = .ok (.dup2, 1) := by decide +kernel
theorem dX3_countShort_21 : decode cX3_countShort 21 = .ok (.iaload, 1) := by decide +kernel
theorem dX3_countShort_22 : decode cX3_countShort 22 = .ok (.iconst 1, 1) := by decide +kernel
theorem dX3_countShort_23 : decode cX3_countShort 23 = .ok (.iadd, 1) := by decide +kernel
theorem dX3_countShort_24 : decode cX3_countShort 24 = .ok (.iastore, 1) := by decide +kernel
theorem dX3_countShort_25 : decode cX3_countShort 25 = .ok (.iinc 1 1, 3) := by decide +kernel
theorem dX3_countShort_28 : decode cX3_countShort 28 = .ok (.goto (-26), 3) := by decide +kernel
theorem dX3_countShort_31 : decode cX3_countShort 31 = .ok (.return_, 1) := by decide +kernel
theorem dX3_isShort_0 : decode cX3_isShort 0 = .ok (.aload_n 0, 1) := by decide +kernel
theorem dX3_isShort_1 : decode cX3_isShort 1 = .ok (.getfield 33, 3) := by decide +kernel
theorem dX3_isShort_4 : decode cX3_isShort 4 = .ok (.iload_n 1, 1) := by decide +kernel
theorem dX3_isShort_5 : decode cX3_isShort 5 = .ok (.iaload, 1) := by decide +kernel
theorem dX3_isShort_6 : decode cX3_isShort 6 = .ok (.aload_n 0, 1) := by decide +kernel
theorem dX3_isShort_7 : decode cX3_isShort 7 = .ok (.getfield 30, 3) := by decide +kernel
theorem dX3_isShort_10 : decode cX3_isShort 10 = .ok (.iload_n 1, 1) := by decide +kernel
theorem dX3_isShort_11 : decode cX3_isShort 11 = .ok (.iaload, 1) := by decide +kernel
theorem dX3_isShort_12 : decode cX3_isShort 12 = .ok (.if_icmp .le 7, 3) := by decide +kernel
theorem dX3_isShort_15 : decode cX3_isShort 15 = .ok (.iconst 1, 1) := by decide +kernel
theorem dX3_isShort_16 : decode cX3_isShort 16 = .ok (.goto 4, 3) := by decide +kernel
theorem dX3_isShort_19 : decode cX3_isShort 19 = .ok (.iconst 0, 1) := by decide +kernel
theorem dX3_isShort_20 : decode cX3_isShort 20 = .ok (.ireturn, 1) := by decide +kernel
theorem dX3_someShort_0 : decode cX3_someShort 0 = .ok (.iconst 0, 1) := by decide +kernel
theorem dX3_someShort_1 : decode cX3_someShort 1 = .ok (.istore_n 1, 1) := by decide +kernel
theorem dX3_someShort_2 : decode cX3_someShort 2 = .ok (.iload_n 1, 1) := by decide +kernel
theorem dX3_someShort_3 : decode cX3_someShort 3 = .ok (.iconst 3, 1) := by decide +kernel
theorem dX3_someShort_4 : decode cX3_someShort 4 = .ok (.if_icmp .ge 19, 3) := by decide +kernel
theorem dX3_someShort_7 : decode cX3_someShort 7 = .ok (.aload_n 0, 1) := by decide +kernel
theorem dX3_someShort_8 : decode cX3_someShort 8 = .ok (.iload_n 1, 1) := by decide +kernel
theorem dX3_someShort_9 : decode cX3_someShort 9 = .ok (.invokevirtual 74, 3) := by decide +kernel
theorem dX3_someShort_12 : decode cX3_someShort 12 = .ok (.ifCond .eq 5, 3) := by decide +kernel
theorem dX3_someShort_15 : decode cX3_someShort 15 = .ok (.iconst 1, 1) := by decide +kernel
theorem dX3_someShort_16 : decode cX3_someShort 16 = .ok (.ireturn, 1) := by decide +kernel
theorem dX3_someShort_17 : decode cX3_someShort 17 = .ok (.iinc 1 1, 3) := by decide +kernel
theorem dX3_someShort_20 : decode cX3_someShort 20 = .ok (.goto (-18), 3) := by decide +kernel
theorem dX3_someShort_23 : decode cX3_someShort 23 = .ok (.iconst 0, 1) := by decide +kernel
theorem dX3_someShort_24 : decode cX3_someShort 24 = .ok (.ireturn, 1) := by decide +kernel
theorem dX4_init_0 : decode cX4_init 0 = .ok (.aload_n 0, 1) := by decide +kernel
theorem dX4_init_1 : decode cX4_init 1 = .ok (.invokespecial 3, 3) := by decide +kernel
theorem dX4_init_4 : decode cX4_init 4 = .ok (.aload_n 0, 1) := by decide +kernel
theorem dX4_init_5 : decode cX4_init 5 = .ok (.iconst 0, 1) := by decide +kernel
theorem dX4_init_6 : decode cX4_init 6 = .ok (.iload_n 1, 1) := by decide +kernel
theorem dX4_init_7 : decode cX4_init 7 = .ok (.invokestatic 9, 3) := by decide +kernel
theorem dX4_init_10 : decode cX4_init 10 = .ok (.putfield 15, 3) := by decide +kernel
theorem dX4_init_13 : decode cX4_init 13 = .ok (.aload_n 0, 1) := by decide +kernel
theorem dX4_init_14 : decode cX4_init 14 = .ok (.aload_n 2, 1) := by decide +kernel
theorem dX4_init_15 : decode cX4_init 15 = .ok (.putfield 21, 3) := by decide +kernel
theorem dX4_init_18 : decode cX4_init 18 = .ok (.aload_n 0, 1) := by decide +kernel
theorem dX4_init_19 : decode cX4_init 19 = .ok (.aload_n 3, 1) := by decide +kernel
theorem dX4_init_20 : decode cX4_init 20 = .ok (.putfield 25, 3) := by decide +kernel
theorem dX4_init_23 : decode cX4_init 23 = .ok (.aload_n 0, 1) := by decide +kernel
theorem dX4_init_24 : decode cX4_init 24 = .ok (.aload 4, 2) := by decide +kernel
theorem dX4_init_26 : decode cX4_init 26 = .ok (.putfield 28, 3) := by decide +kernel
theorem dX4_init_29 : decode cX4_init 29 = .ok (.aload_n 0, 1) := by decide +kernel
theorem dX4_init_30 : decode cX4_init 30 = .ok (.aload_n 0, 1) := by decide +kernel
theorem dX4_init_31 : decode cX4_init 31 = .ok (.getfield 15, 3) := by decide +kernel
theorem dX4_init_34 : decode cX4_init 34 = .ok (.aload 4, 2) := by decide +kernel
theorem dX4_init_36 : decode cX4_init 36 = .ok (.arraylength, 1) := by decide +kernel
theorem dX4_init_37 : decode cX4_init 37 = .ok (.imul, 1) := by decide +kernel
theorem dX4_init_38 : decode cX4_init 38 = .ok (.newarray .int, 2) := by decide +kernel
theorem dX4_init_40 : decode cX4_init 40 = .ok (.putfield 31, 3) := by decide +kernel
theorem dX4_init_43 : decode cX4_init 43 = .ok (.aload_n 0, 1) := by decide +kernel
theorem dX4_init_44 : decode cX4_init 44 = .ok (.invokevirtual 34, 3) := by decide +kernel
theorem dX4_init_47 : decode cX4_init 47 = .ok (.return_, 1) := by decide +kernel
theorem dX4_reset_0 : decode cX4_reset 0 = .ok (.iconst 0, 1) := by decide +kernel
theorem dX4_reset_1 : decode cX4_reset 1 = .ok (.istore_n 1, 1) := by decide +kernel
theorem dX4_reset_2 : decode cX4_reset 2 = .ok (.iload_n 1, 1) := by decide +kernel
theorem dX4_reset_3 : decode cX4_reset 3 = .ok (.aload_n 0, 1) := by decide +kernel
theorem dX4_reset_4 : decode cX4_reset 4 = .ok (.getfield 15, 3) := by decide +kernel
theorem dX4_reset_7 : decode cX4_reset 7 = .ok (.if_icmp .ge 33, 3) := by decide +kernel
theorem dX4_reset_10 : decode cX4_reset 10 = .ok (.aload_n 0, 1) := by decide +kernel
theorem dX4_reset_11 : decode cX4_reset 11 = .ok (.getfield 28, 3) := by decide +kernel
theorem dX4_reset_14 : decode cX4_reset 14 = .ok (.iconst 0, 1) := by decide +kernel
theorem dX4_reset_15 : decode cX4_reset 15 = .ok (.aload_n 0, 1) := by decide +kernel
theorem dX4_reset_16 : decode cX4_reset 16 = .ok (.getfield 31, 3) := by decide +kernel
theorem dX4_reset_19 : decode cX4_reset 19 = .ok (.iload_n 1, 1) := by decide +kernel
theorem dX4_reset_20 : decode cX4_reset 20 = .ok (.aload_n 0, 1) := by decide +kernel
theorem dX4_reset_21 : decode cX4_reset 21 = .ok (.getfield 28, 3) := by decide +kernel
theorem dX4_reset_24 : decode cX4_reset 24 = .ok (.arraylength, 1) := by decide +kernel
theorem dX4_reset_25 : decode cX4_reset 25 = .ok (.imul, 1) := by decide +kernel
theorem dX4_reset_26 : decode cX4_reset 26 = .ok (.aload_n 0, 1) := by decide +kernel
theorem dX4_reset_27 : decode cX4_reset 27 = .ok (.getfield 28, 3) := by decide +kernel
theorem dX4_reset_30 : decode cX4_reset 30 = .ok (.arraylength, 1) := by decide +kernel
theorem dX4_reset_31 : decode cX4_reset 31 = .ok (.invokestatic 37, 3) := by decide +kernel
theorem dX4_reset_34 : decode cX4_reset 34 = .ok (.iinc 1 1, 3) := by decide +kernel
theorem dX4_reset_37 : decode cX4_reset 37 = .ok (.goto (-35), 3) := by decide +kernel
theorem dX4_reset_40 : decode cX4_reset 40 = .ok (.return_, 1) := by decide +kernel
theorem dX4_value_0 : decode cX4_value 0 = .ok (.iload_n 1, 1) := by decide +kernel
theorem dX4_value_1 : decode cX4_value 1 = .ok (.aload_n 0, 1) := by decide +kernel
theorem dX4_value_2 : decode cX4_value 2 = .ok (.getfield 28, 3) := by decide +kernel
theorem dX4_value_5 : decode cX4_value 5 = .ok (.arraylength, 1) := by decide +kernel
theorem dX4_value_6 : decode cX4_value 6 = .ok (.imul, 1) := by decide +kernel
theorem dX4_value_7 : decode cX4_value 7 = .ok (.iload_n 2, 1) := by decide +kernel
theorem dX4_value_8 : decode cX4_value 8 = .ok (.iadd, 1) := by decide +kernel
theorem dX4_value_9 : decode cX4_value 9 = .ok (.istore_n 3, 1) := by decide +kernel
theorem dX4_value_10 : decode cX4_value 10 = .ok (.iload_n 3, 1) := by decide +kernel
theorem dX4_value_11 : decode cX4_value 11 = .ok (.ifCond .lt 21, 3) := by decide +kernel
theorem dX4_value_14 : decode cX4_value 14 = .ok (.iload_n 3, 1) := by decide +kernel
theorem dX4_value_15 : decode cX4_value 15 = .ok (.aload_n 0, 1) := by decide +kernel
theorem dX4_value_16 : decode cX4_value 16 = .ok (.getfield 31, 3) := by decide +kernel
theorem dX4_value_19 : decode cX4_value 19 = .ok (.arraylength, 1) := by decide +kernel
theorem dX4_value_20 : decode cX4_value 20 = .ok (.if_icmp .ge 12, 3) := by decide +kernel
theorem dX4_value_23 : decode cX4_value 23 = .ok (.aload_n 0, 1) := by decide +kernel
theorem dX4_value_24 : decode cX4_value 24 = .ok (.getfield 31, 3) := by decide +kernel
theorem dX4_value_27 : decode cX4_value 27 = .ok (.iload_n 3, 1) := by decide +kernel
theorem dX4_value_28 : decode cX4_value 28 = .ok (.iaload, 1) := by decide +kernel
theorem dX4_value_29 : decode cX4_value 29 = .ok (.goto 4, 3) := by decide +kernel
theorem dX4_value_32 : decode cX4_value 32 = .ok (.iconst 0, 1) := by decide +kernel
theorem dX4_value_33 : decode cX4_value 33 = .ok (.ireturn, 1) := by decide +kernel
theorem dX4_change_0 : decode cX4_change 0 = .ok (.iload_n 1, 1) := by decide +kernel
theorem dX4_change_1 : decode cX4_change 1 = .ok (.iconst 0, 1) := by decide +kernel
theorem dX4_change_2 : decode cX4_change 2 = .ok (.aload_n 0, 1) := by decide +kernel
theorem dX4_change_3 : decode cX4_change 3 = .ok (.getfield 15, 3) := by decide +kernel
theorem dX4_change_6 : decode cX4_change 6 = .ok (.iconst 1, 1) := by decide +kernel
theorem dX4_change_7 : decode cX4_change 7 = .ok (.isub, 1) := by decide +kernel
theorem dX4_change_8 : decode cX4_change 8 = .ok (.invokestatic 43, 3) := by decide +kernel
theorem dX4_change_11 : decode cX4_change 11 = .ok (.ifCond .eq 37, 3) := by decide +kernel
theorem dX4_change_14 : decode cX4_change 14 = .ok (.iload_n 2, 1) := by decide +kernel
theorem dX4_change_15 : decode cX4_change 15 = .ok (.iconst 0, 1) := by decide +kernel
theorem dX4_change_16 : decode cX4_change 16 = .ok (.aload_n 0, 1) := by decide +kernel
theorem dX4_change_17 : decode cX4_change 17 = .ok (.getfield 28, 3) := by decide +kernel
theorem dX4_change_20 : decode cX4_change 20 = .ok (.arraylength, 1) := by decide +kernel
theorem dX4_change_21 : decode cX4_change 21 = .ok (.iconst 1, 1) := by decide +kernel
theorem dX4_change_22 : decode cX4_change 22 = .ok (.isub, 1) := by decide +kernel
theorem dX4_change_23 : decode cX4_change 23 = .ok (.invokestatic 43, 3) := by decide +kernel
theorem dX4_change_26 : decode cX4_change 26 = .ok (.ifCond .eq 22, 3) := by decide +kernel
theorem dX4_change_29 : decode cX4_change 29 = .ok (.iload_n 3, 1) := by decide +kernel
theorem dX4_change_30 : decode cX4_change 30 = .ok (.aload_n 0, 1) := by decide +kernel
theorem dX4_change_31 : decode cX4_change 31 = .ok (.getfield 21, 3) := by decide +kernel
theorem dX4_change_34 : decode cX4_change 34 = .ok (.iload_n 2, 1) := by decide +kernel
theorem dX4_change_35 : decode cX4_change 35 = .ok (.iaload, 1) := by decide +kernel
theorem dX4_change_36 : decode cX4_change 36 = .ok (.aload_n 0, 1) := by decide +kernel
theorem dX4_change_37 : decode cX4_change 37 = .ok (.getfield 25, 3) := by decide +kernel
theorem dX4_change_40 : decode cX4_change 40 = .ok (.iload_n 2, 1) := by decide +kernel
theorem dX4_change_41 : decode cX4_change 41 = .ok (.iaload, 1) := by decide +kernel
theorem dX4_change_42 : decode cX4_change 42 = .ok (.invokestatic 43, 3) := by decide +kernel
theorem dX4_change_45 : decode cX4_change 45 = .ok (.ifCond .ne 6, 3) := by decide +kernel
theorem dX4_change_48 : decode cX4_change 48 = .ok (.bipush (-2), 2) := by decide +kernel
theorem dX4_change_50 : decode cX4_change 50 = .ok (.ireturn, 1) := by decide +kernel
theorem dX4_change_51 : decode cX4_change 51 = .ok (.iload_n 1, 1) := by decide +kernel
theorem dX4_change_52 : decode cX4_change 52 = .ok (.aload_n 0, 1) := by decide +kernel
theorem dX4_change_53 : decode cX4_change 53 = .ok (.getfield 28, 3) := by decide +kernel
theorem dX4_change_56 : decode cX4_change 56 = .ok (.arraylength, 1) := by decide +kernel
theorem dX4_change_57 : decode cX4_change 57 = .ok (.imul, 1) := by decide +kernel
theorem dX4_change_58 : decode cX4_change 58 = .ok (.iload_n 2, 1) := by decide +kernel
theorem dX4_change_59 : decode cX4_change 59 = .ok (.iadd, 1) := by decide +kernel
theorem dX4_change_60 : decode cX4_change 60 = .ok (.istore 4, 2) := by decide +kernel
theorem dX4_change_62 : decode cX4_change 62 = .ok (.aload_n 0, 1) := by decide +kernel
theorem dX4_change_63 : decode cX4_change 63 = .ok (.getfield 31, 3) := by decide +kernel
theorem dX4_change_66 : decode cX4_change 66 = .ok (.iload 4, 2) := by decide +kernel
theorem dX4_change_68 : decode cX4_change 68 = .ok (.iaload, 1) := by decide +kernel
theorem dX4_change_69 : decode cX4_change 69 = .ok (.istore 5, 2) := by decide +kernel
theorem dX4_change_71 : decode cX4_change 71 = .ok (.aload_n 0, 1) := by decide +kernel
theorem dX4_change_72 : decode cX4_change 72 = .ok (.getfield 31, 3) := by decide +kernel
theorem dX4_change_75 : decode cX4_change 75 = .ok (.iload 4, 2) := by decide +kernel
theorem dX4_change_77 : decode cX4_change 77 = .ok (.iload_n 3, 1) := by decide +kernel
theorem dX4_change_78 : decode cX4_change 78 = .ok (.iastore, 1) := by decide +kernel
theorem dX4_change_79 : decode cX4_change 79 = .ok (.iload 5, 2) := by decide +kernel
theorem dX4_change_81 : decode cX4_change 81 = .ok (.ireturn, 1) := by decide +kernel
theorem dX4_copy_0 : decode cX4_copy 0 = .ok (.aload_n 1, 1) := by decide +kernel
theorem dX4_copy_1 : decode cX4_copy 1 = .ok (.getfield 31, 3) := by decide +kernel
theorem dX4_copy_4 : decode cX4_copy 4 = .ok (.aload_n 0, 1) := by decide +kernel
theorem dX4_copy_5 : decode cX4_copy 5 = .ok (.getfield 31, 3) := by decide +kernel
theorem dX4_copy_8 : decode cX4_copy 8 = .ok (.invokestatic 47, 3) := by decide +kernel
theorem dX4_copy_11 : decode cX4_copy 11 = .ok (.return_, 1) := by decide +kernel
theorem dX5_init_0 : decode cX5_init 0 = .ok (.aload_n 0, 1) := by decide +kernel
theorem dX5_init_1 : decode cX5_init 1 = .ok (.invokespecial 3, 3) := by decide +kernel
theorem dX5_init_4 : decode cX5_init 4 = .ok (.aload_n 0, 1) := by decide +kernel
theorem dX5_init_5 : decode cX5_init 5 = .ok (.new 9, 3) := by decide +kernel
theorem dX5_init_8 : decode cX5_init 8 = .ok (.dup, 1) := by decide +kernel
theorem dX5_init_9 : decode cX5_init 9 = .ok (.iconst 1, 1) := by decide +kernel
theorem dX5_init_10 : decode cX5_init 10 = .ok (.getstatic 11, 3) := by decide +kernel
theorem dX5_init_13 : decode cX5_init 13 = .ok (.getstatic 15, 3) := by decide +kernel
theorem dX5_init_16 : decode cX5_init 16 = .ok (.getstatic 18, 3) := by decide +kernel
theorem dX5_init_19 : decode cX5_init 19 = .ok (.invokespecial 21, 3) := by decide +kernel
theorem dX5_init_22 : decode cX5_init 22 = .ok (.putfield 24, 3) := by decide +kernel
theorem dX5_init_25 : decode cX5_init 25 = .ok (.aload_n 0, 1) := by decide +kernel
theorem dX5_init_26 : decode cX5_init 26 = .ok (.new 30, 3) := by decide +kernel
theorem dX5_init_29 : decode cX5_init 29 = .ok (.dup, 1) := by decide +kernel
theorem dX5_init_30 : decode cX5_init 30 = .ok (.invokespecial 32, 3) := by decide +kernel
theorem dX5_init_33 : decode cX5_init 33 = .ok (.putfield 33, 3) := by decide +kernel
theorem dX5_init_36 : decode cX5_init 36 = .ok (.aload_n 0, 1) := by decide +kernel
theorem dX5_init_37 : decode cX5_init 37 = .ok (.new 37, 3) := by decide +kernel
theorem dX5_init_40 : decode cX5_init 40 = .ok (.dup, 1) := by decide +kernel
theorem dX5_init_41 : decode cX5_init 41 = .ok (.invokespecial 39, 3) := by decide +kernel
theorem dX5_init_44 : decode cX5_init 44 = .ok (.putfield 40, 3) := by decide +kernel
theorem dX5_init_47 : decode cX5_init 47 = .ok (.aload_n 0, 1) := by decide +kernel
theorem dX5_init_48 : decode cX5_init 48 = .ok (.new 44, 3) := by decide +kernel
theorem dX5_init_51 : decode cX5_init 51 = .ok (.dup, 1) := by decide +kernel
theorem dX5_init_52 : decode cX5_init 52 = .ok (.invokespecial 46, 3) := by decide +kernel
theorem dX5_init_55 : decode cX5_init 55 = .ok (.putfield 47, 3) := by decide +kernel
theorem dX5_init_58 : decode cX5_init 58 = .ok (.aload_n 0, 1) := by decide +kernel
theorem dX5_init_59 : decode cX5_init 59 = .ok (.new 51, 3) := by decide +kernel
theorem dX5_init_62 : decode cX5_init 62 = .ok (.dup, 1) := by decide +kernel
theorem dX5_init_63 : decode cX5_init 63 = .ok (.invokespecial 53, 3) := by decide +kernel
theorem dX5_init_66 : decode cX5_init 66 = .ok (.putfield 54, 3) := by decide +kernel
theorem dX5_init_69 : decode cX5_init 69 = .ok (.aload_n 0, 1) := by decide +kernel
theorem dX5_init_70 : decode cX5_init 70 = .ok (.iconst 0, 1) := by decide +kernel
theorem dX5_init_71 : decode cX5_init 71 = .ok (.putfield 58, 3) := by decide +kernel
theorem dX5_init_74 : decode cX5_init 74 = .ok (.aload_n 0, 1) := by decide +kernel
theorem dX5_init_75 : decode cX5_init 75 = .ok (.iconst 0, 1) := by decide +kernel
theorem dX5_init_76 : decode cX5_init 76 = .ok (.putfield 62, 3) := by decide +kernel
theorem dX5_init_79 : decode cX5_init 79 = .ok (.return_, 1) := by decide +kernel
theorem dX5_begin_0 : decode cX5_begin 0 = .ok (.aload_n 0, 1) := by decide +kernel
theorem dX5_begin_1 : decode cX5_begin 1 = .ok (.getfield 24, 3) := by decide +kernel
theorem dX5_begin_4 : decode cX5_begin 4 = .ok (.invokevirtual 65, 3) := by decide +kernel
theorem dX5_begin_7 : decode cX5_begin 7 = .ok (.aload_n 0, 1) := by decide +kernel
theorem dX5_begin_8 : decode cX5_begin 8 = .ok (.getfield 33, 3) := by decide +kernel
theorem dX5_begin_11 : decode cX5_begin 11 = .ok (.iload_n 1, 1) := by decide +kernel
theorem dX5_begin_12 : decode cX5_begin 12 = .ok (.invokevirtual 68, 3) := by decide +kernel
theorem dX5_begin_15 : decode cX5_begin 15 = .ok (.aload_n 0, 1) := by decide +kernel
theorem dX5_begin_16 : decode cX5_begin 16 = .ok (.getfield 40, 3) := by decide +kernel
theorem dX5_begin_19 : decode cX5_begin 19 = .ok (.getfield 72, 3) := by decide +kernel
theorem dX5_begin_22 : decode cX5_begin 22 = .ok (.invokevirtual 65, 3) := by decide +kernel
theorem dX5_begin_25 : decode cX5_begin 25 = .ok (.aload_n 0, 1) := by decide +kernel
theorem dX5_begin_26 : decode cX5_begin 26 = .ok (.getfield 47, 3) := by decide +kernel
theorem dX5_begin_29 : decode cX5_begin 29 = .ok (.iconst 0, 1) := by decide +kernel
theorem dX5_begin_30 : decode cX5_begin 30 = .ok (.putfield 73, 3) := by decide +kernel
theorem dX5_begin_33 : decode cX5_begin 33 = .ok (.aload_n 0, 1) := by decide +kernel
theorem dX5_begin_34 : decode cX5_begin 34 = .ok (.getfield 54, 3) := by decide +kernel
theorem dX5_begin_37 : decode cX5_begin 37 = .ok (.iconst 0, 1) := by decide +kernel
theorem dX5_begin_38 : decode cX5_begin 38 = .ok (.putfield 76, 3) := by decide +kernel
theorem dX5_begin_41 : decode cX5_begin 41 = .ok (.aload_n 0, 1) := by decide +kernel
theorem dX5_begin_42 : decode cX5_begin 42 = .ok (.invokevirtual 79, 3) := by decide +kernel
theorem dX5_begin_45 : decode cX5_begin 45 = .ok (.return_, 1) := by decide +kernel
theorem dX5_goBack_0 : decode cX5_goBack 0 = .ok (.aload_n 0, 1) := by decide +kernel
theorem dX5_goBack_1 : decode cX5_goBack 1 = .ok (.getfield 33, 3) := by decide +kernel
theorem dX5_goBack_4 : decode cX5_goBack 4 = .ok (.invokevirtual 82, 3) := by decide +kernel
theorem dX5_goBack_7 : decode cX5_goBack 7 = .ok (.aload_n 0, 1) := by decide +kernel
theorem dX5_goBack_8 : decode cX5_goBack 8 = .ok (.getfield 40, 3) := by decide +kernel
theorem dX5_goBack_11 : decode cX5_goBack 11 = .ok (.invokevirtual 83, 3) := by decide +kernel
theorem dX5_goBack_14 : decode cX5_goBack 14 = .ok (.aload_n 0, 1) := by decide +kernel
theorem dX5_goBack_15 : decode cX5_goBack 15 = .ok (.getfield 47, 3) := by decide +kernel
theorem dX5_goBack_18 : decode cX5_goBack 18 = .ok (.invokevirtual 84, 3) := by decide +kernel
theorem dX5_goBack_21 : decode cX5_goBack 21 = .ok (.aload_n 0, 1) := by decide +kernel
theorem dX5_goBack_22 : decode cX5_goBack 22 = .ok (.iconst 0, 1) := by decide +kernel
theorem dX5_goBack_23 : decode cX5_goBack 23 = .ok (.putfield 58, 3) := by decide +kernel
theorem dX5_goBack_26 : decode cX5_goBack 26 = .ok (.aload_n 0, 1) := by decide +kernel
theorem dX5_goBack_27 : decode cX5_goBack 27 = .ok (.iconst 0, 1) := by decide +kernel
theorem dX5_goBack_28 : decode cX5_goBack 28 = .ok (.putfield 62, 3) := by decide +kernel
theorem dX5_goBack_31 : decode cX5_goBack 31 = .ok (.return_, 1) := by decide +kernel
theorem dX5_copy_0 : decode cX5_copy 0 = .ok (.aload_n 0, 1) := by decide +kernel
theorem dX5_copy_1 : decode cX5_copy 1 = .ok (.getfield 24, 3) := by decide +kernel
theorem dX5_copy_4 : decode cX5_copy 4 = .ok (.aload_n 1, 1) := by decide +kernel
theorem dX5_copy_5 : decode cX5_copy 5 = .ok (.getfield 24, 3) := by decide +kernel
theorem dX5_copy_8 : decode cX5_copy 8 = .ok (.invokevirtual 85, 3) := by decide +kernel
theorem dX5_copy_11 : decode cX5_copy 11 = .ok (.aload_n 0, 1) := by decide +kernel
theorem dX5_copy_12 : decode cX5_copy 12 = .ok (.getfield 33, 3) := by decide +kernel
theorem dX5_copy_15 : decode cX5_copy 15 = .ok (.aload_n 1, 1) := by decide +kernel
theorem dX5_copy_16 : decode cX5_copy 16 = .ok (.getfield 33, 3) := by decide +kernel
theorem dX5_copy_19 : decode cX5_copy 19 = .ok (.invokevirtual 89, 3) := by decide +kernel
theorem dX5_copy_22 : decode cX5_copy 22 = .ok (.aload_n 0, 1) := by decide +kernel
theorem dX5_copy_23 : decode cX5_copy 23 = .ok (.getfield 40, 3) := by decide +kernel
theorem dX5_copy_26 : decode cX5_copy 26 = .ok (.aload_n 1, 1) := by decide +kernel
theorem dX5_copy_27 : decode cX5_copy 27 = .ok (.getfield 40, 3) := by decide +kernel
theorem dX5_copy_30 : decode cX5_copy 30 = .ok (.invokevirtual 92, 3) := by decide +kernel
theorem dX5_copy_33 : decode cX5_copy 33 = .ok (.aload_n 0, 1) := by decide +kernel
theorem dX5_copy_34 : decode cX5_copy 34 = .ok (.getfield 47, 3) := by decide +kernel
theorem dX5_copy_37 : decode cX5_copy 37 = .ok (.aload_n 1, 1) := by decide +kernel
theorem dX5_copy_38 : decode cX5_copy 38 = .ok (.getfield 47, 3) := by decide +kernel
theorem dX5_copy_41 : decode cX5_copy 41 = .ok (.invokevirtual 95, 3) := by decide +kernel
theorem dX5_copy_44 : decode cX5_copy 44 = .ok (.aload_n 0, 1) := by decide +kernel
theorem dX5_copy_45 : decode cX5_copy 45 = .ok (.getfield 54, 3) := by decide +kernel
theorem dX5_copy_48 : decode cX5_copy 48 = .ok (.aload_n 1, 1) := by decide +kernel
theorem dX5_copy_49 : decode cX5_copy 49 = .ok (.getfield 54, 3) := by decide +kernel
theorem dX5_copy_52 : decode cX5_copy 52 = .ok (.invokevirtual 98, 3) := by decide +kernel
theorem dX5_copy_55 : decode cX5_copy 55 = .ok (.aload_n 0, 1) := by decide +kernel
theorem dX5_copy_56 : decode cX5_copy 56 = .ok (.aload_n 1, 1) := by decide +kernel
theorem dX5_copy_57 : decode cX5_copy 57 = .ok (.getfield 58, 3) := by decide +kernel
theorem dX5_copy_60 : decode cX5_copy 60 = .ok (.putfield 58, 3) := by decide +kernel
theorem dX5_copy_63 : decode cX5_copy 63 = .ok (.aload_n 0, 1) := by decide +kernel
theorem dX5_copy_64 : decode cX5_copy 64 = .ok (.aload_n 1, 1) := by decide +kernel
theorem dX5_copy_65 : decode cX5_copy 65 = .ok (.getfield 62, 3) := by decide +kernel
theorem dX5_copy_68 : decode cX5_copy 68 = .ok (.putfield 62, 3) := by decide +kernel
theorem dX5_copy_71 : decode cX5_copy 71 = .ok (.return_, 1) := by decide +kernel
theorem dX5_makeTick_0 : decode cX5_makeTick 0 = .ok (.aload_n 0, 1) := by decide +kernel
theorem dX5_makeTick_1 : decode cX5_makeTick 1 = .ok (.getfield 54, 3) := by decide +kernel
theorem dX5_makeTick_4 : decode cX5_makeTick 4 = .ok (.aload_n 0, 1) := by decide +kernel
theorem dX5_makeTick_5 : decode cX5_makeTick 5 = .ok (.getfield 58, 3) := by decide +kernel
theorem dX5_makeTick_8 : decode cX5_makeTick 8 = .ok (.aload_n 0, 1) := by decide +kernel
theorem dX5_makeTick_9 : decode cX5_makeTick 9 = .ok (.getfield 33, 3) := by decide +kernel
theorem dX5_makeTick_12 : decode cX5_makeTick 12 = .ok (.invokevirtual 101, 3) := by decide +kernel
theorem dX5_makeTick_15 : decode cX5_makeTick 15 = .ok (.aload_n 0, 1) := by decide +kernel
theorem dX5_makeTick_16 : decode cX5_makeTick 16 = .ok (.getfield 33, 3) := by decide +kernel
theorem dX5_makeTick_19 : decode cX5_makeTick 19 = .ok (.aload_n 0, 1) := by decide +kernel
theorem dX5_makeTick_20 : decode cX5_makeTick 20 = .ok (.getfield 58, 3) := by decide +kernel
theorem dX5_makeTick_23 : decode cX5_makeTick 23 = .ok (.invokevirtual 105, 3) := by decide +kernel
theorem dX5_makeTick_26 : decode cX5_makeTick 26 = .ok (.aload_n 0, 1) := by decide +kernel
theorem dX5_makeTick_27 : decode cX5_makeTick 27 = .ok (.getfield 47, 3) := by decide +kernel
theorem dX5_makeTick_30 : decode cX5_makeTick 30 = .ok (.aload_n 0, 1) := by decide +kernel
theorem dX5_makeTick_31 : decode cX5_makeTick 31 = .ok (.getfield 24, 3) := by decide +kernel
theorem dX5_makeTick_34 : decode cX5_makeTick 34 = .ok (.invokevirtual 108, 3) := by decide +kernel
theorem dX5_makeTick_37 : decode cX5_makeTick 37 = .ok (.aload_n 0, 1) := by decide +kernel
theorem dX5_makeTick_38 : decode cX5_makeTick 38 = .ok (.getfield 33, 3) := by decide +kernel
theorem dX5_makeTick_41 : decode cX5_makeTick 41 = .ok (.aload_n 0, 1) := by decide +kernel
theorem dX5_makeTick_42 : decode cX5_makeTick 42 = .ok (.getfield 58, 3) := by decide +kernel
theorem dX5_makeTick_45 : decode cX5_makeTick 45 = .ok (.aload_n 0, 1) := by decide +kernel
theorem dX5_makeTick_46 : decode cX5_makeTick 46 = .ok (.getfield 47, 3) := by decide +kernel
theorem dX5_makeTick_49 : decode cX5_makeTick 49 = .ok (.getfield 111, 3) := by decide +kernel
theorem dX5_makeTick_52 : decode cX5_makeTick 52 = .ok (.aload_n 0, 1) := by decide +kernel
theorem dX5_makeTick_53 : decode cX5_makeTick 53 = .ok (.getfield 24, 3) := by decide +kernel
theorem dX5_makeTick_56 : decode cX5_makeTick 56 = .ok (.iconst 0, 1) := by decide +kernel
theorem dX5_makeTick_57 : decode cX5_makeTick 57 = .ok (.iconst 3, 1) := by decide +kernel
theorem dX5_makeTick_58 : decode cX5_makeTick 58 = .ok (.invokevirtual 114, 3) := by decide +kernel
theorem dX5_makeTick_61 : decode cX5_makeTick 61 = .ok (.invokevirtual 118, 3) := by decide +kernel
theorem dX5_makeTick_64 : decode cX5_makeTick 64 = .ok (.aload_n 0, 1) := by decide +kernel
theorem dX5_makeTick_65 : decode cX5_makeTick 65 = .ok (.getfield 40, 3) := by decide +kernel
theorem dX5_makeTick_68 : decode cX5_makeTick 68 = .ok (.aload_n 0, 1) := by decide +kernel
theorem dX5_makeTick_69 : decode cX5_makeTick 69 = .ok (.getfield 33, 3) := by decide +kernel
theorem dX5_makeTick_72 : decode cX5_makeTick 72 = .ok (.invokevirtual 122, 3) := by decide +kernel
theorem dX5_makeTick_75 : decode cX5_makeTick 75 = .ok (.aload_n 0, 1) := by decide +kernel
theorem dX5_makeTick_76 : decode cX5_makeTick 76 = .ok (.getfield 33, 3) := by decide +kernel
theorem dX5_makeTick_79 : decode cX5_makeTick 79 = .ok (.aload_n 0, 1) := by decide +kernel
theorem dX5_makeTick_80 : decode cX5_makeTick 80 = .ok (.getfield 47, 3) := by decide +kernel
theorem dX5_makeTick_83 : decode cX5_makeTick 83 = .ok (.invokevirtual 125, 3) := by decide +kernel
theorem dX5_makeTick_86 : decode cX5_makeTick 86 = .ok (.invokevirtual 129, 3) := by decide +kernel
theorem dX5_makeTick_89 : decode cX5_makeTick 89 = .ok (.aload_n 0, 1) := by decide +kernel
theorem dX5_makeTick_90 : decode cX5_makeTick 90 = .ok (.getfield 40, 3) := by decide +kernel
theorem dX5_makeTick_93 : decode cX5_makeTick 93 = .ok (.invokevirtual 132, 3) := by decide +kernel
theorem dX5_makeTick_96 : decode cX5_makeTick 96 = .ok (.aload_n 0, 1) := by decide +kernel
theorem dX5_makeTick_97 : decode cX5_makeTick 97 = .ok (.getfield 33, 3) := by decide +kernel
theorem dX5_makeTick_100 : decode cX5_makeTick 100 = .ok (.aload_n 0, 1) := by decide +kernel
theorem dX5_makeTick_101 : decode cX5_makeTick 101 = .ok (.getfield 24, 3) := by decide +kernel
theorem dX5_makeTick_104 : decode cX5_makeTick 104 = .ok (.iconst 0, 1) := by decide +kernel
theorem dX5_makeTick_105 : decode cX5_makeTick 105 = .ok (.iconst 5, 1) := by decide +kernel
theorem dX5_makeTick_106 : decode cX5_makeTick 106 = .ok (.invokevirtual 114, 3) := by decide +kernel
theorem dX5_makeTick_109 : decode cX5_makeTick 109 = .ok (.invokevirtual 135, 3) := by decide +kernel
theorem dX5_makeTick_112 : decode cX5_makeTick 112 = .ok (.ifCond .eq 13, 3) := by decide +kernel
theorem dX5_makeTick_115 : decode cX5_makeTick 115 = .ok (.aload_n 0, 1) := by decide +kernel
theorem dX5_makeTick_116 : decode cX5_makeTick 116 = .ok (.dup, 1) := by decide +kernel
theorem dX5_makeTick_117 : decode cX5_makeTick 117 = .ok (.getfield 62, 3) := by decide +kernel
theorem dX5_makeTick_120 : decode cX5_makeTick 120 = .ok (.iconst 1, 1) := by decide +kernel
theorem dX5_makeTick_121 : decode cX5_makeTick 121 = .ok (.iadd, 1) := by decide +kernel
theorem dX5_makeTick_122 : decode cX5_makeTick 122 = .ok (.putfield 62, 3) := by decide +kernel
theorem dX5_makeTick_125 : decode cX5_makeTick 125 = .ok (.aload_n 0, 1) := by decide +kernel
theorem dX5_makeTick_126 : decode cX5_makeTick 126 = .ok (.dup, 1) := by decide +kernel
theorem dX5_makeTick_127 : decode cX5_makeTick 127 = .ok (.getfield 58, 3) := by decide +kernel
theorem dX5_makeTick_130 : decode cX5_makeTick 130 = .ok (.iconst 1, 1) := by decide +kernel
theorem dX5_makeTick_131 : decode cX5_makeTick 131 = .ok (.iadd, 1) := by decide +kernel
theorem dX5_makeTick_132 : decode cX5_makeTick 132 = .ok (.putfield 58, 3) := by decide +kernel
theorem dX5_makeTick_135 : decode cX5_makeTick 135 = .ok (.return_, 1) := by decide +kernel
theorem dX6_init_0 : decode cX6_init 0 = .ok (.aload_n 0, 1) := by decide +kernel
theorem dX6_init_1 : decode cX6_init 1 = .ok (.invokespecial 1, 3) := by decide +kernel
theorem dX6_init_4 : decode cX6_init 4 = .ok (.aload_n 0, 1) := by decide +kernel
theorem dX6_init_5 : decode cX6_init 5 = .ok (.new 7, 3) := by decide +kernel
theorem dX6_init_8 : decode cX6_init 8 = .ok (.dup, 1) := by decide +kernel
theorem dX6_init_9 : decode cX6_init 9 = .ok (.invokespecial 9, 3) := by decide +kernel
theorem dX6_init_12 : decode cX6_init 12 = .ok (.putfield 10, 3) := by decide +kernel
theorem dX6_init_15 : decode cX6_init 15 = .ok (.aload_n 0, 1) := by decide +kernel
theorem dX6_init_16 : decode cX6_init 16 = .ok (.iconst 0, 1) := by decide +kernel
theorem dX6_init_17 : decode cX6_init 17 = .ok (.putfield 16, 3) := by decide +kernel
theorem dX6_init_20 : decode cX6_init 20 = .ok (.return_, 1) := by decide +kernel
theorem dX7_init_0 : decode cX7_init 0 = .ok (.aload_n 0, 1) := by decide +kernel
theorem dX7_init_1 : decode cX7_init 1 = .ok (.invokespecial 3, 3) := by decide +kernel
theorem dX7_init_4 : decode cX7_init 4 = .ok (.aload_n 0, 1) := by decide +kernel
theorem dX7_init_5 : decode cX7_init 5 = .ok (.iconst 0, 1) := by decide +kernel
theorem dX7_init_6 : decode cX7_init 6 = .ok (.putfield 9, 3) := by decide +kernel
theorem dX7_init_9 : decode cX7_init 9 = .ok (.aload_n 0, 1) := by decide +kernel
theorem dX7_init_10 : decode cX7_init 10 = .ok (.iconst 0, 1) := by decide +kernel
theorem dX7_init_11 : decode cX7_init 11 = .ok (.putfield 15, 3) := by decide +kernel
theorem dX7_init_14 : decode cX7_init 14 = .ok (.aload_n 0, 1) := by decide +kernel
theorem dX7_init_15 : decode cX7_init 15 = .ok (.iconst 0, 1) := by decide +kernel
theorem dX7_init_16 : decode cX7_init 16 = .ok (.putfield 18, 3) := by decide +kernel
theorem dX7_init_19 : decode cX7_init 19 = .ok (.aload_n 0, 1) := by decide +kernel
theorem dX7_init_20 : decode cX7_init 20 = .ok (.iconst 0, 1) := by decide +kernel
theorem dX7_init_21 : decode cX7_init 21 = .ok (.putfield 21, 3) := by decide +kernel
theorem dX7_init_24 : decode cX7_init 24 = .ok (.return_, 1) := by decide +kernel
theorem dX7_measured_0 : decode cX7_measured 0 = .ok (.aload_n 0, 1) := by decide +kernel
theorem dX7_measured_1 : decode cX7_measured 1 = .ok (.getfield 15, 3) := by decide +kernel
theorem dX7_measured_4 : decode cX7_measured 4 = .ok (.sipush 1024, 3) := by decide +kernel
theorem dX7_measured_7 : decode cX7_measured 7 = .ok (.idiv, 1) := by decide +kernel
theorem dX7_measured_8 : decode cX7_measured 8 = .ok (.ireturn, 1) := by decide +kernel
theorem dX7_goBack_0 : decode cX7_goBack 0 = .ok (.aload_n 0, 1) := by decide +kernel
theorem dX7_goBack_1 : decode cX7_goBack 1 = .ok (.iconst 0, 1) := by decide +kernel
theorem dX7_goBack_2 : decode cX7_goBack 2 = .ok (.putfield 15, 3) := by decide +kernel
theorem dX7_goBack_5 : decode cX7_goBack 5 = .ok (.aload_n 0, 1) := by decide +kernel
theorem dX7_goBack_6 : decode cX7_goBack 6 = .ok (.iconst 0, 1) := by decide +kernel
theorem dX7_goBack_7 : decode cX7_goBack 7 = .ok (.putfield 18, 3) := by decide +kernel
theorem dX7_goBack_10 : decode cX7_goBack 10 = .ok (.aload_n 0, 1) := by decide +kernel
theorem dX7_goBack_11 : decode cX7_goBack 11 = .ok (.iconst 0, 1) := by decide +kernel
theorem dX7_goBack_12 : decode cX7_goBack 12 = .ok (.putfield 21, 3) := by decide +kernel
theorem dX7_goBack_15 : decode cX7_goBack 15 = .ok (.return_, 1) := by decide +kernel
theorem dX7_copy_0 : decode cX7_copy 0 = .ok (.aload_n 0, 1) := by decide +kernel
theorem dX7_copy_1 : decode cX7_copy 1 = .ok (.aload_n 1, 1) := by decide +kernel
theorem dX7_copy_2 : decode cX7_copy 2 = .ok (.getfield 9, 3) := by decide +kernel
theorem dX7_copy_5 : decode cX7_copy 5 = .ok (.putfield 9, 3) := by decide +kernel
theorem dX7_copy_8 : decode cX7_copy 8 = .ok (.aload_n 0, 1) := by decide +kernel
theorem dX7_copy_9 : decode cX7_copy 9 = .ok (.aload_n 1, 1) := by decide +kernel
theorem dX7_copy_10 : decode cX7_copy 10 = .ok (.getfield 15, 3) := by decide +kernel
theorem dX7_copy_13 : decode cX7_copy 13 = .ok (.putfield 15, 3) := by decide +kernel
theorem dX7_copy_16 : decode cX7_copy 16 = .ok (.aload_n 0, 1) := by decide +kernel
theorem dX7_copy_17 : decode cX7_copy 17 = .ok (.aload_n 1, 1) := by decide +kernel
theorem dX7_copy_18 : decode cX7_copy 18 = .ok (.getfield 18, 3) := by decide +kernel
theorem dX7_copy_21 : decode cX7_copy 21 = .ok (.putfield 18, 3) := by decide +kernel
theorem dX7_copy_24 : decode cX7_copy 24 = .ok (.aload_n 0, 1) := by decide +kernel
theorem dX7_copy_25 : decode cX7_copy 25 = .ok (.aload_n 1, 1) := by decide +kernel
theorem dX7_copy_26 : decode cX7_copy 26 = .ok (.getfield 21, 3) := by decide +kernel
theorem dX7_copy_29 : decode cX7_copy 29 = .ok (.putfield 21, 3) := by decide +kernel
theorem dX7_copy_32 : decode cX7_copy 32 = .ok (.return_, 1) := by decide +kernel
theorem dX7_blow_0 : decode cX7_blow 0 = .ok (.aload_n 0, 1) := by decide +kernel
theorem dX7_blow_1 : decode cX7_blow 1 = .ok (.dup, 1) := by decide +kernel
theorem dX7_blow_2 : decode cX7_blow 2 = .ok (.getfield 15, 3) := by decide +kernel
theorem dX7_blow_5 : decode cX7_blow 5 = .ok (.sipush 1024, 3) := by decide +kernel
theorem dX7_blow_8 : decode cX7_blow 8 = .ok (.aload_n 0, 1) := by decide +kernel
theorem dX7_blow_9 : decode cX7_blow 9 = .ok (.getfield 9, 3) := by decide +kernel
theorem dX7_blow_12 : decode cX7_blow 12 = .ok (.imul, 1) := by decide +kernel
theorem dX7_blow_13 : decode cX7_blow 13 = .ok (.aload_n 0, 1) := by decide +kernel
theorem dX7_blow_14 : decode cX7_blow 14 = .ok (.getfield 15, 3) := by decide +kernel
theorem dX7_blow_17 : decode cX7_blow 17 = .ok (.isub, 1) := by decide +kernel
theorem dX7_blow_18 : decode cX7_blow 18 = .ok (.i2l, 1) := by decide +kernel
theorem dX7_blow_19 : decode cX7_blow 19 = .ok (.aload_n 1, 1) := by decide +kernel
theorem dX7_blow_20 : decode cX7_blow 20 = .ok (.iconst 0, 1) := by decide +kernel
theorem dX7_blow_21 : decode cX7_blow 21 = .ok (.iconst 0, 1) := by decide +kernel
theorem dX7_blow_22 : decode cX7_blow 22 = .ok (.invokevirtual 24, 3) := by decide +kernel
theorem dX7_blow_25 : decode cX7_blow 25 = .ok (.i2l, 1) := by decide +kernel
theorem dX7_blow_26 : decode cX7_blow 26 = .ok (.invokestatic 30, 3) := by decide +kernel
theorem dX7_blow_29 : decode cX7_blow 29 = .ok (.l2i, 1) := by decide +kernel
theorem dX7_blow_30 : decode cX7_blow 30 = .ok (.iadd, 1) := by decide +kernel
theorem dX7_blow_31 : decode cX7_blow 31 = .ok (.putfield 15, 3) := by decide +kernel
theorem dX7_blow_34 : decode cX7_blow 34 = .ok (.aload_n 1, 1) := by decide +kernel
theorem dX7_blow_35 : decode cX7_blow 35 = .ok (.iconst 0, 1) := by decide +kernel
theorem dX7_blow_36 : decode cX7_blow 36 = .ok (.iconst 1, 1) := by decide +kernel
theorem dX7_blow_37 : decode cX7_blow 37 = .ok (.invokevirtual 24, 3) := by decide +kernel
theorem dX7_blow_40 : decode cX7_blow 40 = .ok (.istore_n 2, 1) := by decide +kernel
theorem dX7_blow_41 : decode cX7_blow 41 = .ok (.aload_n 1, 1) := by decide +kernel
theorem dX7_blow_42 : decode cX7_blow 42 = .ok (.iconst 0, 1) := by decide +kernel
theorem dX7_blow_43 : decode cX7_blow 43 = .ok (.iconst 2, 1) := by decide +kernel
theorem dX7_blow_44 : decode cX7_blow 44 = .ok (.invokevirtual 24, 3) := by decide +kernel
theorem dX7_blow_47 : decode cX7_blow 47 = .ok (.istore_n 3, 1) := by decide +kernel
theorem dX7_blow_48 : decode cX7_blow 48 = .ok (.aload_n 0, 1) := by decide +kernel
theorem dX7_blow_49 : decode cX7_blow 49 = .ok (.invokevirtual 34, 3) := by decide +kernel
theorem dX7_blow_52 : decode cX7_blow 52 = .ok (.iload_n 3, 1) := by decide +kernel
theorem dX7_blow_53 : decode cX7_blow 53 = .ok (.if_icmp .lt 11, 3) := by decide +kernel
theorem dX7_blow_56 : decode cX7_blow 56 = .ok (.aload_n 0, 1) := by decide +kernel
theorem dX7_blow_57 : decode cX7_blow 57 = .ok (.iconst 2, 1) := by decide +kernel
theorem dX7_blow_58 : decode cX7_blow 58 = .ok (.invokevirtual 38, 3) := by decide +kernel
theorem dX7_blow_61 : decode cX7_blow 61 = .ok (.goto 74, 3) := by decide +kernel
theorem dX7_blow_64 : decode cX7_blow 64 = .ok (.aload_n 0, 1) := by decide +kernel
theorem dX7_blow_65 : decode cX7_blow 65 = .ok (.invokevirtual 34, 3) := by decide +kernel
theorem dX7_blow_68 : decode cX7_blow 68 = .ok (.iload_n 2, 1) := by decide +kernel
theorem dX7_blow_69 : decode cX7_blow 69 = .ok (.if_icmp .lt 18, 3) := by decide +kernel
theorem dX7_blow_72 : decode cX7_blow 72 = .ok (.aload_n 0, 1) := by decide +kernel
theorem dX7_blow_73 : decode cX7_blow 73 = .ok (.getfield 18, 3) := by decide +kernel
theorem dX7_blow_76 : decode cX7_blow 76 = .ok (.ifCond .ne 11, 3) := by decide +kernel
theorem dX7_blow_79 : decode cX7_blow 79 = .ok (.aload_n 0, 1) := by decide +kernel
theorem dX7_blow_80 : decode cX7_blow 80 = .ok (.iconst 1, 1) := by decide +kernel
theorem dX7_blow_81 : decode cX7_blow 81 = .ok (.invokevirtual 38, 3) := by decide +kernel
theorem dX7_blow_84 : decode cX7_blow 84 = .ok (.goto 51, 3) := by decide +kernel
theorem dX7_blow_87 : decode cX7_blow 87 = .ok (.aload_n 0, 1) := by decide +kernel
theorem dX7_blow_88 : decode cX7_blow 88 = .ok (.getfield 18, 3) := by decide +kernel
theorem dX7_blow_91 : decode cX7_blow 91 = .ok (.ifCond .le 39, 3) := by decide +kernel
theorem dX7_blow_94 : decode cX7_blow 94 = .ok (.aload_n 0, 1) := by decide +kernel
theorem dX7_blow_95 : decode cX7_blow 95 = .ok (.invokevirtual 34, 3) := by decide +kernel
theorem dX7_blow_98 : decode cX7_blow 98 = .ok (.aload_n 0, 1) := by decide +kernel
theorem dX7_blow_99 : decode cX7_blow 99 = .ok (.getfield 18, 3) := by decide +kernel
theorem dX7_blow_102 : decode cX7_blow 102 = .ok (.iconst 2, 1) := by decide +kernel
theorem dX7_blow_103 : decode cX7_blow 103 = .ok (.if_icmp .ne 7, 3) := by decide +kernel
theorem dX7_blow_106 : decode cX7_blow 106 = .ok (.iload_n 3, 1) := by decide +kernel
theorem dX7_blow_107 : decode cX7_blow 107 = .ok (.goto 4, 3) := by decide +kernel
theorem dX7_blow_110 : decode cX7_blow 110 = .ok (.iload_n 2, 1) := by decide +kernel
theorem dX7_blow_111 : decode cX7_blow 111 = .ok (.bipush 10, 2) := by decide +kernel
theorem dX7_blow_113 : decode cX7_blow 113 = .ok (.isub, 1) := by decide +kernel
theorem dX7_blow_114 : decode cX7_blow 114 = .ok (.if_icmp .ge 16, 3) := by decide +kernel
theorem dX7_blow_117 : decode cX7_blow 117 = .ok (.aload_n 0, 1) := by decide +kernel
theorem dX7_blow_118 : decode cX7_blow 118 = .ok (.aload_n 1, 1) := by decide +kernel
theorem dX7_blow_119 : decode cX7_blow 119 = .ok (.iconst 0, 1) := by decide +kernel
theorem dX7_blow_120 : decode cX7_blow 120 = .ok (.iconst 4, 1) := by decide +kernel
theorem dX7_blow_121 : decode cX7_blow 121 = .ok (.invokevirtual 24, 3) := by decide +kernel
theorem dX7_blow_124 : decode cX7_blow 124 = .ok (.invokevirtual 42, 3) := by decide +kernel
theorem dX7_blow_127 : decode cX7_blow 127 = .ok (.goto 8, 3) := by decide +kernel
theorem dX7_blow_130 : decode cX7_blow 130 = .ok (.aload_n 0, 1) := by decide +kernel
theorem dX7_blow_131 : decode cX7_blow 131 = .ok (.iconst 0, 1) := by decide +kernel
theorem dX7_blow_132 : decode cX7_blow 132 = .ok (.putfield 21, 3) := by decide +kernel
theorem dX7_blow_135 : decode cX7_blow 135 = .ok (.return_, 1) := by decide +kernel
theorem dX7_enter_0 : decode cX7_enter 0 = .ok (.aload_n 0, 1) := by decide +kernel
theorem dX7_enter_1 : decode cX7_enter 1 = .ok (.iload_n 1, 1) := by decide +kernel
theorem dX7_enter_2 : decode cX7_enter 2 = .ok (.putfield 18, 3) := by decide +kernel
theorem dX7_enter_5 : decode cX7_enter 5 = .ok (.aload_n 0, 1) := by decide +kernel
theorem dX7_enter_6 : decode cX7_enter 6 = .ok (.iconst 0, 1) := by decide +kernel
theorem dX7_enter_7 : decode cX7_enter 7 = .ok (.putfield 21, 3) := by decide +kernel
theorem dX7_enter_10 : decode cX7_enter 10 = .ok (.return_, 1) := by decide +kernel
theorem dX7_calmDown_0 : decode cX7_calmDown 0 = .ok (.aload_n 0, 1) := by decide +kernel
theorem dX7_calmDown_1 : decode cX7_calmDown 1 = .ok (.dup, 1) := by decide +kernel
theorem dX7_calmDown_2 : decode cX7_calmDown 2 = .ok (.getfield 21, 3) := by decide +kernel
theorem dX7_calmDown_5 : decode cX7_calmDown 5 = .ok (.iconst 1, 1) := by decide +kernel
theorem dX7_calmDown_6 : decode cX7_calmDown 6 = .ok (.iadd, 1) := by decide +kernel
theorem dX7_calmDown_7 : decode cX7_calmDown 7 = .ok (.putfield 21, 3) := by decide +kernel
theorem dX7_calmDown_10 : decode cX7_calmDown 10 = .ok (.aload_n 0, 1) := by decide +kernel
theorem dX7_calmDown_11 : decode cX7_calmDown 11 = .ok (.getfield 21, 3) := by decide +kernel
theorem dX7_calmDown_14 : decode cX7_calmDown 14 = .ok (.iload_n 1, 1) := by decide +kernel
theorem dX7_calmDown_15 : decode cX7_calmDown 15 = .ok (.if_icmp .lt 13, 3) := by decide +kernel
theorem dX7_calmDown_18 : decode cX7_calmDown 18 = .ok (.aload_n 0, 1) := by decide +kernel
theorem dX7_calmDown_19 : decode cX7_calmDown 19 = .ok (.aload_n 0, 1) := by decide +kernel
theorem dX7_calmDown_20 : decode cX7_calmDown 20 = .ok (.getfield 18, 3) := by decide +kernel
theorem dX7_calmDown_23 : decode cX7_calmDown 23 = .ok (.iconst 1, 1) := by decide +kernel
theorem dX7_calmDown_24 : decode cX7_calmDown 24 = .ok (.isub, 1) := by decide +kernel
theorem dX7_calmDown_25 : decode cX7_calmDown 25 = .ok (.invokevirtual 38, 3) := by decide +kernel
theorem dX7_calmDown_28 : decode cX7_calmDown 28 = .ok (.return_, 1) := by decide +kernel
theorem dX8_init_0 : decode cX8_init 0 = .ok (.aload_n 0, 1) := by decide +kernel
theorem dX8_init_1 : decode cX8_init 1 = .ok (.invokespecial 1, 3) := by decide +kernel
theorem dX8_init_4 : decode cX8_init 4 = .ok (.aload_n 0, 1) := by decide +kernel
theorem dX8_init_5 : decode cX8_init 5 = .ok (.new 7, 3) := by decide +kernel
theorem dX8_init_8 : decode cX8_init 8 = .ok (.dup, 1) := by decide +kernel
theorem dX8_init_9 : decode cX8_init 9 = .ok (.invokespecial 9, 3) := by decide +kernel
theorem dX8_init_12 : decode cX8_init 12 = .ok (.putfield 10, 3) := by decide +kernel
theorem dX8_init_15 : decode cX8_init 15 = .ok (.aload_n 0, 1) := by decide +kernel
theorem dX8_init_16 : decode cX8_init 16 = .ok (.new 7, 3) := by decide +kernel
theorem dX8_init_19 : decode cX8_init 19 = .ok (.dup, 1) := by decide +kernel
theorem dX8_init_20 : decode cX8_init 20 = .ok (.invokespecial 9, 3) := by decide +kernel
theorem dX8_init_23 : decode cX8_init 23 = .ok (.putfield 16, 3) := by decide +kernel
theorem dX8_init_26 : decode cX8_init 26 = .ok (.aload_n 0, 1) := by decide +kernel
theorem dX8_init_27 : decode cX8_init 27 = .ok (.new 19, 3) := by decide +kernel
theorem dX8_init_30 : decode cX8_init 30 = .ok (.dup, 1) := by decide +kernel
theorem dX8_init_31 : decode cX8_init 31 = .ok (.invokespecial 21, 3) := by decide +kernel
theorem dX8_init_34 : decode cX8_init 34 = .ok (.putfield 22, 3) := by decide +kernel
theorem dX8_init_37 : decode cX8_init 37 = .ok (.aload_n 0, 1) := by decide +kernel
theorem dX8_init_38 : decode cX8_init 38 = .ok (.new 19, 3) := by decide +kernel
theorem dX8_init_41 : decode cX8_init 41 = .ok (.dup, 1) := by decide +kernel
theorem dX8_init_42 : decode cX8_init 42 = .ok (.invokespecial 21, 3) := by decide +kernel
theorem dX8_init_45 : decode cX8_init 45 = .ok (.putfield 26, 3) := by decide +kernel
theorem dX8_init_48 : decode cX8_init 48 = .ok (.aload_n 0, 1) := by decide +kernel
theorem dX8_init_49 : decode cX8_init 49 = .ok (.new 29, 3) := by decide +kernel
theorem dX8_init_52 : decode cX8_init 52 = .ok (.dup, 1) := by decide +kernel
theorem dX8_init_53 : decode cX8_init 53 = .ok (.invokespecial 31, 3) := by decide +kernel
theorem dX8_init_56 : decode cX8_init 56 = .ok (.putfield 32, 3) := by decide +kernel
theorem dX8_init_59 : decode cX8_init 59 = .ok (.return_, 1) := by decide +kernel
theorem dX8_setUp_0 : decode cX8_setUp 0 = .ok (.iload_n 1, 1) := by decide +kernel
theorem dX8_setUp_1 : decode cX8_setUp 1 = .ok (.iconst 1, 1) := by decide +kernel
theorem dX8_setUp_2 : decode cX8_setUp 2 = .ok (.bipush 12, 2) := by decide +kernel
theorem dX8_setUp_4 : decode cX8_setUp 4 = .ok (.invokestatic 36, 3) := by decide +kernel
theorem dX8_setUp_7 : decode cX8_setUp 7 = .ok (.ifCond .ne 6, 3) := by decide +kernel
theorem dX8_setUp_10 : decode cX8_setUp 10 = .ok (.bipush (-2), 2) := by decide +kernel
theorem dX8_setUp_12 : decode cX8_setUp 12 = .ok (.ireturn, 1) := by decide +kernel
theorem dX8_setUp_13 : decode cX8_setUp 13 = .ok (.aload_n 0, 1) := by decide +kernel
theorem dX8_setUp_14 : decode cX8_setUp 14 = .ok (.getfield 10, 3) := by decide +kernel
theorem dX8_setUp_17 : decode cX8_setUp 17 = .ok (.getfield 40, 3) := by decide +kernel
theorem dX8_setUp_20 : decode cX8_setUp 20 = .ok (.getfield 44, 3) := by decide +kernel
theorem dX8_setUp_23 : decode cX8_setUp 23 = .ok (.istore_n 2, 1) := by decide +kernel
theorem dX8_setUp_24 : decode cX8_setUp 24 = .ok (.aload_n 0, 1) := by decide +kernel
theorem dX8_setUp_25 : decode cX8_setUp 25 = .ok (.getfield 10, 3) := by decide +kernel
theorem dX8_setUp_28 : decode cX8_setUp 28 = .ok (.iload_n 1, 1) := by decide +kernel
theorem dX8_setUp_29 : decode cX8_setUp 29 = .ok (.invokevirtual 50, 3) := by decide +kernel
theorem dX8_setUp_32 : decode cX8_setUp 32 = .ok (.iload_n 2, 1) := by decide +kernel
theorem dX8_setUp_33 : decode cX8_setUp 33 = .ok (.ireturn, 1) := by decide +kernel
theorem dX8_nozzle_0 : decode cX8_nozzle 0 = .ok (.aload_n 0, 1) := by decide +kernel
theorem dX8_nozzle_1 : decode cX8_nozzle 1 = .ok (.getfield 10, 3) := by decide +kernel
theorem dX8_nozzle_4 : decode cX8_nozzle 4 = .ok (.getfield 40, 3) := by decide +kernel
theorem dX8_nozzle_7 : decode cX8_nozzle 7 = .ok (.iload_n 1, 1) := by decide +kernel
theorem dX8_nozzle_8 : decode cX8_nozzle 8 = .ok (.invokevirtual 54, 3) := by decide +kernel
theorem dX8_nozzle_11 : decode cX8_nozzle 11 = .ok (.ifCond .ne 5, 3) := by decide +kernel
theorem dX8_nozzle_14 : decode cX8_nozzle 14 = .ok (.iconst (-1), 1) := by decide +kernel
theorem dX8_nozzle_15 : decode cX8_nozzle 15 = .ok (.ireturn, 1) := by decide +kernel
theorem dX8_nozzle_16 : decode cX8_nozzle 16 = .ok (.aload_n 0, 1) := by decide +kernel
theorem dX8_nozzle_17 : decode cX8_nozzle 17 = .ok (.getfield 10, 3) := by decide +kernel
theorem dX8_nozzle_20 : decode cX8_nozzle 20 = .ok (.getfield 40, 3) := by decide +kernel
theorem dX8_nozzle_23 : decode cX8_nozzle 23 = .ok (.getfield 58, 3) := by decide +kernel
theorem dX8_nozzle_26 : decode cX8_nozzle 26 = .ok (.iload_n 1, 1) := by decide +kernel
theorem dX8_nozzle_27 : decode cX8_nozzle 27 = .ok (.iload_n 2, 1) := by decide +kernel
theorem dX8_nozzle_28 : decode cX8_nozzle 28 = .ok (.iload_n 3, 1) := by decide +kernel
theorem dX8_nozzle_29 : decode cX8_nozzle 29 = .ok (.invokevirtual 62, 3) := by decide +kernel
theorem dX8_nozzle_32 : decode cX8_nozzle 32 = .ok (.ireturn, 1) := by decide +kernel
theorem dX8_pump_0 : decode cX8_pump 0 = .ok (.iload_n 1, 1) := by decide +kernel
theorem dX8_pump_1 : decode cX8_pump 1 = .ok (.iconst 0, 1) := by decide +kernel
theorem dX8_pump_2 : decode cX8_pump 2 = .ok (.iconst 2, 1) := by decide +kernel
theorem dX8_pump_3 : decode cX8_pump 3 = .ok (.invokestatic 36, 3) := by decide +kernel
theorem dX8_pump_6 : decode cX8_pump 6 = .ok (.ifCond .ne 5, 3) := by decide +kernel
theorem dX8_pump_9 : decode cX8_pump 9 = .ok (.iconst (-1), 1) := by decide +kernel
theorem dX8_pump_10 : decode cX8_pump 10 = .ok (.ireturn, 1) := by decide +kernel
theorem dX8_pump_11 : decode cX8_pump 11 = .ok (.aload_n 0, 1) := by decide +kernel
theorem dX8_pump_12 : decode cX8_pump 12 = .ok (.getfield 10, 3) := by decide +kernel
theorem dX8_pump_15 : decode cX8_pump 15 = .ok (.getfield 68, 3) := by decide +kernel
theorem dX8_pump_18 : decode cX8_pump 18 = .ok (.getfield 72, 3) := by decide +kernel
theorem dX8_pump_21 : decode cX8_pump 21 = .ok (.iload_n 1, 1) := by decide +kernel
theorem dX8_pump_22 : decode cX8_pump 22 = .ok (.iload_n 2, 1) := by decide +kernel
theorem dX8_pump_23 : decode cX8_pump 23 = .ok (.iload_n 3, 1) := by decide +kernel
theorem dX8_pump_24 : decode cX8_pump 24 = .ok (.invokevirtual 62, 3) := by decide +kernel
theorem dX8_pump_27 : decode cX8_pump 27 = .ok (.ireturn, 1) := by decide +kernel
theorem dX8_set_0 : decode cX8_set 0 = .ok (.aload_n 0, 1) := by decide +kernel
theorem dX8_set_1 : decode cX8_set 1 = .ok (.getfield 10, 3) := by decide +kernel
theorem dX8_set_4 : decode cX8_set 4 = .ok (.getfield 75, 3) := by decide +kernel
theorem dX8_set_7 : decode cX8_set 7 = .ok (.iconst 0, 1) := by decide +kernel
theorem dX8_set_8 : decode cX8_set 8 = .ok (.iload_n 1, 1) := by decide +kernel
theorem dX8_set_9 : decode cX8_set 9 = .ok (.iload_n 2, 1) := by decide +kernel
theorem dX8_set_10 : decode cX8_set 10 = .ok (.invokevirtual 62, 3) := by decide +kernel
theorem dX8_set_13 : decode cX8_set 13 = .ok (.ireturn, 1) := by decide +kernel
theorem dX8_wind_0 : decode cX8_wind 0 = .ok (.iload_n 1, 1) := by decide +kernel
theorem dX8_wind_1 : decode cX8_wind 1 = .ok (.iconst 0, 1) := by decide +kernel
theorem dX8_wind_2 : decode cX8_wind 2 = .ok (.sipush 300, 3) := by decide +kernel
theorem dX8_wind_5 : decode cX8_wind 5 = .ok (.invokestatic 36, 3) := by decide +kernel
theorem dX8_wind_8 : decode cX8_wind 8 = .ok (.ifCond .ne 6, 3) := by decide +kernel
theorem dX8_wind_11 : decode cX8_wind 11 = .ok (.bipush (-2), 2) := by decide +kernel
theorem dX8_wind_13 : decode cX8_wind 13 = .ok (.ireturn, 1) := by decide +kernel
theorem dX8_wind_14 : decode cX8_wind 14 = .ok (.aload_n 0, 1) := by decide +kernel
theorem dX8_wind_15 : decode cX8_wind 15 = .ok (.getfield 10, 3) := by decide +kernel
theorem dX8_wind_18 : decode cX8_wind 18 = .ok (.getfield 76, 3) := by decide +kernel
theorem dX8_wind_21 : decode cX8_wind 21 = .ok (.getfield 80, 3) := by decide +kernel
theorem dX8_wind_24 : decode cX8_wind 24 = .ok (.istore_n 2, 1) := by decide +kernel
theorem dX8_wind_25 : decode cX8_wind 25 = .ok (.aload_n 0, 1) := by decide +kernel
theorem dX8_wind_26 : decode cX8_wind 26 = .ok (.getfield 10, 3) := by decide +kernel
theorem dX8_wind_29 : decode cX8_wind 29 = .ok (.getfield 76, 3) := by decide +kernel
theorem dX8_wind_32 : decode cX8_wind 32 = .ok (.iload_n 1, 1) := by decide +kernel
theorem dX8_wind_33 : decode cX8_wind 33 = .ok (.putfield 80, 3) := by decide +kernel
theorem dX8_wind_36 : decode cX8_wind 36 = .ok (.iload_n 2, 1) := by decide +kernel
theorem dX8_wind_37 : decode cX8_wind 37 = .ok (.ireturn, 1) := by decide +kernel
theorem dX8_cue_0 : decode cX8_cue 0 = .ok (.iload_n 1, 1) := by decide +kernel
theorem dX8_cue_1 : decode cX8_cue 1 = .ok (.iconst 0, 1) := by decide +kernel
theorem dX8_cue_2 : decode cX8_cue 2 = .ok (.ldc 85, 2) := by decide +kernel
theorem dX8_cue_4 : decode cX8_cue 4 = .ok (.invokestatic 36, 3) := by decide +kernel
theorem dX8_cue_7 : decode cX8_cue 7 = .ok (.ifCond .eq 25, 3) := by decide +kernel
theorem dX8_cue_10 : decode cX8_cue 10 = .ok (.iload_n 2, 1) := by decide +kernel
theorem dX8_cue_11 : decode cX8_cue 11 = .ok (.iconst 1, 1) := by decide +kernel
theorem dX8_cue_12 : decode cX8_cue 12 = .ok (.sipush 4095, 3) := by decide +kernel
theorem dX8_cue_15 : decode cX8_cue 15 = .ok (.invokestatic 36, 3) := by decide +kernel
theorem dX8_cue_18 : decode cX8_cue 18 = .ok (.ifCond .eq 14, 3) := by decide +kernel
theorem dX8_cue_21 : decode cX8_cue 21 = .ok (.iload_n 3, 1) := by decide +kernel
theorem dX8_cue_22 : decode cX8_cue 22 = .ok (.iconst 0, 1) := by decide +kernel
theorem dX8_cue_23 : decode cX8_cue 23 = .ok (.sipush 1000, 3) := by decide +kernel
theorem dX8_cue_26 : decode cX8_cue 26 = .ok (.invokestatic 36, 3) := by decide +kernel
theorem dX8_cue_29 : decode cX8_cue 29 = .ok (.ifCond .ne 6, 3) := by decide +kernel
theorem dX8_cue_32 : decode cX8_cue 32 = .ok (.bipush (-2), 2) := by decide +kernel
theorem dX8_cue_34 : decode cX8_cue 34 = .ok (.ireturn, 1) := by decide +kernel
theorem dX8_cue_35 : decode cX8_cue 35 = .ok (.aload_n 0, 1) := by decide +kernel
theorem dX8_cue_36 : decode cX8_cue 36 = .ok (.getfield 10, 3) := by decide +kernel
theorem dX8_cue_39 : decode cX8_cue 39 = .ok (.getfield 86, 3) := by decide +kernel
theorem dX8_cue_42 : decode cX8_cue 42 = .ok (.iload_n 1, 1) := by decide +kernel
theorem dX8_cue_43 : decode cX8_cue 43 = .ok (.iload_n 2, 1) := by decide +kernel
theorem dX8_cue_44 : decode cX8_cue 44 = .ok (.iload_n 3, 1) := by decide +kernel
theorem dX8_cue_45 : decode cX8_cue 45 = .ok (.invokevirtual 90, 3) := by decide +kernel
theorem dX8_cue_48 : decode cX8_cue 48 = .ok (.ireturn, 1) := by decide +kernel
theorem dX8_remove_0 : decode cX8_remove 0 = .ok (.aload_n 0, 1) := by decide +kernel
theorem dX8_remove_1 : decode cX8_remove 1 = .ok (.getfield 10, 3) := by decide +kernel
theorem dX8_remove_4 : decode cX8_remove 4 = .ok (.getfield 86, 3) := by decide +kernel
theorem dX8_remove_7 : decode cX8_remove 7 = .ok (.iload_n 1, 1) := by decide +kernel
theorem dX8_remove_8 : decode cX8_remove 8 = .ok (.invokevirtual 95, 3) := by decide +kernel
theorem dX8_remove_11 : decode cX8_remove 11 = .ok (.ifCond .ne 5, 3) := by decide +kernel
theorem dX8_remove_14 : decode cX8_remove 14 = .ok (.iconst (-1), 1) := by decide +kernel
theorem dX8_remove_15 : decode cX8_remove 15 = .ok (.ireturn, 1) := by decide +kernel
theorem dX8_remove_16 : decode cX8_remove 16 = .ok (.aload_n 0, 1) := by decide +kernel
theorem dX8_remove_17 : decode cX8_remove 17 = .ok (.getfield 10, 3) := by decide +kernel
theorem dX8_remove_20 : decode cX8_remove 20 = .ok (.getfield 86, 3) := by decide +kernel
theorem dX8_remove_23 : decode cX8_remove 23 = .ok (.iload_n 1, 1) := by decide +kernel
theorem dX8_remove_24 : decode cX8_remove 24 = .ok (.invokevirtual 96, 3) := by decide +kernel
theorem dX8_remove_27 : decode cX8_remove 27 = .ok (.aload_n 0, 1) := by decide +kernel
theorem dX8_remove_28 : decode cX8_remove 28 = .ok (.getfield 10, 3) := by decide +kernel
theorem dX8_remove_31 : decode cX8_remove 31 = .ok (.getfield 86, 3) := by decide +kernel
theorem dX8_remove_34 : decode cX8_remove 34 = .ok (.getfield 99, 3) := by decide +kernel
theorem dX8_remove_37 : decode cX8_remove 37 = .ok (.ireturn, 1) := by decide +kernel
theorem dX8_move_0 : decode cX8_move 0 = .ok (.aload_n 0, 1) := by decide +kernel
theorem dX8_move_1 : decode cX8_move 1 = .ok (.getfield 10, 3) := by decide +kernel
theorem dX8_move_4 : decode cX8_move 4 = .ok (.getfield 86, 3) := by decide +kernel
theorem dX8_move_7 : decode cX8_move 7 = .ok (.iload_n 1, 1) := by decide +kernel
theorem dX8_move_8 : decode cX8_move 8 = .ok (.invokevirtual 95, 3) := by decide +kernel
theorem dX8_move_11 : decode cX8_move 11 = .ok (.ifCond .ne 5, 3) := by decide +kernel
theorem dX8_move_14 : decode cX8_move 14 = .ok (.iconst (-1), 1) := by decide +kernel
theorem dX8_move_15 : decode cX8_move 15 = .ok (.ireturn, 1) := by decide +kernel
theorem dX8_move_16 : decode cX8_move 16 = .ok (.iload_n 2, 1) := by decide +kernel
theorem dX8_move_17 : decode cX8_move 17 = .ok (.ldc 100, 2) := by decide +kernel
theorem dX8_move_19 : decode cX8_move 19 = .ok (.ldc 85, 2) := by decide +kernel
theorem dX8_move_21 : decode cX8_move 21 = .ok (.invokestatic 36, 3) := by decide +kernel
theorem dX8_move_24 : decode cX8_move 24 = .ok (.ifCond .eq 26, 3) := by decide +kernel
theorem dX8_move_27 : decode cX8_move 27 = .ok (.aload_n 0, 1) := by decide +kernel
theorem dX8_move_28 : decode cX8_move 28 = .ok (.getfield 10, 3) := by decide +kernel
theorem dX8_move_31 : decode cX8_move 31 = .ok (.getfield 86, 3) := by decide +kernel
theorem dX8_move_34 : decode cX8_move 34 = .ok (.getfield 101, 3) := by decide +kernel
theorem dX8_move_37 : decode cX8_move 37 = .ok (.iload_n 1, 1) := by decide +kernel
theorem dX8_move_38 : decode cX8_move 38 = .ok (.iaload, 1) := by decide +kernel
theorem dX8_move_39 : decode cX8_move 39 = .ok (.iload_n 2, 1) := by decide +kernel
theorem dX8_move_40 : decode cX8_move 40 = .ok (.iadd, 1) := by decide +kernel
theorem dX8_move_41 : decode cX8_move 41 = .ok (.iconst 0, 1) := by decide +kernel
theorem dX8_move_42 : decode cX8_move 42 = .ok (.ldc 85, 2) := by decide +kernel
theorem dX8_move_44 : decode cX8_move 44 = .ok (.invokestatic 36, 3) := by decide +kernel
theorem dX8_move_47 : decode cX8_move 47 = .ok (.ifCond .ne 6, 3) := by decide +kernel
theorem dX8_move_50 : decode cX8_move 50 = .ok (.bipush (-2), 2) := by decide +kernel
theorem dX8_move_52 : decode cX8_move 52 = .ok (.ireturn, 1) := by decide +kernel
theorem dX8_move_53 : decode cX8_move 53 = .ok (.aload_n 0, 1) := by decide +kernel
theorem dX8_move_54 : decode cX8_move 54 = .ok (.getfield 10, 3) := by decide +kernel
theorem dX8_move_57 : decode cX8_move 57 = .ok (.getfield 86, 3) := by decide +kernel
theorem dX8_move_60 : decode cX8_move 60 = .ok (.iload_n 1, 1) := by decide +kernel
theorem dX8_move_61 : decode cX8_move 61 = .ok (.iload_n 2, 1) := by decide +kernel
theorem dX8_move_62 : decode cX8_move 62 = .ok (.invokevirtual 105, 3) := by decide +kernel
theorem dX8_move_65 : decode cX8_move 65 = .ok (.ireturn, 1) := by decide +kernel
theorem dX8_part_0 : decode cX8_part 0 = .ok (.aload_n 0, 1) := by decide +kernel
theorem dX8_part_1 : decode cX8_part 1 = .ok (.getfield 10, 3) := by decide +kernel
theorem dX8_part_4 : decode cX8_part 4 = .ok (.getfield 86, 3) := by decide +kernel
theorem dX8_part_7 : decode cX8_part 7 = .ok (.iload_n 1, 1) := by decide +kernel
theorem dX8_part_8 : decode cX8_part 8 = .ok (.invokevirtual 95, 3) := by decide +kernel
theorem dX8_part_11 : decode cX8_part 11 = .ok (.ifCond .ne 5, 3) := by decide +kernel
theorem dX8_part_14 : decode cX8_part 14 = .ok (.iconst (-1), 1) := by decide +kernel
theorem dX8_part_15 : decode cX8_part 15 = .ok (.ireturn, 1) := by decide +kernel
theorem dX8_part_16 : decode cX8_part 16 = .ok (.iload_n 2, 1) := by decide +kernel
theorem dX8_part_17 : decode cX8_part 17 = .ok (.tableswitch 66 0 2 #[27, 40, 53], 27) := by decide +kernel
theorem dX8_part_44 : decode cX8_part 44 = .ok (.aload_n 0, 1) := by decide +kernel
theorem dX8_part_45 : decode cX8_part 45 = .ok (.getfield 10, 3) := by decide +kernel
theorem dX8_part_48 : decode cX8_part 48 = .ok (.getfield 86, 3) := by decide +kernel
theorem dX8_part_51 : decode cX8_part 51 = .ok (.getfield 101, 3) := by decide +kernel
theorem dX8_part_54 : decode cX8_part 54 = .ok (.iload_n 1, 1) := by decide +kernel
theorem dX8_part_55 : decode cX8_part 55 = .ok (.iaload, 1) := by decide +kernel
theorem dX8_part_56 : decode cX8_part 56 = .ok (.ireturn, 1) := by decide +kernel
theorem dX8_part_57 : decode cX8_part 57 = .ok (.aload_n 0, 1) := by decide +kernel
theorem dX8_part_58 : decode cX8_part 58 = .ok (.getfield 10, 3) := by decide +kernel
theorem dX8_part_61 : decode cX8_part 61 = .ok (.getfield 86, 3) := by decide +kernel
theorem dX8_part_64 : decode cX8_part 64 = .ok (.getfield 109, 3) := by decide +kernel
theorem dX8_part_67 : decode cX8_part 67 = .ok (.iload_n 1, 1) := by decide +kernel
theorem dX8_part_68 : decode cX8_part 68 = .ok (.iaload, 1) := by decide +kernel
theorem dX8_part_69 : decode cX8_part 69 = .ok (.ireturn, 1) := by decide +kernel
theorem dX8_part_70 : decode cX8_part 70 = .ok (.aload_n 0, 1) := by decide +kernel
theorem dX8_part_71 : decode cX8_part 71 = .ok (.getfield 10, 3) := by decide +kernel
theorem dX8_part_74 : decode cX8_part 74 = .ok (.getfield 86, 3) := by decide +kernel
theorem dX8_part_77 : decode cX8_part 77 = .ok (.getfield 112, 3) := by decide +kernel
theorem dX8_part_80 : decode cX8_part 80 = .ok (.iload_n 1, 1) := by decide +kernel
theorem dX8_part_81 : decode cX8_part 81 = .ok (.iaload, 1) := by decide +kernel
theorem dX8_part_82 : decode cX8_part 82 = .ok (.ireturn, 1) := by decide +kernel
theorem dX8_part_83 : decode cX8_part 83 = .ok (.bipush (-2), 2) := by decide +kernel
theorem dX8_part_85 : decode cX8_part 85 = .ok (.ireturn, 1) := by decide +kernel
theorem dX8_command_0 : decode cX8_command 0 = .ok (.iload_n 1, 1) := by decide +kernel
theorem dX8_command_1 : decode cX8_command 1 = .ok (.iconst 1, 1) := by decide +kernel
theorem dX8_command_2 : decode cX8_command 2 = .ok (.sipush 4095, 3) := by decide +kernel
theorem dX8_command_5 : decode cX8_command 5 = .ok (.invokestatic 36, 3) := by decide +kernel
theorem dX8_command_8 : decode cX8_command 8 = .ok (.ifCond .eq 14, 3) := by decide +kernel
theorem dX8_command_11 : decode cX8_command 11 = .ok (.iload_n 2, 1) := by decide +kernel
theorem dX8_command_12 : decode cX8_command 12 = .ok (.iconst 0, 1) := by decide +kernel
theorem dX8_command_13 : decode cX8_command 13 = .ok (.sipush 1000, 3) := by decide +kernel
theorem dX8_command_16 : decode cX8_command 16 = .ok (.invokestatic 36, 3) := by decide +kernel
theorem dX8_command_19 : decode cX8_command 19 = .ok (.ifCond .ne 6, 3) := by decide +kernel
theorem dX8_command_22 : decode cX8_command 22 = .ok (.bipush (-2), 2) := by decide +kernel
theorem dX8_command_24 : decode cX8_command 24 = .ok (.ireturn, 1) := by decide +kernel
theorem dX8_command_25 : decode cX8_command 25 = .ok (.aload_n 0, 1) := by decide +kernel
theorem dX8_command_26 : decode cX8_command 26 = .ok (.getfield 10, 3) := by decide +kernel
theorem dX8_command_29 : decode cX8_command 29 = .ok (.getfield 40, 3) := by decide +kernel
theorem dX8_command_32 : decode cX8_command 32 = .ok (.iload_n 1, 1) := by decide +kernel
theorem dX8_command_33 : decode cX8_command 33 = .ok (.iload_n 2, 1) := by decide +kernel
theorem dX8_command_34 : decode cX8_command 34 = .ok (.invokevirtual 115, 3) := by decide +kernel
theorem dX8_command_37 : decode cX8_command 37 = .ok (.aload_n 0, 1) := by decide +kernel
theorem dX8_command_38 : decode cX8_command 38 = .ok (.getfield 10, 3) := by decide +kernel
theorem dX8_command_41 : decode cX8_command 41 = .ok (.getfield 119, 3) := by decide +kernel
theorem dX8_command_44 : decode cX8_command 44 = .ok (.ireturn, 1) := by decide +kernel
theorem dX8_tick_0 : decode cX8_tick 0 = .ok (.iload_n 1, 1) := by decide +kernel
theorem dX8_tick_1 : decode cX8_tick 1 = .ok (.iconst 1, 1) := by decide +kernel
theorem dX8_tick_2 : decode cX8_tick 2 = .ok (.sipush 2000, 3) := by decide +kernel
theorem dX8_tick_5 : decode cX8_tick 5 = .ok (.invokestatic 36, 3) := by decide +kernel
theorem dX8_tick_8 : decode cX8_tick 8 = .ok (.ifCond .ne 6, 3) := by decide +kernel
theorem dX8_tick_11 : decode cX8_tick 11 = .ok (.bipush (-2), 2) := by decide +kernel
theorem dX8_tick_13 : decode cX8_tick 13 = .ok (.ireturn, 1) := by decide +kernel
theorem dX8_tick_14 : decode cX8_tick 14 = .ok (.aload_n 0, 1) := by decide +kernel
theorem dX8_tick_15 : decode cX8_tick 15 = .ok (.getfield 10, 3) := by decide +kernel
theorem dX8_tick_18 : decode cX8_tick 18 = .ok (.getfield 119, 3) := by decide +kernel
theorem dX8_tick_21 : decode cX8_tick 21 = .ok (.iload_n 1, 1) := by decide +kernel
theorem dX8_tick_22 : decode cX8_tick 22 = .ok (.iadd, 1) := by decide +kernel
theorem dX8_tick_23 : decode cX8_tick 23 = .ok (.ldc 122, 2) := by decide +kernel
theorem dX8_tick_25 : decode cX8_tick 25 = .ok (.if_icmp .le 6, 3) := by decide +kernel
theorem dX8_tick_28 : decode cX8_tick 28 = .ok (.bipush (-5), 2) := by decide +kernel
theorem dX8_tick_30 : decode cX8_tick 30 = .ok (.ireturn, 1) := by decide +kernel
theorem dX8_tick_31 : decode cX8_tick 31 = .ok (.iconst 0, 1) := by decide +kernel
theorem dX8_tick_32 : decode cX8_tick 32 = .ok (.istore_n 2, 1) := by decide +kernel
theorem dX8_tick_33 : decode cX8_tick 33 = .ok (.iload_n 2, 1) := by decide +kernel
theorem dX8_tick_34 : decode cX8_tick 34 = .ok (.iload_n 1, 1) := by decide +kernel
theorem dX8_tick_35 : decode cX8_tick 35 = .ok (.if_icmp .ge 16, 3) := by decide +kernel
theorem dX8_tick_38 : decode cX8_tick 38 = .ok (.aload_n 0, 1) := by decide +kernel
theorem dX8_tick_39 : decode cX8_tick 39 = .ok (.getfield 10, 3) := by decide +kernel
theorem dX8_tick_42 : decode cX8_tick 42 = .ok (.invokevirtual 123, 3) := by decide +kernel
theorem dX8_tick_45 : decode cX8_tick 45 = .ok (.iinc 2 1, 3) := by decide +kernel
theorem dX8_tick_48 : decode cX8_tick 48 = .ok (.goto (-15), 3) := by decide +kernel
theorem dX8_tick_51 : decode cX8_tick 51 = .ok (.aload_n 0, 1) := by decide +kernel
theorem dX8_tick_52 : decode cX8_tick 52 = .ok (.getfield 10, 3) := by decide +kernel
theorem dX8_tick_55 : decode cX8_tick 55 = .ok (.getfield 119, 3) := by decide +kernel
theorem dX8_tick_58 : decode cX8_tick 58 = .ok (.ireturn, 1) := by decide +kernel
theorem dX8_rewind_0 : decode cX8_rewind 0 = .ok (.aload_n 0, 1) := by decide +kernel
theorem dX8_rewind_1 : decode cX8_rewind 1 = .ok (.getfield 10, 3) := by decide +kernel
theorem dX8_rewind_4 : decode cX8_rewind 4 = .ok (.getfield 119, 3) := by decide +kernel
theorem dX8_rewind_7 : decode cX8_rewind 7 = .ok (.istore_n 1, 1) := by decide +kernel
theorem dX8_rewind_8 : decode cX8_rewind 8 = .ok (.aload_n 0, 1) := by decide +kernel
theorem dX8_rewind_9 : decode cX8_rewind 9 = .ok (.getfield 10, 3) := by decide +kernel
theorem dX8_rewind_12 : decode cX8_rewind 12 = .ok (.invokevirtual 126, 3) := by decide +kernel
theorem dX8_rewind_15 : decode cX8_rewind 15 = .ok (.iload_n 1, 1) := by decide +kernel
theorem dX8_rewind_16 : decode cX8_rewind 16 = .ok (.ireturn, 1) := by decide +kernel
theorem dX8_spray_0 : decode cX8_spray 0 = .ok (.aload_n 0, 1) := by decide +kernel
theorem dX8_spray_1 : decode cX8_spray 1 = .ok (.getfield 10, 3) := by decide +kernel
theorem dX8_spray_4 : decode cX8_spray 4 = .ok (.getfield 40, 3) := by decide +kernel
theorem dX8_spray_7 : decode cX8_spray 7 = .ok (.iload_n 1, 1) := by decide +kernel
theorem dX8_spray_8 : decode cX8_spray 8 = .ok (.invokevirtual 54, 3) := by decide +kernel
theorem dX8_spray_11 : decode cX8_spray 11 = .ok (.ifCond .ne 5, 3) := by decide +kernel
theorem dX8_spray_14 : decode cX8_spray 14 = .ok (.iconst (-1), 1) := by decide +kernel
theorem dX8_spray_15 : decode cX8_spray 15 = .ok (.ireturn, 1) := by decide +kernel
theorem dX8_spray_16 : decode cX8_spray 16 = .ok (.iload_n 2, 1) := by decide +kernel
theorem dX8_spray_17 : decode cX8_spray 17 = .ok (.tableswitch 117 6 11 #[39, 52, 65, 78, 91, 104], 39) := by decide +kernel
theorem dX8_spray_56 : decode cX8_spray 56 = .ok (.aload_n 0, 1) := by decide +kernel
theorem dX8_spray_57 : decode cX8_spray 57 = .ok (.getfield 10, 3) := by decide +kernel
theorem dX8_spray_60 : decode cX8_spray 60 = .ok (.getfield 40, 3) := by decide +kernel
theorem dX8_spray_63 : decode cX8_spray 63 = .ok (.getfield 129, 3) := by decide +kernel
theorem dX8_spray_66 : decode cX8_spray 66 = .ok (.iload_n 1, 1) := by decide +kernel
theorem dX8_spray_67 : decode cX8_spray 67 = .ok (.iaload, 1) := by decide +kernel
theorem dX8_spray_68 : decode cX8_spray 68 = .ok (.ireturn, 1) := by decide +kernel
theorem dX8_spray_69 : decode cX8_spray 69 = .ok (.aload_n 0, 1) := by decide +kernel
theorem dX8_spray_70 : decode cX8_spray 70 = .ok (.getfield 10, 3) := by decide +kernel
theorem dX8_spray_73 : decode cX8_spray 73 = .ok (.getfield 40, 3) := by decide +kernel
theorem dX8_spray_76 : decode cX8_spray 76 = .ok (.getfield 132, 3) := by decide +kernel
theorem dX8_spray_79 : decode cX8_spray 79 = .ok (.iload_n 1, 1) := by decide +kernel
theorem dX8_spray_80 : decode cX8_spray 80 = .ok (.iaload, 1) := by decide +kernel
theorem dX8_spray_81 : decode cX8_spray 81 = .ok (.ireturn, 1) := by decide +kernel
theorem dX8_spray_82 : decode cX8_spray 82 = .ok (.aload_n 0, 1) := by decide +kernel
theorem dX8_spray_83 : decode cX8_spray 83 = .ok (.getfield 10, 3) := by decide +kernel
theorem dX8_spray_86 : decode cX8_spray 86 = .ok (.getfield 40, 3) := by decide +kernel
theorem dX8_spray_89 : decode cX8_spray 89 = .ok (.getfield 135, 3) := by decide +kernel
theorem dX8_spray_92 : decode cX8_spray 92 = .ok (.iload_n 1, 1) := by decide +kernel
theorem dX8_spray_93 : decode cX8_spray 93 = .ok (.iaload, 1) := by decide +kernel
theorem dX8_spray_94 : decode cX8_spray 94 = .ok (.ireturn, 1) := by decide +kernel
theorem dX8_spray_95 : decode cX8_spray 95 = .ok (.aload_n 0, 1) := by decide +kernel
theorem dX8_spray_96 : decode cX8_spray 96 = .ok (.getfield 10, 3) := by decide +kernel
theorem dX8_spray_99 : decode cX8_spray 99 = .ok (.getfield 40, 3) := by decide +kernel
theorem dX8_spray_102 : decode cX8_spray 102 = .ok (.getfield 138, 3) := by decide +kernel
theorem dX8_spray_105 : decode cX8_spray 105 = .ok (.iload_n 1, 1) := by decide +kernel
theorem dX8_spray_106 : decode cX8_spray 106 = .ok (.iaload, 1) := by decide +kernel
theorem dX8_spray_107 : decode cX8_spray 107 = .ok (.ireturn, 1) := by decide +kernel
theorem dX8_spray_108 : decode cX8_spray 108 = .ok (.aload_n 0, 1) := by decide +kernel
theorem dX8_spray_109 : decode cX8_spray 109 = .ok (.getfield 10, 3) := by decide +kernel
theorem dX8_spray_112 : decode cX8_spray 112 = .ok (.getfield 40, 3) := by decide +kernel
theorem dX8_spray_115 : decode cX8_spray 115 = .ok (.getfield 141, 3) := by decide +kernel
theorem dX8_spray_118 : decode cX8_spray 118 = .ok (.iload_n 1, 1) := by decide +kernel
theorem dX8_spray_119 : decode cX8_spray 119 = .ok (.iaload, 1) := by decide +kernel
theorem dX8_spray_120 : decode cX8_spray 120 = .ok (.ireturn, 1) := by decide +kernel
theorem dX8_spray_121 : decode cX8_spray 121 = .ok (.aload_n 0, 1) := by decide +kernel
theorem dX8_spray_122 : decode cX8_spray 122 = .ok (.getfield 10, 3) := by decide +kernel
theorem dX8_spray_125 : decode cX8_spray 125 = .ok (.getfield 40, 3) := by decide +kernel
theorem dX8_spray_128 : decode cX8_spray 128 = .ok (.getfield 144, 3) := by decide +kernel
theorem dX8_spray_131 : decode cX8_spray 131 = .ok (.iload_n 1, 1) := by decide +kernel
theorem dX8_spray_132 : decode cX8_spray 132 = .ok (.iaload, 1) := by decide +kernel
theorem dX8_spray_133 : decode cX8_spray 133 = .ok (.ireturn, 1) := by decide +kernel
theorem dX8_spray_134 : decode cX8_spray 134 = .ok (.iload_n 2, 1) := by decide +kernel
theorem dX8_spray_135 : decode cX8_spray 135 = .ok (.iconst 0, 1) := by decide +kernel
theorem dX8_spray_136 : decode cX8_spray 136 = .ok (.iconst 5, 1) := by decide +kernel
theorem dX8_spray_137 : decode cX8_spray 137 = .ok (.invokestatic 36, 3) := by decide +kernel
theorem dX8_spray_140 : decode cX8_spray 140 = .ok (.ifCond .eq 21, 3) := by decide +kernel
theorem dX8_spray_143 : decode cX8_spray 143 = .ok (.aload_n 0, 1) := by decide +kernel
theorem dX8_spray_144 : decode cX8_spray 144 = .ok (.getfield 10, 3) := by decide +kernel
theorem dX8_spray_147 : decode cX8_spray 147 = .ok (.getfield 40, 3) := by decide +kernel
theorem dX8_spray_150 : decode cX8_spray 150 = .ok (.getfield 58, 3) := by decide +kernel
theorem dX8_spray_153 : decode cX8_spray 153 = .ok (.iload_n 1, 1) := by decide +kernel
theorem dX8_spray_154 : decode cX8_spray 154 = .ok (.iload_n 2, 1) := by decide +kernel
theorem dX8_spray_155 : decode cX8_spray 155 = .ok (.invokevirtual 147, 3) := by decide +kernel
theorem dX8_spray_158 : decode cX8_spray 158 = .ok (.goto 5, 3) := by decide +kernel
theorem dX8_spray_161 : decode cX8_spray 161 = .ok (.bipush (-2), 2) := by decide +kernel
theorem dX8_spray_163 : decode cX8_spray 163 = .ok (.ireturn, 1) := by decide +kernel
theorem dX8_pressure_0 : decode cX8_pressure 0 = .ok (.iload_n 1, 1) := by decide +kernel
theorem dX8_pressure_1 : decode cX8_pressure 1 = .ok (.iconst 0, 1) := by decide +kernel
theorem dX8_pressure_2 : decode cX8_pressure 2 = .ok (.iconst 2, 1) := by decide +kernel
theorem dX8_pressure_3 : decode cX8_pressure 3 = .ok (.invokestatic 36, 3) := by decide +kernel
theorem dX8_pressure_6 : decode cX8_pressure 6 = .ok (.ifCond .ne 5, 3) := by decide +kernel
theorem dX8_pressure_9 : decode cX8_pressure 9 = .ok (.iconst (-1), 1) := by decide +kernel
theorem dX8_pressure_10 : decode cX8_pressure 10 = .ok (.ireturn, 1) := by decide +kernel
theorem dX8_pressure_11 : decode cX8_pressure 11 = .ok (.iload_n 2, 1) := by decide +kernel
theorem dX8_pressure_12 : decode cX8_pressure 12 = .ok (.tableswitch 67 2 4 #[28, 41, 54], 28) := by decide +kernel
theorem dX8_pressure_40 : decode cX8_pressure 40 = .ok (.aload_n 0, 1) := by decide +kernel
theorem dX8_pressure_41 : decode cX8_pressure 41 = .ok (.getfield 10, 3) := by decide +kernel
theorem dX8_pressure_44 : decode cX8_pressure 44 = .ok (.getfield 68, 3) := by decide +kernel
theorem dX8_pressure_47 : decode cX8_pressure 47 = .ok (.getfield 150, 3) := by decide +kernel
theorem dX8_pressure_50 : decode cX8_pressure 50 = .ok (.iload_n 1, 1) := by decide +kernel
theorem dX8_pressure_51 : decode cX8_pressure 51 = .ok (.iaload, 1) := by decide +kernel
theorem dX8_pressure_52 : decode cX8_pressure 52 = .ok (.ireturn, 1) := by decide +kernel
theorem dX8_pressure_53 : decode cX8_pressure 53 = .ok (.aload_n 0, 1) := by decide +kernel
theorem dX8_pressure_54 : decode cX8_pressure 54 = .ok (.getfield 10, 3) := by decide +kernel
theorem dX8_pressure_57 : decode cX8_pressure 57 = .ok (.getfield 68, 3) := by decide +kernel
theorem dX8_pressure_60 : decode cX8_pressure 60 = .ok (.getfield 151, 3) := by decide +kernel
theorem dX8_pressure_63 : decode cX8_pressure 63 = .ok (.iload_n 1, 1) := by decide +kernel
theorem dX8_pressure_64 : decode cX8_pressure 64 = .ok (.iaload, 1) := by decide +kernel
theorem dX8_pressure_65 : decode cX8_pressure 65 = .ok (.ireturn, 1) := by decide +kernel
theorem dX8_pressure_66 : decode cX8_pressure 66 = .ok (.aload_n 0, 1) := by decide +kernel
theorem dX8_pressure_67 : decode cX8_pressure 67 = .ok (.getfield 10, 3) := by decide +kernel
theorem dX8_pressure_70 : decode cX8_pressure 70 = .ok (.getfield 68, 3) := by decide +kernel
theorem dX8_pressure_73 : decode cX8_pressure 73 = .ok (.getfield 154, 3) := by decide +kernel
theorem dX8_pressure_76 : decode cX8_pressure 76 = .ok (.iload_n 1, 1) := by decide +kernel
theorem dX8_pressure_77 : decode cX8_pressure 77 = .ok (.iaload, 1) := by decide +kernel
theorem dX8_pressure_78 : decode cX8_pressure 78 = .ok (.ireturn, 1) := by decide +kernel
theorem dX8_pressure_79 : decode cX8_pressure 79 = .ok (.iload_n 2, 1) := by decide +kernel
theorem dX8_pressure_80 : decode cX8_pressure 80 = .ok (.iconst 0, 1) := by decide +kernel
theorem dX8_pressure_81 : decode cX8_pressure 81 = .ok (.iconst 1, 1) := by decide +kernel
theorem dX8_pressure_82 : decode cX8_pressure 82 = .ok (.invokestatic 36, 3) := by decide +kernel
theorem dX8_pressure_85 : decode cX8_pressure 85 = .ok (.ifCond .eq 21, 3) := by decide +kernel
theorem dX8_pressure_88 : decode cX8_pressure 88 = .ok (.aload_n 0, 1) := by decide +kernel
