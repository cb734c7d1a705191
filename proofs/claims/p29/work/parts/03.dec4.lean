theorem dX8_read_62 : decode cX8_read 62 = .ok (.iload_n 2, 1) := by decide +kernel
theorem dX8_read_63 : decode cX8_read 63 = .ok (.if_icmp .ge 58, 3) := by decide +kernel
theorem dX8_read_66 : decode cX8_read 66 = .ok (.aload_n 0, 1) := by decide +kernel
theorem dX8_read_67 : decode cX8_read 67 = .ok (.getfield 10, 3) := by decide +kernel
theorem dX8_read_70 : decode cX8_read 70 = .ok (.getfield 86, 3) := by decide +kernel
theorem dX8_read_73 : decode cX8_read 73 = .ok (.aload_n 0, 1) := by decide +kernel
theorem dX8_read_74 : decode cX8_read 74 = .ok (.getfield 32, 3) := by decide +kernel
theorem dX8_read_77 : decode cX8_read 77 = .ok (.getfield 220, 3) := by decide +kernel
theorem dX8_read_80 : decode cX8_read 80 = .ok (.getfield 101, 3) := by decide +kernel
theorem dX8_read_83 : decode cX8_read 83 = .ok (.iload_n 3, 1) := by decide +kernel
theorem dX8_read_84 : decode cX8_read 84 = .ok (.iaload, 1) := by decide +kernel
theorem dX8_read_85 : decode cX8_read 85 = .ok (.iload_n 1, 1) := by decide +kernel
theorem dX8_read_86 : decode cX8_read 86 = .ok (.iadd, 1) := by decide +kernel
theorem dX8_read_87 : decode cX8_read 87 = .ok (.aload_n 0, 1) := by decide +kernel
theorem dX8_read_88 : decode cX8_read 88 = .ok (.getfield 32, 3) := by decide +kernel
theorem dX8_read_91 : decode cX8_read 91 = .ok (.getfield 220, 3) := by decide +kernel
theorem dX8_read_94 : decode cX8_read 94 = .ok (.getfield 109, 3) := by decide +kernel
theorem dX8_read_97 : decode cX8_read 97 = .ok (.iload_n 3, 1) := by decide +kernel
theorem dX8_read_98 : decode cX8_read 98 = .ok (.iaload, 1) := by decide +kernel
theorem dX8_read_99 : decode cX8_read 99 = .ok (.aload_n 0, 1) := by decide +kernel
theorem dX8_read_100 : decode cX8_read 100 = .ok (.getfield 32, 3) := by decide +kernel
theorem dX8_read_103 : decode cX8_read 103 = .ok (.getfield 220, 3) := by decide +kernel
theorem dX8_read_106 : decode cX8_read 106 = .ok (.getfield 112, 3) := by decide +kernel
theorem dX8_read_109 : decode cX8_read 109 = .ok (.iload_n 3, 1) := by decide +kernel
theorem dX8_read_110 : decode cX8_read 110 = .ok (.iaload, 1) := by decide +kernel
theorem dX8_read_111 : decode cX8_read 111 = .ok (.invokevirtual 90, 3) := by decide +kernel
theorem dX8_read_114 : decode cX8_read 114 = .ok (.pop, 1) := by decide +kernel
theorem dX8_read_115 : decode cX8_read 115 = .ok (.iinc 3 1, 3) := by decide +kernel
theorem dX8_read_118 : decode cX8_read 118 = .ok (.goto (-57), 3) := by decide +kernel
theorem dX8_read_121 : decode cX8_read 121 = .ok (.aload_n 0, 1) := by decide +kernel
theorem dX8_read_122 : decode cX8_read 122 = .ok (.getfield 32, 3) := by decide +kernel
theorem dX8_read_125 : decode cX8_read 125 = .ok (.iconst 0, 1) := by decide +kernel
theorem dX8_read_126 : decode cX8_read 126 = .ok (.putfield 178, 3) := by decide +kernel
theorem dX8_read_129 : decode cX8_read 129 = .ok (.iload_n 2, 1) := by decide +kernel
theorem dX8_read_130 : decode cX8_read 130 = .ok (.ireturn, 1) := by decide +kernel
theorem dX8_save_0 : decode cX8_save 0 = .ok (.aload_n 0, 1) := by decide +kernel
theorem dX8_save_1 : decode cX8_save 1 = .ok (.iload_n 1, 1) := by decide +kernel
theorem dX8_save_2 : decode cX8_save 2 = .ok (.invokevirtual 223, 3) := by decide +kernel
theorem dX8_save_5 : decode cX8_save 5 = .ok (.astore_n 2, 1) := by decide +kernel
theorem dX8_save_6 : decode cX8_save 6 = .ok (.aload_n 2, 1) := by decide +kernel
theorem dX8_save_7 : decode cX8_save 7 = .ok (.ifnonnull 6, 3) := by decide +kernel
theorem dX8_save_10 : decode cX8_save 10 = .ok (.bipush (-2), 2) := by decide +kernel
theorem dX8_save_12 : decode cX8_save 12 = .ok (.ireturn, 1) := by decide +kernel
theorem dX8_save_13 : decode cX8_save 13 = .ok (.aload_n 2, 1) := by decide +kernel
theorem dX8_save_14 : decode cX8_save 14 = .ok (.getfield 227, 3) := by decide +kernel
theorem dX8_save_17 : decode cX8_save 17 = .ok (.aload_n 0, 1) := by decide +kernel
theorem dX8_save_18 : decode cX8_save 18 = .ok (.getfield 10, 3) := by decide +kernel
theorem dX8_save_21 : decode cX8_save 21 = .ok (.invokevirtual 181, 3) := by decide +kernel
theorem dX8_save_24 : decode cX8_save 24 = .ok (.aload_n 2, 1) := by decide +kernel
theorem dX8_save_25 : decode cX8_save 25 = .ok (.iconst 1, 1) := by decide +kernel
theorem dX8_save_26 : decode cX8_save 26 = .ok (.putfield 230, 3) := by decide +kernel
theorem dX8_save_29 : decode cX8_save 29 = .ok (.aload_n 0, 1) := by decide +kernel
theorem dX8_save_30 : decode cX8_save 30 = .ok (.getfield 10, 3) := by decide +kernel
theorem dX8_save_33 : decode cX8_save 33 = .ok (.getfield 119, 3) := by decide +kernel
theorem dX8_save_36 : decode cX8_save 36 = .ok (.ireturn, 1) := by decide +kernel
theorem dX8_restore_0 : decode cX8_restore 0 = .ok (.aload_n 0, 1) := by decide +kernel
theorem dX8_restore_1 : decode cX8_restore 1 = .ok (.iload_n 1, 1) := by decide +kernel
theorem dX8_restore_2 : decode cX8_restore 2 = .ok (.invokevirtual 223, 3) := by decide +kernel
theorem dX8_restore_5 : decode cX8_restore 5 = .ok (.astore_n 2, 1) := by decide +kernel
theorem dX8_restore_6 : decode cX8_restore 6 = .ok (.aload_n 2, 1) := by decide +kernel
theorem dX8_restore_7 : decode cX8_restore 7 = .ok (.ifnonnull 6, 3) := by decide +kernel
theorem dX8_restore_10 : decode cX8_restore 10 = .ok (.bipush (-2), 2) := by decide +kernel
theorem dX8_restore_12 : decode cX8_restore 12 = .ok (.ireturn, 1) := by decide +kernel
theorem dX8_restore_13 : decode cX8_restore 13 = .ok (.aload_n 2, 1) := by decide +kernel
theorem dX8_restore_14 : decode cX8_restore 14 = .ok (.getfield 230, 3) := by decide +kernel
theorem dX8_restore_17 : decode cX8_restore 17 = .ok (.ifCond .ne 6, 3) := by decide +kernel
theorem dX8_restore_20 : decode cX8_restore 20 = .ok (.bipush (-5), 2) := by decide +kernel
theorem dX8_restore_22 : decode cX8_restore 22 = .ok (.ireturn, 1) := by decide +kernel
theorem dX8_restore_23 : decode cX8_restore 23 = .ok (.aload_n 0, 1) := by decide +kernel
theorem dX8_restore_24 : decode cX8_restore 24 = .ok (.getfield 10, 3) := by decide +kernel
theorem dX8_restore_27 : decode cX8_restore 27 = .ok (.aload_n 2, 1) := by decide +kernel
theorem dX8_restore_28 : decode cX8_restore 28 = .ok (.getfield 227, 3) := by decide +kernel
theorem dX8_restore_31 : decode cX8_restore 31 = .ok (.invokevirtual 181, 3) := by decide +kernel
theorem dX8_restore_34 : decode cX8_restore 34 = .ok (.aload_n 0, 1) := by decide +kernel
theorem dX8_restore_35 : decode cX8_restore 35 = .ok (.getfield 10, 3) := by decide +kernel
theorem dX8_restore_38 : decode cX8_restore 38 = .ok (.getfield 119, 3) := by decide +kernel
theorem dX8_restore_41 : decode cX8_restore 41 = .ok (.ireturn, 1) := by decide +kernel
theorem dX8_slotAt_0 : decode cX8_slotAt 0 = .ok (.iload_n 1, 1) := by decide +kernel
theorem dX8_slotAt_1 : decode cX8_slotAt 1 = .ok (.lookupswitch 37 #[(0, 27), (1, 32)], 27) := by decide +kernel
theorem dX8_slotAt_28 : decode cX8_slotAt 28 = .ok (.aload_n 0, 1) := by decide +kernel
theorem dX8_slotAt_29 : decode cX8_slotAt 29 = .ok (.getfield 22, 3) := by decide +kernel
theorem dX8_slotAt_32 : decode cX8_slotAt 32 = .ok (.areturn, 1) := by decide +kernel
theorem dX8_slotAt_33 : decode cX8_slotAt 33 = .ok (.aload_n 0, 1) := by decide +kernel
theorem dX8_slotAt_34 : decode cX8_slotAt 34 = .ok (.getfield 26, 3) := by decide +kernel
theorem dX8_slotAt_37 : decode cX8_slotAt 37 = .ok (.areturn, 1) := by decide +kernel
theorem dX8_slotAt_38 : decode cX8_slotAt 38 = .ok (.aconst_null, 1) := by decide +kernel
theorem dX8_slotAt_39 : decode cX8_slotAt 39 = .ok (.areturn, 1) := by decide +kernel
theorem dX8_greatestDemand_0 : decode cX8_greatestDemand 0 = .ok (.iconst 0, 1) := by decide +kernel
theorem dX8_greatestDemand_1 : decode cX8_greatestDemand 1 = .ok (.istore_n 3, 1) := by decide +kernel
theorem dX8_greatestDemand_2 : decode cX8_greatestDemand 2 = .ok (.iconst 0, 1) := by decide +kernel
theorem dX8_greatestDemand_3 : decode cX8_greatestDemand 3 = .ok (.istore 4, 2) := by decide +kernel
theorem dX8_greatestDemand_5 : decode cX8_greatestDemand 5 = .ok (.iload 4, 2) := by decide +kernel
theorem dX8_greatestDemand_7 : decode cX8_greatestDemand 7 = .ok (.iload_n 1, 1) := by decide +kernel
theorem dX8_greatestDemand_8 : decode cX8_greatestDemand 8 = .ok (.if_icmp .ge 33, 3) := by decide +kernel
theorem dX8_greatestDemand_11 : decode cX8_greatestDemand 11 = .ok (.aload_n 0, 1) := by decide +kernel
theorem dX8_greatestDemand_12 : decode cX8_greatestDemand 12 = .ok (.getfield 16, 3) := by decide +kernel
theorem dX8_greatestDemand_15 : decode cX8_greatestDemand 15 = .ok (.invokevirtual 123, 3) := by decide +kernel
theorem dX8_greatestDemand_18 : decode cX8_greatestDemand 18 = .ok (.iload_n 3, 1) := by decide +kernel
theorem dX8_greatestDemand_19 : decode cX8_greatestDemand 19 = .ok (.aload_n 0, 1) := by decide +kernel
theorem dX8_greatestDemand_20 : decode cX8_greatestDemand 20 = .ok (.getfield 16, 3) := by decide +kernel
theorem dX8_greatestDemand_23 : decode cX8_greatestDemand 23 = .ok (.getfield 68, 3) := by decide +kernel
theorem dX8_greatestDemand_26 : decode cX8_greatestDemand 26 = .ok (.getfield 151, 3) := by decide +kernel
theorem dX8_greatestDemand_29 : decode cX8_greatestDemand 29 = .ok (.iload_n 2, 1) := by decide +kernel
theorem dX8_greatestDemand_30 : decode cX8_greatestDemand 30 = .ok (.iaload, 1) := by decide +kernel
theorem dX8_greatestDemand_31 : decode cX8_greatestDemand 31 = .ok (.invokestatic 234, 3) := by decide +kernel
theorem dX8_greatestDemand_34 : decode cX8_greatestDemand 34 = .ok (.istore_n 3, 1) := by decide +kernel
theorem dX8_greatestDemand_35 : decode cX8_greatestDemand 35 = .ok (.iinc 4 1, 3) := by decide +kernel
theorem dX8_greatestDemand_38 : decode cX8_greatestDemand 38 = .ok (.goto (-33), 3) := by decide +kernel
theorem dX8_greatestDemand_41 : decode cX8_greatestDemand 41 = .ok (.iload_n 3, 1) := by decide +kernel
theorem dX8_greatestDemand_42 : decode cX8_greatestDemand 42 = .ok (.ireturn, 1) := by decide +kernel
theorem dX8_shortTicks_0 : decode cX8_shortTicks 0 = .ok (.aload_n 0, 1) := by decide +kernel
theorem dX8_shortTicks_1 : decode cX8_shortTicks 1 = .ok (.getfield 16, 3) := by decide +kernel
theorem dX8_shortTicks_4 : decode cX8_shortTicks 4 = .ok (.getfield 68, 3) := by decide +kernel
theorem dX8_shortTicks_7 : decode cX8_shortTicks 7 = .ok (.getfield 154, 3) := by decide +kernel
theorem dX8_shortTicks_10 : decode cX8_shortTicks 10 = .ok (.iload_n 2, 1) := by decide +kernel
theorem dX8_shortTicks_11 : decode cX8_shortTicks 11 = .ok (.iaload, 1) := by decide +kernel
theorem dX8_shortTicks_12 : decode cX8_shortTicks 12 = .ok (.istore_n 3, 1) := by decide +kernel
theorem dX8_shortTicks_13 : decode cX8_shortTicks 13 = .ok (.iconst 0, 1) := by decide +kernel
theorem dX8_shortTicks_14 : decode cX8_shortTicks 14 = .ok (.istore 4, 2) := by decide +kernel
theorem dX8_shortTicks_16 : decode cX8_shortTicks 16 = .ok (.iload 4, 2) := by decide +kernel
theorem dX8_shortTicks_18 : decode cX8_shortTicks 18 = .ok (.iload_n 1, 1) := by decide +kernel
theorem dX8_shortTicks_19 : decode cX8_shortTicks 19 = .ok (.if_icmp .ge 16, 3) := by decide +kernel
theorem dX8_shortTicks_22 : decode cX8_shortTicks 22 = .ok (.aload_n 0, 1) := by decide +kernel
theorem dX8_shortTicks_23 : decode cX8_shortTicks 23 = .ok (.getfield 16, 3) := by decide +kernel
theorem dX8_shortTicks_26 : decode cX8_shortTicks 26 = .ok (.invokevirtual 123, 3) := by decide +kernel
theorem dX8_shortTicks_29 : decode cX8_shortTicks 29 = .ok (.iinc 4 1, 3) := by decide +kernel
theorem dX8_shortTicks_32 : decode cX8_shortTicks 32 = .ok (.goto (-16), 3) := by decide +kernel
theorem dX8_shortTicks_35 : decode cX8_shortTicks 35 = .ok (.aload_n 0, 1) := by decide +kernel
theorem dX8_shortTicks_36 : decode cX8_shortTicks 36 = .ok (.getfield 16, 3) := by decide +kernel
theorem dX8_shortTicks_39 : decode cX8_shortTicks 39 = .ok (.getfield 68, 3) := by decide +kernel
theorem dX8_shortTicks_42 : decode cX8_shortTicks 42 = .ok (.getfield 154, 3) := by decide +kernel
theorem dX8_shortTicks_45 : decode cX8_shortTicks 45 = .ok (.iload_n 2, 1) := by decide +kernel
theorem dX8_shortTicks_46 : decode cX8_shortTicks 46 = .ok (.iaload, 1) := by decide +kernel
theorem dX8_shortTicks_47 : decode cX8_shortTicks 47 = .ok (.iload_n 3, 1) := by decide +kernel
theorem dX8_shortTicks_48 : decode cX8_shortTicks 48 = .ok (.isub, 1) := by decide +kernel
theorem dX8_shortTicks_49 : decode cX8_shortTicks 49 = .ok (.ireturn, 1) := by decide +kernel
theorem dX8_firstShort_0 : decode cX8_firstShort 0 = .ok (.iconst 0, 1) := by decide +kernel
theorem dX8_firstShort_1 : decode cX8_firstShort 1 = .ok (.istore_n 3, 1) := by decide +kernel
theorem dX8_firstShort_2 : decode cX8_firstShort 2 = .ok (.iload_n 3, 1) := by decide +kernel
theorem dX8_firstShort_3 : decode cX8_firstShort 3 = .ok (.iload_n 1, 1) := by decide +kernel
theorem dX8_firstShort_4 : decode cX8_firstShort 4 = .ok (.if_icmp .ge 32, 3) := by decide +kernel
theorem dX8_firstShort_7 : decode cX8_firstShort 7 = .ok (.aload_n 0, 1) := by decide +kernel
theorem dX8_firstShort_8 : decode cX8_firstShort 8 = .ok (.getfield 16, 3) := by decide +kernel
theorem dX8_firstShort_11 : decode cX8_firstShort 11 = .ok (.invokevirtual 123, 3) := by decide +kernel
theorem dX8_firstShort_14 : decode cX8_firstShort 14 = .ok (.aload_n 0, 1) := by decide +kernel
theorem dX8_firstShort_15 : decode cX8_firstShort 15 = .ok (.getfield 16, 3) := by decide +kernel
theorem dX8_firstShort_18 : decode cX8_firstShort 18 = .ok (.getfield 68, 3) := by decide +kernel
theorem dX8_firstShort_21 : decode cX8_firstShort 21 = .ok (.iload_n 2, 1) := by decide +kernel
theorem dX8_firstShort_22 : decode cX8_firstShort 22 = .ok (.invokevirtual 237, 3) := by decide +kernel
theorem dX8_firstShort_25 : decode cX8_firstShort 25 = .ok (.ifCond .eq 5, 3) := by decide +kernel
theorem dX8_firstShort_28 : decode cX8_firstShort 28 = .ok (.iload_n 3, 1) := by decide +kernel
theorem dX8_firstShort_29 : decode cX8_firstShort 29 = .ok (.ireturn, 1) := by decide +kernel
theorem dX8_firstShort_30 : decode cX8_firstShort 30 = .ok (.iinc 3 1, 3) := by decide +kernel
theorem dX8_firstShort_33 : decode cX8_firstShort 33 = .ok (.goto (-31), 3) := by decide +kernel
theorem dX8_firstShort_36 : decode cX8_firstShort 36 = .ok (.bipush (-6), 2) := by decide +kernel
theorem dX8_firstShort_38 : decode cX8_firstShort 38 = .ok (.ireturn, 1) := by decide +kernel
theorem dX8_wetTicks_0 : decode cX8_wetTicks 0 = .ok (.aload_n 0, 1) := by decide +kernel
theorem dX8_wetTicks_1 : decode cX8_wetTicks 1 = .ok (.getfield 16, 3) := by decide +kernel
theorem dX8_wetTicks_4 : decode cX8_wetTicks 4 = .ok (.getfield 171, 3) := by decide +kernel
theorem dX8_wetTicks_7 : decode cX8_wetTicks 7 = .ok (.istore_n 2, 1) := by decide +kernel
theorem dX8_wetTicks_8 : decode cX8_wetTicks 8 = .ok (.iconst 0, 1) := by decide +kernel
theorem dX8_wetTicks_9 : decode cX8_wetTicks 9 = .ok (.istore_n 3, 1) := by decide +kernel
theorem dX8_wetTicks_10 : decode cX8_wetTicks 10 = .ok (.iload_n 3, 1) := by decide +kernel
theorem dX8_wetTicks_11 : decode cX8_wetTicks 11 = .ok (.iload_n 1, 1) := by decide +kernel
theorem dX8_wetTicks_12 : decode cX8_wetTicks 12 = .ok (.if_icmp .ge 16, 3) := by decide +kernel
theorem dX8_wetTicks_15 : decode cX8_wetTicks 15 = .ok (.aload_n 0, 1) := by decide +kernel
theorem dX8_wetTicks_16 : decode cX8_wetTicks 16 = .ok (.getfield 16, 3) := by decide +kernel
theorem dX8_wetTicks_19 : decode cX8_wetTicks 19 = .ok (.invokevirtual 123, 3) := by decide +kernel
theorem dX8_wetTicks_22 : decode cX8_wetTicks 22 = .ok (.iinc 3 1, 3) := by decide +kernel
theorem dX8_wetTicks_25 : decode cX8_wetTicks 25 = .ok (.goto (-15), 3) := by decide +kernel
theorem dX8_wetTicks_28 : decode cX8_wetTicks 28 = .ok (.aload_n 0, 1) := by decide +kernel
theorem dX8_wetTicks_29 : decode cX8_wetTicks 29 = .ok (.getfield 16, 3) := by decide +kernel
theorem dX8_wetTicks_32 : decode cX8_wetTicks 32 = .ok (.getfield 171, 3) := by decide +kernel
theorem dX8_wetTicks_35 : decode cX8_wetTicks 35 = .ok (.iload_n 2, 1) := by decide +kernel
theorem dX8_wetTicks_36 : decode cX8_wetTicks 36 = .ok (.isub, 1) := by decide +kernel
theorem dX8_wetTicks_37 : decode cX8_wetTicks 37 = .ok (.ireturn, 1) := by decide +kernel
theorem dX8_greatestHeight_0 : decode cX8_greatestHeight 0 = .ok (.iconst 0, 1) := by decide +kernel
theorem dX8_greatestHeight_1 : decode cX8_greatestHeight 1 = .ok (.istore_n 2, 1) := by decide +kernel
theorem dX8_greatestHeight_2 : decode cX8_greatestHeight 2 = .ok (.iconst 0, 1) := by decide +kernel
theorem dX8_greatestHeight_3 : decode cX8_greatestHeight 3 = .ok (.istore_n 3, 1) := by decide +kernel
theorem dX8_greatestHeight_4 : decode cX8_greatestHeight 4 = .ok (.iload_n 3, 1) := by decide +kernel
theorem dX8_greatestHeight_5 : decode cX8_greatestHeight 5 = .ok (.iload_n 1, 1) := by decide +kernel
theorem dX8_greatestHeight_6 : decode cX8_greatestHeight 6 = .ok (.if_icmp .ge 31, 3) := by decide +kernel
theorem dX8_greatestHeight_9 : decode cX8_greatestHeight 9 = .ok (.aload_n 0, 1) := by decide +kernel
theorem dX8_greatestHeight_10 : decode cX8_greatestHeight 10 = .ok (.getfield 16, 3) := by decide +kernel
theorem dX8_greatestHeight_13 : decode cX8_greatestHeight 13 = .ok (.invokevirtual 123, 3) := by decide +kernel
theorem dX8_greatestHeight_16 : decode cX8_greatestHeight 16 = .ok (.iload_n 2, 1) := by decide +kernel
theorem dX8_greatestHeight_17 : decode cX8_greatestHeight 17 = .ok (.aload_n 0, 1) := by decide +kernel
theorem dX8_greatestHeight_18 : decode cX8_greatestHeight 18 = .ok (.getfield 16, 3) := by decide +kernel
theorem dX8_greatestHeight_21 : decode cX8_greatestHeight 21 = .ok (.getfield 40, 3) := by decide +kernel
theorem dX8_greatestHeight_24 : decode cX8_greatestHeight 24 = .ok (.invokevirtual 240, 3) := by decide +kernel
theorem dX8_greatestHeight_27 : decode cX8_greatestHeight 27 = .ok (.invokestatic 234, 3) := by decide +kernel
theorem dX8_greatestHeight_30 : decode cX8_greatestHeight 30 = .ok (.istore_n 2, 1) := by decide +kernel
theorem dX8_greatestHeight_31 : decode cX8_greatestHeight 31 = .ok (.iinc 3 1, 3) := by decide +kernel
theorem dX8_greatestHeight_34 : decode cX8_greatestHeight 34 = .ok (.goto (-30), 3) := by decide +kernel
theorem dX8_greatestHeight_37 : decode cX8_greatestHeight 37 = .ok (.iload_n 2, 1) := by decide +kernel
theorem dX8_greatestHeight_38 : decode cX8_greatestHeight 38 = .ok (.ireturn, 1) := by decide +kernel
theorem dX8_staysSupplied_0 : decode cX8_staysSupplied 0 = .ok (.iconst 0, 1) := by decide +kernel
theorem dX8_staysSupplied_1 : decode cX8_staysSupplied 1 = .ok (.istore_n 2, 1) := by decide +kernel
theorem dX8_staysSupplied_2 : decode cX8_staysSupplied 2 = .ok (.iload_n 2, 1) := by decide +kernel
theorem dX8_staysSupplied_3 : decode cX8_staysSupplied 3 = .ok (.iload_n 1, 1) := by decide +kernel
theorem dX8_staysSupplied_4 : decode cX8_staysSupplied 4 = .ok (.if_icmp .ge 31, 3) := by decide +kernel
theorem dX8_staysSupplied_7 : decode cX8_staysSupplied 7 = .ok (.aload_n 0, 1) := by decide +kernel
theorem dX8_staysSupplied_8 : decode cX8_staysSupplied 8 = .ok (.getfield 16, 3) := by decide +kernel
theorem dX8_staysSupplied_11 : decode cX8_staysSupplied 11 = .ok (.invokevirtual 123, 3) := by decide +kernel
theorem dX8_staysSupplied_14 : decode cX8_staysSupplied 14 = .ok (.aload_n 0, 1) := by decide +kernel
theorem dX8_staysSupplied_15 : decode cX8_staysSupplied 15 = .ok (.getfield 16, 3) := by decide +kernel
theorem dX8_staysSupplied_18 : decode cX8_staysSupplied 18 = .ok (.getfield 68, 3) := by decide +kernel
theorem dX8_staysSupplied_21 : decode cX8_staysSupplied 21 = .ok (.invokevirtual 243, 3) := by decide +kernel
theorem dX8_staysSupplied_24 : decode cX8_staysSupplied 24 = .ok (.ifCond .eq 5, 3) := by decide +kernel
theorem dX8_staysSupplied_27 : decode cX8_staysSupplied 27 = .ok (.iconst 0, 1) := by decide +kernel
theorem dX8_staysSupplied_28 : decode cX8_staysSupplied 28 = .ok (.ireturn, 1) := by decide +kernel
theorem dX8_staysSupplied_29 : decode cX8_staysSupplied 29 = .ok (.iinc 2 1, 3) := by decide +kernel
theorem dX8_staysSupplied_32 : decode cX8_staysSupplied 32 = .ok (.goto (-30), 3) := by decide +kernel
theorem dX8_staysSupplied_35 : decode cX8_staysSupplied 35 = .ok (.iconst 1, 1) := by decide +kernel
theorem dX8_staysSupplied_36 : decode cX8_staysSupplied 36 = .ok (.ireturn, 1) := by decide +kernel
theorem dX8_staysDry_0 : decode cX8_staysDry 0 = .ok (.aload_n 0, 1) := by decide +kernel
theorem dX8_staysDry_1 : decode cX8_staysDry 1 = .ok (.getfield 16, 3) := by decide +kernel
theorem dX8_staysDry_4 : decode cX8_staysDry 4 = .ok (.getfield 171, 3) := by decide +kernel
theorem dX8_staysDry_7 : decode cX8_staysDry 7 = .ok (.istore_n 2, 1) := by decide +kernel
theorem dX8_staysDry_8 : decode cX8_staysDry 8 = .ok (.aload_n 0, 1) := by decide +kernel
theorem dX8_staysDry_9 : decode cX8_staysDry 9 = .ok (.getfield 16, 3) := by decide +kernel
theorem dX8_staysDry_12 : decode cX8_staysDry 12 = .ok (.getfield 40, 3) := by decide +kernel
theorem dX8_staysDry_15 : decode cX8_staysDry 15 = .ok (.iconst 0, 1) := by decide +kernel
theorem dX8_staysDry_16 : decode cX8_staysDry 16 = .ok (.putfield 209, 3) := by decide +kernel
theorem dX8_staysDry_19 : decode cX8_staysDry 19 = .ok (.iconst 0, 1) := by decide +kernel
theorem dX8_staysDry_20 : decode cX8_staysDry 20 = .ok (.istore_n 3, 1) := by decide +kernel
theorem dX8_staysDry_21 : decode cX8_staysDry 21 = .ok (.iload_n 3, 1) := by decide +kernel
theorem dX8_staysDry_22 : decode cX8_staysDry 22 = .ok (.iload_n 1, 1) := by decide +kernel
theorem dX8_staysDry_23 : decode cX8_staysDry 23 = .ok (.if_icmp .ge 29, 3) := by decide +kernel
theorem dX8_staysDry_26 : decode cX8_staysDry 26 = .ok (.aload_n 0, 1) := by decide +kernel
theorem dX8_staysDry_27 : decode cX8_staysDry 27 = .ok (.getfield 16, 3) := by decide +kernel
theorem dX8_staysDry_30 : decode cX8_staysDry 30 = .ok (.invokevirtual 123, 3) := by decide +kernel
theorem dX8_staysDry_33 : decode cX8_staysDry 33 = .ok (.aload_n 0, 1) := by decide +kernel
theorem dX8_staysDry_34 : decode cX8_staysDry 34 = .ok (.getfield 16, 3) := by decide +kernel
theorem dX8_staysDry_37 : decode cX8_staysDry 37 = .ok (.getfield 171, 3) := by decide +kernel
theorem dX8_staysDry_40 : decode cX8_staysDry 40 = .ok (.iload_n 2, 1) := by decide +kernel
theorem dX8_staysDry_41 : decode cX8_staysDry 41 = .ok (.if_icmp .le 5, 3) := by decide +kernel
theorem dX8_staysDry_44 : decode cX8_staysDry 44 = .ok (.iconst 0, 1) := by decide +kernel
theorem dX8_staysDry_45 : decode cX8_staysDry 45 = .ok (.ireturn, 1) := by decide +kernel
theorem dX8_staysDry_46 : decode cX8_staysDry 46 = .ok (.iinc 3 1, 3) := by decide +kernel
theorem dX8_staysDry_49 : decode cX8_staysDry 49 = .ok (.goto (-28), 3) := by decide +kernel
theorem dX8_staysDry_52 : decode cX8_staysDry 52 = .ok (.iconst 1, 1) := by decide +kernel
theorem dX8_staysDry_53 : decode cX8_staysDry 53 = .ok (.ireturn, 1) := by decide +kernel
theorem dX8_within_0 : decode cX8_within 0 = .ok (.iload_n 0, 1) := by decide +kernel
theorem dX8_within_1 : decode cX8_within 1 = .ok (.iload_n 1, 1) := by decide +kernel
theorem dX8_within_2 : decode cX8_within 2 = .ok (.if_icmp .lt 12, 3) := by decide +kernel
theorem dX8_within_5 : decode cX8_within 5 = .ok (.iload_n 0, 1) := by decide +kernel
theorem dX8_within_6 : decode cX8_within 6 = .ok (.iload_n 2, 1) := by decide +kernel
theorem dX8_within_7 : decode cX8_within 7 = .ok (.if_icmp .gt 7, 3) := by decide +kernel
theorem dX8_within_10 : decode cX8_within 10 = .ok (.iconst 1, 1) := by decide +kernel
theorem dX8_within_11 : decode cX8_within 11 = .ok (.goto 4, 3) := by decide +kernel
theorem dX8_within_14 : decode cX8_within 14 = .ok (.iconst 0, 1) := by decide +kernel
theorem dX8_within_15 : decode cX8_within 15 = .ok (.ireturn, 1) := by decide +kernel
theorem dX8_quotient_0 : decode cX8_quotient 0 = .ok (.lload_n 2, 1) := by decide +kernel
theorem dX8_quotient_1 : decode cX8_quotient 1 = .ok (.lconst 1, 1) := by decide +kernel
theorem dX8_quotient_2 : decode cX8_quotient 2 = .ok (.lcmp, 1) := by decide +kernel
theorem dX8_quotient_3 : decode cX8_quotient 3 = .ok (.ifCond .ge 7, 3) := by decide +kernel
theorem dX8_quotient_6 : decode cX8_quotient 6 = .ok (.lconst 0, 1) := by decide +kernel
theorem dX8_quotient_7 : decode cX8_quotient 7 = .ok (.goto 8, 3) := by decide +kernel
theorem dX8_quotient_10 : decode cX8_quotient 10 = .ok (.lload_n 0, 1) := by decide +kernel
theorem dX8_quotient_11 : decode cX8_quotient 11 = .ok (.lload_n 2, 1) := by decide +kernel
theorem dX8_quotient_12 : decode cX8_quotient 12 = .ok (.invokestatic 247, 3) := by decide +kernel
theorem dX8_quotient_15 : decode cX8_quotient 15 = .ok (.lreturn, 1) := by decide +kernel
theorem dX8_toward_0 : decode cX8_toward 0 = .ok (.iload_n 0, 1) := by decide +kernel
theorem dX8_toward_1 : decode cX8_toward 1 = .ok (.iload_n 1, 1) := by decide +kernel
theorem dX8_toward_2 : decode cX8_toward 2 = .ok (.if_icmp .ge 13, 3) := by decide +kernel
theorem dX8_toward_5 : decode cX8_toward 5 = .ok (.iload_n 1, 1) := by decide +kernel
theorem dX8_toward_6 : decode cX8_toward 6 = .ok (.iload_n 0, 1) := by decide +kernel
theorem dX8_toward_7 : decode cX8_toward 7 = .ok (.iload_n 2, 1) := by decide +kernel
theorem dX8_toward_8 : decode cX8_toward 8 = .ok (.iadd, 1) := by decide +kernel
theorem dX8_toward_9 : decode cX8_toward 9 = .ok (.invokestatic 198, 3) := by decide +kernel
theorem dX8_toward_12 : decode cX8_toward 12 = .ok (.goto 10, 3) := by decide +kernel
theorem dX8_toward_15 : decode cX8_toward 15 = .ok (.iload_n 1, 1) := by decide +kernel
theorem dX8_toward_16 : decode cX8_toward 16 = .ok (.iload_n 0, 1) := by decide +kernel
theorem dX8_toward_17 : decode cX8_toward 17 = .ok (.iload_n 2, 1) := by decide +kernel
theorem dX8_toward_18 : decode cX8_toward 18 = .ok (.isub, 1) := by decide +kernel
theorem dX8_toward_19 : decode cX8_toward 19 = .ok (.invokestatic 234, 3) := by decide +kernel
theorem dX8_toward_22 : decode cX8_toward 22 = .ok (.ireturn, 1) := by decide +kernel
theorem dX8_copyRow_0 : decode cX8_copyRow 0 = .ok (.aload_n 0, 1) := by decide +kernel
theorem dX8_copyRow_1 : decode cX8_copyRow 1 = .ok (.iconst 0, 1) := by decide +kernel
theorem dX8_copyRow_2 : decode cX8_copyRow 2 = .ok (.aload_n 1, 1) := by decide +kernel
theorem dX8_copyRow_3 : decode cX8_copyRow 3 = .ok (.iconst 0, 1) := by decide +kernel
theorem dX8_copyRow_4 : decode cX8_copyRow 4 = .ok (.aload_n 0, 1) := by decide +kernel
theorem dX8_copyRow_5 : decode cX8_copyRow 5 = .ok (.arraylength, 1) := by decide +kernel
theorem dX8_copyRow_6 : decode cX8_copyRow 6 = .ok (.aload_n 1, 1) := by decide +kernel
theorem dX8_copyRow_7 : decode cX8_copyRow 7 = .ok (.arraylength, 1) := by decide +kernel
theorem dX8_copyRow_8 : decode cX8_copyRow 8 = .ok (.invokestatic 198, 3) := by decide +kernel
theorem dX8_copyRow_11 : decode cX8_copyRow 11 = .ok (.invokestatic 251, 3) := by decide +kernel
theorem dX8_copyRow_14 : decode cX8_copyRow 14 = .ok (.return_, 1) := by decide +kernel
theorem dX8_clear_0 : decode cX8_clear 0 = .ok (.iconst 0, 1) := by decide +kernel
theorem dX8_clear_1 : decode cX8_clear 1 = .ok (.istore_n 1, 1) := by decide +kernel
theorem dX8_clear_2 : decode cX8_clear 2 = .ok (.iload_n 1, 1) := by decide +kernel
theorem dX8_clear_3 : decode cX8_clear 3 = .ok (.aload_n 0, 1) := by decide +kernel
theorem dX8_clear_4 : decode cX8_clear 4 = .ok (.arraylength, 1) := by decide +kernel
theorem dX8_clear_5 : decode cX8_clear 5 = .ok (.if_icmp .ge 13, 3) := by decide +kernel
theorem dX8_clear_8 : decode cX8_clear 8 = .ok (.aload_n 0, 1) := by decide +kernel
theorem dX8_clear_9 : decode cX8_clear 9 = .ok (.iload_n 1, 1) := by decide +kernel
theorem dX8_clear_10 : decode cX8_clear 10 = .ok (.iconst 0, 1) := by decide +kernel
theorem dX8_clear_11 : decode cX8_clear 11 = .ok (.iastore, 1) := by decide +kernel
theorem dX8_clear_12 : decode cX8_clear 12 = .ok (.iinc 1 1, 3) := by decide +kernel
theorem dX8_clear_15 : decode cX8_clear 15 = .ok (.goto (-13), 3) := by decide +kernel
theorem dX8_clear_18 : decode cX8_clear 18 = .ok (.return_, 1) := by decide +kernel
theorem dJ9_floorDiv_f86c9_0 : decode cJ9_floorDiv_f86c9 0 = .ok (.lload_n 0, 1) := by decide +kernel
theorem dJ9_floorDiv_f86c9_1 : decode cJ9_floorDiv_f86c9 1 = .ok (.lload_n 2, 1) := by decide +kernel
theorem dJ9_floorDiv_f86c9_2 : decode cJ9_floorDiv_f86c9 2 = .ok (.ldiv, 1) := by decide +kernel
theorem dJ9_floorDiv_f86c9_3 : decode cJ9_floorDiv_f86c9 3 = .ok (.lstore 4, 2) := by decide +kernel
theorem dJ9_floorDiv_f86c9_5 : decode cJ9_floorDiv_f86c9 5 = .ok (.lload_n 0, 1) := by decide +kernel
theorem dJ9_floorDiv_f86c9_6 : decode cJ9_floorDiv_f86c9 6 = .ok (.lload_n 2, 1) := by decide +kernel
theorem dJ9_floorDiv_f86c9_7 : decode cJ9_floorDiv_f86c9 7 = .ok (.lxor, 1) := by decide +kernel
theorem dJ9_floorDiv_f86c9_8 : decode cJ9_floorDiv_f86c9 8 = .ok (.lconst 0, 1) := by decide +kernel
theorem dJ9_floorDiv_f86c9_9 : decode cJ9_floorDiv_f86c9 9 = .ok (.lcmp, 1) := by decide +kernel
theorem dJ9_floorDiv_f86c9_10 : decode cJ9_floorDiv_f86c9 10 = .ok (.ifCond .ge 17, 3) := by decide +kernel
theorem dJ9_floorDiv_f86c9_13 : decode cJ9_floorDiv_f86c9 13 = .ok (.lload 4, 2) := by decide +kernel
theorem dJ9_floorDiv_f86c9_15 : decode cJ9_floorDiv_f86c9 15 = .ok (.lload_n 2, 1) := by decide +kernel
theorem dJ9_floorDiv_f86c9_16 : decode cJ9_floorDiv_f86c9 16 = .ok (.lmul, 1) := by decide +kernel
theorem dJ9_floorDiv_f86c9_17 : decode cJ9_floorDiv_f86c9 17 = .ok (.lload_n 0, 1) := by decide +kernel
theorem dJ9_floorDiv_f86c9_18 : decode cJ9_floorDiv_f86c9 18 = .ok (.lcmp, 1) := by decide +kernel
theorem dJ9_floorDiv_f86c9_19 : decode cJ9_floorDiv_f86c9 19 = .ok (.ifCond .eq 8, 3) := by decide +kernel
theorem dJ9_floorDiv_f86c9_22 : decode cJ9_floorDiv_f86c9 22 = .ok (.lload 4, 2) := by decide +kernel
theorem dJ9_floorDiv_f86c9_24 : decode cJ9_floorDiv_f86c9 24 = .ok (.lconst 1, 1) := by decide +kernel
theorem dJ9_floorDiv_f86c9_25 : decode cJ9_floorDiv_f86c9 25 = .ok (.lsub, 1) := by decide +kernel
theorem dJ9_floorDiv_f86c9_26 : decode cJ9_floorDiv_f86c9 26 = .ok (.lreturn, 1) := by decide +kernel
theorem dJ9_floorDiv_f86c9_27 : decode cJ9_floorDiv_f86c9 27 = .ok (.lload 4, 2) := by decide +kernel
theorem dJ9_floorDiv_f86c9_29 : decode cJ9_floorDiv_f86c9 29 = .ok (.lreturn, 1) := by decide +kernel
theorem dJ9_floorMod_7cf53_0 : decode cJ9_floorMod_7cf53 0 = .ok (.iload_n 0, 1) := by decide +kernel
theorem dJ9_floorMod_7cf53_1 : decode cJ9_floorMod_7cf53 1 = .ok (.iload_n 1, 1) := by decide +kernel
theorem dJ9_floorMod_7cf53_2 : decode cJ9_floorMod_7cf53 2 = .ok (.irem, 1) := by decide +kernel
theorem dJ9_floorMod_7cf53_3 : decode cJ9_floorMod_7cf53 3 = .ok (.istore_n 2, 1) := by decide +kernel
theorem dJ9_floorMod_7cf53_4 : decode cJ9_floorMod_7cf53 4 = .ok (.iload_n 0, 1) := by decide +kernel
theorem dJ9_floorMod_7cf53_5 : decode cJ9_floorMod_7cf53 5 = .ok (.iload_n 1, 1) := by decide +kernel
theorem dJ9_floorMod_7cf53_6 : decode cJ9_floorMod_7cf53 6 = .ok (.ixor, 1) := by decide +kernel
theorem dJ9_floorMod_7cf53_7 : decode cJ9_floorMod_7cf53 7 = .ok (.ifCond .ge 11, 3) := by decide +kernel
theorem dJ9_floorMod_7cf53_10 : decode cJ9_floorMod_7cf53 10 = .ok (.iload_n 2, 1) := by decide +kernel
theorem dJ9_floorMod_7cf53_11 : decode cJ9_floorMod_7cf53 11 = .ok (.ifCond .eq 7, 3) := by decide +kernel
theorem dJ9_floorMod_7cf53_14 : decode cJ9_floorMod_7cf53 14 = .ok (.iload_n 2, 1) := by decide +kernel
theorem dJ9_floorMod_7cf53_15 : decode cJ9_floorMod_7cf53 15 = .ok (.iload_n 1, 1) := by decide +kernel
theorem dJ9_floorMod_7cf53_16 : decode cJ9_floorMod_7cf53 16 = .ok (.iadd, 1) := by decide +kernel
theorem dJ9_floorMod_7cf53_17 : decode cJ9_floorMod_7cf53 17 = .ok (.ireturn, 1) := by decide +kernel
theorem dJ9_floorMod_7cf53_18 : decode cJ9_floorMod_7cf53 18 = .ok (.iload_n 2, 1) := by decide +kernel
theorem dJ9_floorMod_7cf53_19 : decode cJ9_floorMod_7cf53 19 = .ok (.ireturn, 1) := by decide +kernel
theorem dJ9_max_7cf53_0 : decode cJ9_max_7cf53 0 = .ok (.iload_n 0, 1) := by decide +kernel
theorem dJ9_max_7cf53_1 : decode cJ9_max_7cf53 1 = .ok (.iload_n 1, 1) := by decide +kernel
theorem dJ9_max_7cf53_2 : decode cJ9_max_7cf53 2 = .ok (.if_icmp .lt 7, 3) := by decide +kernel
theorem dJ9_max_7cf53_5 : decode cJ9_max_7cf53 5 = .ok (.iload_n 0, 1) := by decide +kernel
theorem dJ9_max_7cf53_6 : decode cJ9_max_7cf53 6 = .ok (.goto 4, 3) := by decide +kernel
theorem dJ9_max_7cf53_9 : decode cJ9_max_7cf53 9 = .ok (.iload_n 1, 1) := by decide +kernel
theorem dJ9_max_7cf53_10 : decode cJ9_max_7cf53 10 = .ok (.ireturn, 1) := by decide +kernel
theorem dJ9_min_7cf53_0 : decode cJ9_min_7cf53 0 = .ok (.iload_n 0, 1) := by decide +kernel
theorem dJ9_min_7cf53_1 : decode cJ9_min_7cf53 1 = .ok (.iload_n 1, 1) := by decide +kernel
theorem dJ9_min_7cf53_2 : decode cJ9_min_7cf53 2 = .ok (.if_icmp .gt 7, 3) := by decide +kernel
theorem dJ9_min_7cf53_5 : decode cJ9_min_7cf53 5 = .ok (.iload_n 0, 1) := by decide +kernel
theorem dJ9_min_7cf53_6 : decode cJ9_min_7cf53 6 = .ok (.goto 4, 3) := by decide +kernel
theorem dJ9_min_7cf53_9 : decode cJ9_min_7cf53 9 = .ok (.iload_n 1, 1) := by decide +kernel
theorem dJ9_min_7cf53_10 : decode cJ9_min_7cf53 10 = .ok (.ireturn, 1) := by decide +kernel
theorem dL_cell_0 : decode cL_cell 0 = .ok (.iload_n 1, 1) := by decide +kernel
theorem dL_cell_1 : decode cL_cell 1 = .ok (.aload_n 0, 1) := by decide +kernel
theorem dL_cell_2 : decode cL_cell 2 = .ok (.arraylength, 1) := by decide +kernel
theorem dL_cell_3 : decode cL_cell 3 = .ok (.if_icmp .ge 9, 3) := by decide +kernel
theorem dL_cell_6 : decode cL_cell 6 = .ok (.aload_n 0, 1) := by decide +kernel
theorem dL_cell_7 : decode cL_cell 7 = .ok (.iload_n 1, 1) := by decide +kernel
theorem dL_cell_8 : decode cL_cell 8 = .ok (.iaload, 1) := by decide +kernel
theorem dL_cell_9 : decode cL_cell 9 = .ok (.goto 11, 3) := by decide +kernel
theorem dL_cell_12 : decode cL_cell 12 = .ok (.ldc 7, 2) := by decide +kernel
theorem dL_cell_14 : decode cL_cell 14 = .ok (.iload_n 1, 1) := by decide +kernel
theorem dL_cell_15 : decode cL_cell 15 = .ok (.sipush 1481, 3) := by decide +kernel
theorem dL_cell_18 : decode cL_cell 18 = .ok (.iadd, 1) := by decide +kernel
theorem dL_cell_19 : decode cL_cell 19 = .ok (.imul, 1) := by decide +kernel
theorem dL_cell_20 : decode cL_cell 20 = .ok (.ireturn, 1) := by decide +kernel
theorem dL_up_0 : decode cL_up 0 = .ok (.iload_n 0, 1) := by decide +kernel
theorem dL_up_1 : decode cL_up 1 = .ok (.ldc 8, 2) := by decide +kernel
theorem dL_up_3 : decode cL_up 3 = .ok (.iand, 1) := by decide +kernel
theorem dL_up_4 : decode cL_up 4 = .ok (.iload_n 1, 1) := by decide +kernel
theorem dL_up_5 : decode cL_up 5 = .ok (.irem, 1) := by decide +kernel
theorem dL_up_6 : decode cL_up 6 = .ok (.ireturn, 1) := by decide +kernel
theorem dL_law_0 : decode cL_law 0 = .ok (.new 9, 3) := by decide +kernel
theorem dL_law_3 : decode cL_law 3 = .ok (.dup, 1) := by decide +kernel
theorem dL_law_4 : decode cL_law 4 = .ok (.invokespecial 11, 3) := by decide +kernel
theorem dL_law_7 : decode cL_law 7 = .ok (.astore_n 1, 1) := by decide +kernel
theorem dL_law_8 : decode cL_law 8 = .ok (.iconst 0, 1) := by decide +kernel
theorem dL_law_9 : decode cL_law 9 = .ok (.istore_n 2, 1) := by decide +kernel
theorem dL_law_10 : decode cL_law 10 = .ok (.aload_n 1, 1) := by decide +kernel
theorem dL_law_11 : decode cL_law 11 = .ok (.aload_n 0, 1) := by decide +kernel
theorem dL_law_12 : decode cL_law 12 = .ok (.iload_n 2, 1) := by decide +kernel
theorem dL_law_13 : decode cL_law 13 = .ok (.iinc 2 1, 3) := by decide +kernel
theorem dL_law_16 : decode cL_law 16 = .ok (.invokestatic 12, 3) := by decide +kernel
theorem dL_law_19 : decode cL_law 19 = .ok (.invokestatic 18, 3) := by decide +kernel
theorem dL_law_22 : decode cL_law 22 = .ok (.ifCond .ne 5, 3) := by decide +kernel
theorem dL_law_25 : decode cL_law 25 = .ok (.iconst 0, 1) := by decide +kernel
theorem dL_law_26 : decode cL_law 26 = .ok (.ireturn, 1) := by decide +kernel
theorem dL_law_27 : decode cL_law 27 = .ok (.aload_n 0, 1) := by decide +kernel
theorem dL_law_28 : decode cL_law 28 = .ok (.iload_n 2, 1) := by decide +kernel
theorem dL_law_29 : decode cL_law 29 = .ok (.iinc 2 1, 3) := by decide +kernel
theorem dL_law_32 : decode cL_law 32 = .ok (.invokestatic 12, 3) := by decide +kernel
theorem dL_law_35 : decode cL_law 35 = .ok (.istore_n 3, 1) := by decide +kernel
theorem dL_law_36 : decode cL_law 36 = .ok (.iconst 1, 1) := by decide +kernel
theorem dL_law_37 : decode cL_law 37 = .ok (.iload_n 3, 1) := by decide +kernel
theorem dL_law_38 : decode cL_law 38 = .ok (.bipush 12, 2) := by decide +kernel
theorem dL_law_40 : decode cL_law 40 = .ok (.invokestatic 22, 3) := by decide +kernel
theorem dL_law_43 : decode cL_law 43 = .ok (.iadd, 1) := by decide +kernel
theorem dL_law_44 : decode cL_law 44 = .ok (.istore 4, 2) := by decide +kernel
theorem dL_law_46 : decode cL_law 46 = .ok (.aload_n 1, 1) := by decide +kernel
theorem dL_law_47 : decode cL_law 47 = .ok (.iload 4, 2) := by decide +kernel
theorem dL_law_49 : decode cL_law 49 = .ok (.invokevirtual 26, 3) := by decide +kernel
theorem dL_law_52 : decode cL_law 52 = .ok (.iconst 4, 1) := by decide +kernel
theorem dL_law_53 : decode cL_law 53 = .ok (.if_icmp .eq 5, 3) := by decide +kernel
theorem dL_law_56 : decode cL_law 56 = .ok (.iconst 0, 1) := by decide +kernel
theorem dL_law_57 : decode cL_law 57 = .ok (.ireturn, 1) := by decide +kernel
theorem dL_law_58 : decode cL_law 58 = .ok (.iconst 0, 1) := by decide +kernel
theorem dL_law_59 : decode cL_law 59 = .ok (.istore 5, 2) := by decide +kernel
theorem dL_law_61 : decode cL_law 61 = .ok (.iload 5, 2) := by decide +kernel
theorem dL_law_63 : decode cL_law 63 = .ok (.iload 4, 2) := by decide +kernel
theorem dL_law_65 : decode cL_law 65 = .ok (.if_icmp .ge 123, 3) := by decide +kernel
theorem dL_law_68 : decode cL_law 68 = .ok (.aload_n 0, 1) := by decide +kernel
theorem dL_law_69 : decode cL_law 69 = .ok (.iload_n 2, 1) := by decide +kernel
theorem dL_law_70 : decode cL_law 70 = .ok (.iinc 2 1, 3) := by decide +kernel
theorem dL_law_73 : decode cL_law 73 = .ok (.invokestatic 12, 3) := by decide +kernel
theorem dL_law_76 : decode cL_law 76 = .ok (.istore_n 3, 1) := by decide +kernel
theorem dL_law_77 : decode cL_law 77 = .ok (.aload_n 1, 1) := by decide +kernel
theorem dL_law_78 : decode cL_law 78 = .ok (.iload 5, 2) := by decide +kernel
theorem dL_law_80 : decode cL_law 80 = .ok (.iconst 0, 1) := by decide +kernel
theorem dL_law_81 : decode cL_law 81 = .ok (.iconst 1, 1) := by decide +kernel
theorem dL_law_82 : decode cL_law 82 = .ok (.iload_n 3, 1) := by decide +kernel
theorem dL_law_83 : decode cL_law 83 = .ok (.bipush 100, 2) := by decide +kernel
theorem dL_law_85 : decode cL_law 85 = .ok (.invokestatic 22, 3) := by decide +kernel
theorem dL_law_88 : decode cL_law 88 = .ok (.iadd, 1) := by decide +kernel
theorem dL_law_89 : decode cL_law 89 = .ok (.invokevirtual 30, 3) := by decide +kernel
theorem dL_law_92 : decode cL_law 92 = .ok (.pop, 1) := by decide +kernel
theorem dL_law_93 : decode cL_law 93 = .ok (.aload_n 1, 1) := by decide +kernel
theorem dL_law_94 : decode cL_law 94 = .ok (.iload 5, 2) := by decide +kernel
theorem dL_law_96 : decode cL_law 96 = .ok (.iconst 1, 1) := by decide +kernel
theorem dL_law_97 : decode cL_law 97 = .ok (.iconst 1, 1) := by decide +kernel
theorem dL_law_98 : decode cL_law 98 = .ok (.iload_n 3, 1) := by decide +kernel
theorem dL_law_99 : decode cL_law 99 = .ok (.bipush 7, 2) := by decide +kernel
theorem dL_law_101 : decode cL_law 101 = .ok (.ishr, 1) := by decide +kernel
theorem dL_law_102 : decode cL_law 102 = .ok (.sipush 5000, 3) := by decide +kernel
theorem dL_law_105 : decode cL_law 105 = .ok (.invokestatic 22, 3) := by decide +kernel
theorem dL_law_108 : decode cL_law 108 = .ok (.iadd, 1) := by decide +kernel
theorem dL_law_109 : decode cL_law 109 = .ok (.invokevirtual 30, 3) := by decide +kernel
theorem dL_law_112 : decode cL_law 112 = .ok (.pop, 1) := by decide +kernel
theorem dL_law_113 : decode cL_law 113 = .ok (.aload_n 1, 1) := by decide +kernel
theorem dL_law_114 : decode cL_law 114 = .ok (.iload 5, 2) := by decide +kernel
theorem dL_law_116 : decode cL_law 116 = .ok (.iconst 2, 1) := by decide +kernel
theorem dL_law_117 : decode cL_law 117 = .ok (.iload_n 3, 1) := by decide +kernel
theorem dL_law_118 : decode cL_law 118 = .ok (.bipush 11, 2) := by decide +kernel
theorem dL_law_120 : decode cL_law 120 = .ok (.ishr, 1) := by decide +kernel
theorem dL_law_121 : decode cL_law 121 = .ok (.bipush 20, 2) := by decide +kernel
theorem dL_law_123 : decode cL_law 123 = .ok (.invokestatic 22, 3) := by decide +kernel
theorem dL_law_126 : decode cL_law 126 = .ok (.invokevirtual 30, 3) := by decide +kernel
theorem dL_law_129 : decode cL_law 129 = .ok (.pop, 1) := by decide +kernel
theorem dL_law_130 : decode cL_law 130 = .ok (.aload_n 1, 1) := by decide +kernel
theorem dL_law_131 : decode cL_law 131 = .ok (.iload 5, 2) := by decide +kernel
theorem dL_law_133 : decode cL_law 133 = .ok (.iconst 3, 1) := by decide +kernel
theorem dL_law_134 : decode cL_law 134 = .ok (.iconst 1, 1) := by decide +kernel
theorem dL_law_135 : decode cL_law 135 = .ok (.iload_n 3, 1) := by decide +kernel
theorem dL_law_136 : decode cL_law 136 = .ok (.iconst 3, 1) := by decide +kernel
theorem dL_law_137 : decode cL_law 137 = .ok (.ishr, 1) := by decide +kernel
theorem dL_law_138 : decode cL_law 138 = .ok (.sipush 1000, 3) := by decide +kernel
theorem dL_law_141 : decode cL_law 141 = .ok (.invokestatic 22, 3) := by decide +kernel
theorem dL_law_144 : decode cL_law 144 = .ok (.iadd, 1) := by decide +kernel
theorem dL_law_145 : decode cL_law 145 = .ok (.invokevirtual 30, 3) := by decide +kernel
theorem dL_law_148 : decode cL_law 148 = .ok (.pop, 1) := by decide +kernel
theorem dL_law_149 : decode cL_law 149 = .ok (.aload_n 1, 1) := by decide +kernel
theorem dL_law_150 : decode cL_law 150 = .ok (.iload 5, 2) := by decide +kernel
theorem dL_law_152 : decode cL_law 152 = .ok (.iconst 4, 1) := by decide +kernel
theorem dL_law_153 : decode cL_law 153 = .ok (.iload_n 3, 1) := by decide +kernel
theorem dL_law_154 : decode cL_law 154 = .ok (.bipush 17, 2) := by decide +kernel
theorem dL_law_156 : decode cL_law 156 = .ok (.ishr, 1) := by decide +kernel
theorem dL_law_157 : decode cL_law 157 = .ok (.iconst 3, 1) := by decide +kernel
theorem dL_law_158 : decode cL_law 158 = .ok (.invokestatic 22, 3) := by decide +kernel
theorem dL_law_161 : decode cL_law 161 = .ok (.invokevirtual 30, 3) := by decide +kernel
theorem dL_law_164 : decode cL_law 164 = .ok (.pop, 1) := by decide +kernel
theorem dL_law_165 : decode cL_law 165 = .ok (.aload_n 1, 1) := by decide +kernel
theorem dL_law_166 : decode cL_law 166 = .ok (.iload 5, 2) := by decide +kernel
theorem dL_law_168 : decode cL_law 168 = .ok (.iconst 5, 1) := by decide +kernel
theorem dL_law_169 : decode cL_law 169 = .ok (.iload_n 3, 1) := by decide +kernel
theorem dL_law_170 : decode cL_law 170 = .ok (.bipush 19, 2) := by decide +kernel
theorem dL_law_172 : decode cL_law 172 = .ok (.ishr, 1) := by decide +kernel
theorem dL_law_173 : decode cL_law 173 = .ok (.bipush 101, 2) := by decide +kernel
theorem dL_law_175 : decode cL_law 175 = .ok (.invokestatic 22, 3) := by decide +kernel
theorem dL_law_178 : decode cL_law 178 = .ok (.invokevirtual 30, 3) := by decide +kernel
theorem dL_law_181 : decode cL_law 181 = .ok (.pop, 1) := by decide +kernel
theorem dL_law_182 : decode cL_law 182 = .ok (.iinc 5 1, 3) := by decide +kernel
theorem dL_law_185 : decode cL_law 185 = .ok (.goto (-124), 3) := by decide +kernel
theorem dL_law_188 : decode cL_law 188 = .ok (.iconst 0, 1) := by decide +kernel
theorem dL_law_189 : decode cL_law 189 = .ok (.istore 5, 2) := by decide +kernel
theorem dL_law_191 : decode cL_law 191 = .ok (.iload 5, 2) := by decide +kernel
theorem dL_law_193 : decode cL_law 193 = .ok (.iconst 3, 1) := by decide +kernel
theorem dL_law_194 : decode cL_law 194 = .ok (.if_icmp .ge 52, 3) := by decide +kernel
theorem dL_law_197 : decode cL_law 197 = .ok (.aload_n 0, 1) := by decide +kernel
theorem dL_law_198 : decode cL_law 198 = .ok (.iload_n 2, 1) := by decide +kernel
theorem dL_law_199 : decode cL_law 199 = .ok (.iinc 2 1, 3) := by decide +kernel
theorem dL_law_202 : decode cL_law 202 = .ok (.invokestatic 12, 3) := by decide +kernel
theorem dL_law_205 : decode cL_law 205 = .ok (.istore_n 3, 1) := by decide +kernel
theorem dL_law_206 : decode cL_law 206 = .ok (.aload_n 1, 1) := by decide +kernel
theorem dL_law_207 : decode cL_law 207 = .ok (.iload 5, 2) := by decide +kernel
theorem dL_law_209 : decode cL_law 209 = .ok (.iconst 0, 1) := by decide +kernel
theorem dL_law_210 : decode cL_law 210 = .ok (.iload_n 3, 1) := by decide +kernel
theorem dL_law_211 : decode cL_law 211 = .ok (.sipush 600, 3) := by decide +kernel
theorem dL_law_214 : decode cL_law 214 = .ok (.invokestatic 22, 3) := by decide +kernel
theorem dL_law_217 : decode cL_law 217 = .ok (.invokevirtual 34, 3) := by decide +kernel
theorem dL_law_220 : decode cL_law 220 = .ok (.pop, 1) := by decide +kernel
theorem dL_law_221 : decode cL_law 221 = .ok (.aload_n 1, 1) := by decide +kernel
theorem dL_law_222 : decode cL_law 222 = .ok (.iload 5, 2) := by decide +kernel
theorem dL_law_224 : decode cL_law 224 = .ok (.iconst 1, 1) := by decide +kernel
theorem dL_law_225 : decode cL_law 225 = .ok (.iconst 1, 1) := by decide +kernel
theorem dL_law_226 : decode cL_law 226 = .ok (.iload_n 3, 1) := by decide +kernel
theorem dL_law_227 : decode cL_law 227 = .ok (.bipush 9, 2) := by decide +kernel
theorem dL_law_229 : decode cL_law 229 = .ok (.ishr, 1) := by decide +kernel
theorem dL_law_230 : decode cL_law 230 = .ok (.bipush 100, 2) := by decide +kernel
theorem dL_law_232 : decode cL_law 232 = .ok (.invokestatic 22, 3) := by decide +kernel
theorem dL_law_235 : decode cL_law 235 = .ok (.iadd, 1) := by decide +kernel
theorem dL_law_236 : decode cL_law 236 = .ok (.invokevirtual 34, 3) := by decide +kernel
theorem dL_law_239 : decode cL_law 239 = .ok (.pop, 1) := by decide +kernel
theorem dL_law_240 : decode cL_law 240 = .ok (.iinc 5 1, 3) := by decide +kernel
theorem dL_law_243 : decode cL_law 243 = .ok (.goto (-52), 3) := by decide +kernel
theorem dL_law_246 : decode cL_law 246 = .ok (.aload_n 1, 1) := by decide +kernel
theorem dL_law_247 : decode cL_law 247 = .ok (.iconst 5, 1) := by decide +kernel
theorem dL_law_248 : decode cL_law 248 = .ok (.iload_n 3, 1) := by decide +kernel
theorem dL_law_249 : decode cL_law 249 = .ok (.bipush 16, 2) := by decide +kernel
theorem dL_law_251 : decode cL_law 251 = .ok (.ishr, 1) := by decide +kernel
theorem dL_law_252 : decode cL_law 252 = .ok (.sipush 500, 3) := by decide +kernel
theorem dL_law_255 : decode cL_law 255 = .ok (.invokestatic 22, 3) := by decide +kernel
theorem dL_law_258 : decode cL_law 258 = .ok (.invokevirtual 37, 3) := by decide +kernel
theorem dL_law_261 : decode cL_law 261 = .ok (.pop, 1) := by decide +kernel
theorem dL_law_262 : decode cL_law 262 = .ok (.iconst 0, 1) := by decide +kernel
theorem dL_law_263 : decode cL_law 263 = .ok (.istore 5, 2) := by decide +kernel
theorem dL_law_265 : decode cL_law 265 = .ok (.iload 5, 2) := by decide +kernel
theorem dL_law_267 : decode cL_law 267 = .ok (.bipush 18, 2) := by decide +kernel
theorem dL_law_269 : decode cL_law 269 = .ok (.if_icmp .ge 49, 3) := by decide +kernel
theorem dL_law_272 : decode cL_law 272 = .ok (.aload_n 1, 1) := by decide +kernel
theorem dL_law_273 : decode cL_law 273 = .ok (.aload_n 0, 1) := by decide +kernel
theorem dL_law_274 : decode cL_law 274 = .ok (.iload_n 2, 1) := by decide +kernel
theorem dL_law_275 : decode cL_law 275 = .ok (.iinc 2 1, 3) := by decide +kernel
theorem dL_law_278 : decode cL_law 278 = .ok (.invokestatic 12, 3) := by decide +kernel
theorem dL_law_281 : decode cL_law 281 = .ok (.aload_n 0, 1) := by decide +kernel
theorem dL_law_282 : decode cL_law 282 = .ok (.iload_n 2, 1) := by decide +kernel
theorem dL_law_283 : decode cL_law 283 = .ok (.iinc 2 1, 3) := by decide +kernel
theorem dL_law_286 : decode cL_law 286 = .ok (.invokestatic 12, 3) := by decide +kernel
theorem dL_law_289 : decode cL_law 289 = .ok (.aload_n 0, 1) := by decide +kernel
theorem dL_law_290 : decode cL_law 290 = .ok (.iload_n 2, 1) := by decide +kernel
theorem dL_law_291 : decode cL_law 291 = .ok (.iinc 2 1, 3) := by decide +kernel
theorem dL_law_294 : decode cL_law 294 = .ok (.invokestatic 12, 3) := by decide +kernel
theorem dL_law_297 : decode cL_law 297 = .ok (.invokestatic 40, 3) := by decide +kernel
theorem dL_law_300 : decode cL_law 300 = .ok (.ifCond .eq 10, 3) := by decide +kernel
theorem dL_law_303 : decode cL_law 303 = .ok (.aload_n 1, 1) := by decide +kernel
theorem dL_law_304 : decode cL_law 304 = .ok (.invokestatic 44, 3) := by decide +kernel
theorem dL_law_307 : decode cL_law 307 = .ok (.ifCond .ne 5, 3) := by decide +kernel
theorem dL_law_310 : decode cL_law 310 = .ok (.iconst 0, 1) := by decide +kernel
theorem dL_law_311 : decode cL_law 311 = .ok (.ireturn, 1) := by decide +kernel
theorem dL_law_312 : decode cL_law 312 = .ok (.iinc 5 1, 3) := by decide +kernel
theorem dL_law_315 : decode cL_law 315 = .ok (.goto (-50), 3) := by decide +kernel
theorem dL_law_318 : decode cL_law 318 = .ok (.aload_n 0, 1) := by decide +kernel
theorem dL_law_319 : decode cL_law 319 = .ok (.iload_n 2, 1) := by decide +kernel
theorem dL_law_320 : decode cL_law 320 = .ok (.iinc 2 1, 3) := by decide +kernel
theorem dL_law_323 : decode cL_law 323 = .ok (.invokestatic 12, 3) := by decide +kernel
theorem dL_law_326 : decode cL_law 326 = .ok (.istore_n 3, 1) := by decide +kernel
theorem dL_law_327 : decode cL_law 327 = .ok (.aload_n 1, 1) := by decide +kernel
theorem dL_law_328 : decode cL_law 328 = .ok (.iload_n 3, 1) := by decide +kernel
theorem dL_law_329 : decode cL_law 329 = .ok (.invokestatic 48, 3) := by decide +kernel
theorem dL_law_332 : decode cL_law 332 = .ok (.ifCond .eq 52, 3) := by decide +kernel
theorem dL_law_335 : decode cL_law 335 = .ok (.aload_n 1, 1) := by decide +kernel
theorem dL_law_336 : decode cL_law 336 = .ok (.aload_n 0, 1) := by decide +kernel
theorem dL_law_337 : decode cL_law 337 = .ok (.iload_n 2, 1) := by decide +kernel
theorem dL_law_338 : decode cL_law 338 = .ok (.iinc 2 1, 3) := by decide +kernel
theorem dL_law_341 : decode cL_law 341 = .ok (.invokestatic 12, 3) := by decide +kernel
theorem dL_law_344 : decode cL_law 344 = .ok (.invokestatic 51, 3) := by decide +kernel
theorem dL_law_347 : decode cL_law 347 = .ok (.ifCond .eq 37, 3) := by decide +kernel
theorem dL_law_350 : decode cL_law 350 = .ok (.aload_n 1, 1) := by decide +kernel
theorem dL_law_351 : decode cL_law 351 = .ok (.aload_n 0, 1) := by decide +kernel
theorem dL_law_352 : decode cL_law 352 = .ok (.iload_n 2, 1) := by decide +kernel
theorem dL_law_353 : decode cL_law 353 = .ok (.iinc 2 1, 3) := by decide +kernel
theorem dL_law_356 : decode cL_law 356 = .ok (.invokestatic 12, 3) := by decide +kernel
theorem dL_law_359 : decode cL_law 359 = .ok (.invokestatic 54, 3) := by decide +kernel
theorem dL_law_362 : decode cL_law 362 = .ok (.ifCond .eq 22, 3) := by decide +kernel
theorem dL_law_365 : decode cL_law 365 = .ok (.aload_n 1, 1) := by decide +kernel
theorem dL_law_366 : decode cL_law 366 = .ok (.aload_n 0, 1) := by decide +kernel
theorem dL_law_367 : decode cL_law 367 = .ok (.iload_n 2, 1) := by decide +kernel
theorem dL_law_368 : decode cL_law 368 = .ok (.iinc 2 1, 3) := by decide +kernel
theorem dL_law_371 : decode cL_law 371 = .ok (.invokestatic 12, 3) := by decide +kernel
theorem dL_law_374 : decode cL_law 374 = .ok (.invokestatic 57, 3) := by decide +kernel
theorem dL_law_377 : decode cL_law 377 = .ok (.ifCond .eq 7, 3) := by decide +kernel
theorem dL_law_380 : decode cL_law 380 = .ok (.iconst 1, 1) := by decide +kernel
theorem dL_law_381 : decode cL_law 381 = .ok (.goto 4, 3) := by decide +kernel
theorem dL_law_384 : decode cL_law 384 = .ok (.iconst 0, 1) := by decide +kernel
theorem dL_law_385 : decode cL_law 385 = .ok (.ireturn, 1) := by decide +kernel
theorem dL_act_0 : decode cL_act 0 = .ok (.iload_n 1, 1) := by decide +kernel
theorem dL_act_1 : decode cL_act 1 = .ok (.bipush 9, 2) := by decide +kernel
theorem dL_act_3 : decode cL_act 3 = .ok (.invokestatic 22, 3) := by decide +kernel
theorem dL_act_6 : decode cL_act 6 = .ok (.tableswitch 278 0 7 #[46, 46, 46, 46, 59, 59, 158, 243], 46) := by decide +kernel
theorem dL_act_52 : decode cL_act 52 = .ok (.aload_n 0, 1) := by decide +kernel
theorem dL_act_53 : decode cL_act 53 = .ok (.iconst 1, 1) := by decide +kernel
theorem dL_act_54 : decode cL_act 54 = .ok (.iload_n 2, 1) := by decide +kernel
theorem dL_act_55 : decode cL_act 55 = .ok (.bipush 7, 2) := by decide +kernel
theorem dL_act_57 : decode cL_act 57 = .ok (.invokestatic 22, 3) := by decide +kernel
theorem dL_act_60 : decode cL_act 60 = .ok (.iadd, 1) := by decide +kernel
theorem dL_act_61 : decode cL_act 61 = .ok (.invokestatic 60, 3) := by decide +kernel
theorem dL_act_64 : decode cL_act 64 = .ok (.ireturn, 1) := by decide +kernel
theorem dL_act_65 : decode cL_act 65 = .ok (.aload_n 0, 1) := by decide +kernel
theorem dL_act_66 : decode cL_act 66 = .ok (.iconst 0, 1) := by decide +kernel
theorem dL_act_67 : decode cL_act 67 = .ok (.invokevirtual 63, 3) := by decide +kernel
theorem dL_act_70 : decode cL_act 70 = .ok (.iload_n 2, 1) := by decide +kernel
theorem dL_act_71 : decode cL_act 71 = .ok (.bipush 25, 2) := by decide +kernel
theorem dL_act_73 : decode cL_act 73 = .ok (.invokestatic 22, 3) := by decide +kernel
theorem dL_act_76 : decode cL_act 76 = .ok (.iadd, 1) := by decide +kernel
theorem dL_act_77 : decode cL_act 77 = .ok (.istore 4, 2) := by decide +kernel
theorem dL_act_79 : decode cL_act 79 = .ok (.aload_n 0, 1) := by decide +kernel
theorem dL_act_80 : decode cL_act 80 = .ok (.iconst 2, 1) := by decide +kernel
theorem dL_act_81 : decode cL_act 81 = .ok (.invokevirtual 63, 3) := by decide +kernel
theorem dL_act_84 : decode cL_act 84 = .ok (.istore 5, 2) := by decide +kernel
theorem dL_act_86 : decode cL_act 86 = .ok (.aload_n 0, 1) := by decide +kernel
theorem dL_act_87 : decode cL_act 87 = .ok (.iload 4, 2) := by decide +kernel
theorem dL_act_89 : decode cL_act 89 = .ok (.iconst 1, 1) := by decide +kernel
theorem dL_act_90 : decode cL_act 90 = .ok (.iload_n 2, 1) := by decide +kernel
theorem dL_act_91 : decode cL_act 91 = .ok (.iconst 5, 1) := by decide +kernel
theorem dL_act_92 : decode cL_act 92 = .ok (.ishr, 1) := by decide +kernel
theorem dL_act_93 : decode cL_act 93 = .ok (.sipush 4095, 3) := by decide +kernel
theorem dL_act_96 : decode cL_act 96 = .ok (.invokestatic 22, 3) := by decide +kernel
theorem dL_act_99 : decode cL_act 99 = .ok (.iadd, 1) := by decide +kernel
theorem dL_act_100 : decode cL_act 100 = .ok (.iload_n 3, 1) := by decide +kernel
theorem dL_act_101 : decode cL_act 101 = .ok (.sipush 1001, 3) := by decide +kernel
theorem dL_act_104 : decode cL_act 104 = .ok (.invokestatic 22, 3) := by decide +kernel
theorem dL_act_107 : decode cL_act 107 = .ok (.invokevirtual 66, 3) := by decide +kernel
theorem dL_act_110 : decode cL_act 110 = .ok (.istore 6, 2) := by decide +kernel
theorem dL_act_112 : decode cL_act 112 = .ok (.iload 6, 2) := by decide +kernel
theorem dL_act_114 : decode cL_act 114 = .ok (.ifCond .lt 48, 3) := by decide +kernel
theorem dL_act_117 : decode cL_act 117 = .ok (.aload_n 0, 1) := by decide +kernel
theorem dL_act_118 : decode cL_act 118 = .ok (.iconst 2, 1) := by decide +kernel
theorem dL_act_119 : decode cL_act 119 = .ok (.invokevirtual 63, 3) := by decide +kernel
theorem dL_act_122 : decode cL_act 122 = .ok (.iload 5, 2) := by decide +kernel
theorem dL_act_124 : decode cL_act 124 = .ok (.iconst 1, 1) := by decide +kernel
theorem dL_act_125 : decode cL_act 125 = .ok (.iadd, 1) := by decide +kernel
theorem dL_act_126 : decode cL_act 126 = .ok (.if_icmp .ne 36, 3) := by decide +kernel
theorem dL_act_129 : decode cL_act 129 = .ok (.aload_n 0, 1) := by decide +kernel
theorem dL_act_130 : decode cL_act 130 = .ok (.iload 6, 2) := by decide +kernel
theorem dL_act_132 : decode cL_act 132 = .ok (.iconst 0, 1) := by decide +kernel
theorem dL_act_133 : decode cL_act 133 = .ok (.invokevirtual 69, 3) := by decide +kernel
theorem dL_act_136 : decode cL_act 136 = .ok (.iload 4, 2) := by decide +kernel
theorem dL_act_138 : decode cL_act 138 = .ok (.if_icmp .ne 24, 3) := by decide +kernel
theorem dL_act_141 : decode cL_act 141 = .ok (.aload_n 0, 1) := by decide +kernel
theorem dL_act_142 : decode cL_act 142 = .ok (.iload 6, 2) := by decide +kernel
theorem dL_act_144 : decode cL_act 144 = .ok (.iconst 2, 1) := by decide +kernel
theorem dL_act_145 : decode cL_act 145 = .ok (.invokevirtual 69, 3) := by decide +kernel
theorem dL_act_148 : decode cL_act 148 = .ok (.iload_n 3, 1) := by decide +kernel
theorem dL_act_149 : decode cL_act 149 = .ok (.sipush 1001, 3) := by decide +kernel
theorem dL_act_152 : decode cL_act 152 = .ok (.invokestatic 22, 3) := by decide +kernel
theorem dL_act_155 : decode cL_act 155 = .ok (.if_icmp .ne 7, 3) := by decide +kernel
theorem dL_act_158 : decode cL_act 158 = .ok (.iconst 1, 1) := by decide +kernel
theorem dL_act_159 : decode cL_act 159 = .ok (.goto 4, 3) := by decide +kernel
theorem dL_act_162 : decode cL_act 162 = .ok (.iconst 0, 1) := by decide +kernel
theorem dL_act_163 : decode cL_act 163 = .ok (.ireturn, 1) := by decide +kernel
theorem dL_act_164 : decode cL_act 164 = .ok (.iload_n 3, 1) := by decide +kernel
theorem dL_act_165 : decode cL_act 165 = .ok (.sipush 1001, 3) := by decide +kernel
theorem dL_act_168 : decode cL_act 168 = .ok (.invokestatic 22, 3) := by decide +kernel
theorem dL_act_171 : decode cL_act 171 = .ok (.istore 4, 2) := by decide +kernel
theorem dL_act_173 : decode cL_act 173 = .ok (.iconst 1, 1) := by decide +kernel
theorem dL_act_174 : decode cL_act 174 = .ok (.iload_n 2, 1) := by decide +kernel
theorem dL_act_175 : decode cL_act 175 = .ok (.sipush 4095, 3) := by decide +kernel
theorem dL_act_178 : decode cL_act 178 = .ok (.invokestatic 22, 3) := by decide +kernel
theorem dL_act_181 : decode cL_act 181 = .ok (.iadd, 1) := by decide +kernel
theorem dL_act_182 : decode cL_act 182 = .ok (.istore 5, 2) := by decide +kernel
theorem dL_act_184 : decode cL_act 184 = .ok (.aload_n 0, 1) := by decide +kernel
theorem dL_act_185 : decode cL_act 185 = .ok (.iload 5, 2) := by decide +kernel
theorem dL_act_187 : decode cL_act 187 = .ok (.iload 4, 2) := by decide +kernel
theorem dL_act_189 : decode cL_act 189 = .ok (.invokevirtual 72, 3) := by decide +kernel
theorem dL_act_192 : decode cL_act 192 = .ok (.aload_n 0, 1) := by decide +kernel
theorem dL_act_193 : decode cL_act 193 = .ok (.iconst 0, 1) := by decide +kernel
theorem dL_act_194 : decode cL_act 194 = .ok (.invokevirtual 63, 3) := by decide +kernel
theorem dL_act_197 : decode cL_act 197 = .ok (.if_icmp .eq 5, 3) := by decide +kernel
theorem dL_act_200 : decode cL_act 200 = .ok (.iconst 0, 1) := by decide +kernel
theorem dL_act_201 : decode cL_act 201 = .ok (.ireturn, 1) := by decide +kernel
theorem dL_act_202 : decode cL_act 202 = .ok (.iconst 0, 1) := by decide +kernel
theorem dL_act_203 : decode cL_act 203 = .ok (.istore 6, 2) := by decide +kernel
theorem dL_act_205 : decode cL_act 205 = .ok (.iload 6, 2) := by decide +kernel
theorem dL_act_207 : decode cL_act 207 = .ok (.aload_n 0, 1) := by decide +kernel
theorem dL_act_208 : decode cL_act 208 = .ok (.iconst 1, 1) := by decide +kernel
theorem dL_act_209 : decode cL_act 209 = .ok (.invokevirtual 63, 3) := by decide +kernel
theorem dL_act_212 : decode cL_act 212 = .ok (.if_icmp .ge 35, 3) := by decide +kernel
theorem dL_act_215 : decode cL_act 215 = .ok (.iload 5, 2) := by decide +kernel
theorem dL_act_217 : decode cL_act 217 = .ok (.iload 6, 2) := by decide +kernel
theorem dL_act_219 : decode cL_act 219 = .ok (.ishr, 1) := by decide +kernel
theorem dL_act_220 : decode cL_act 220 = .ok (.iconst 1, 1) := by decide +kernel
theorem dL_act_221 : decode cL_act 221 = .ok (.iand, 1) := by decide +kernel
theorem dL_act_222 : decode cL_act 222 = .ok (.iconst 1, 1) := by decide +kernel
theorem dL_act_223 : decode cL_act 223 = .ok (.if_icmp .ne 18, 3) := by decide +kernel
theorem dL_act_226 : decode cL_act 226 = .ok (.aload_n 0, 1) := by decide +kernel
theorem dL_act_227 : decode cL_act 227 = .ok (.iload 6, 2) := by decide +kernel
theorem dL_act_229 : decode cL_act 229 = .ok (.bipush 6, 2) := by decide +kernel
theorem dL_act_231 : decode cL_act 231 = .ok (.invokevirtual 75, 3) := by decide +kernel
theorem dL_act_234 : decode cL_act 234 = .ok (.iload 4, 2) := by decide +kernel
theorem dL_act_236 : decode cL_act 236 = .ok (.if_icmp .eq 5, 3) := by decide +kernel
theorem dL_act_239 : decode cL_act 239 = .ok (.iconst 0, 1) := by decide +kernel
theorem dL_act_240 : decode cL_act 240 = .ok (.ireturn, 1) := by decide +kernel
theorem dL_act_241 : decode cL_act 241 = .ok (.iinc 6 1, 3) := by decide +kernel
theorem dL_act_244 : decode cL_act 244 = .ok (.goto (-39), 3) := by decide +kernel
theorem dL_act_247 : decode cL_act 247 = .ok (.iconst 1, 1) := by decide +kernel
theorem dL_act_248 : decode cL_act 248 = .ok (.ireturn, 1) := by decide +kernel
theorem dL_act_249 : decode cL_act 249 = .ok (.aload_n 0, 1) := by decide +kernel
theorem dL_act_250 : decode cL_act 250 = .ok (.iload_n 3, 1) := by decide +kernel
theorem dL_act_251 : decode cL_act 251 = .ok (.sipush 301, 3) := by decide +kernel
theorem dL_act_254 : decode cL_act 254 = .ok (.invokestatic 22, 3) := by decide +kernel
theorem dL_act_257 : decode cL_act 257 = .ok (.invokevirtual 78, 3) := by decide +kernel
theorem dL_act_260 : decode cL_act 260 = .ok (.ifCond .lt 22, 3) := by decide +kernel
theorem dL_act_263 : decode cL_act 263 = .ok (.aload_n 0, 1) := by decide +kernel
theorem dL_act_264 : decode cL_act 264 = .ok (.iconst 3, 1) := by decide +kernel
theorem dL_act_265 : decode cL_act 265 = .ok (.invokevirtual 63, 3) := by decide +kernel
theorem dL_act_268 : decode cL_act 268 = .ok (.iload_n 3, 1) := by decide +kernel
theorem dL_act_269 : decode cL_act 269 = .ok (.sipush 301, 3) := by decide +kernel
theorem dL_act_272 : decode cL_act 272 = .ok (.invokestatic 22, 3) := by decide +kernel
theorem dL_act_275 : decode cL_act 275 = .ok (.if_icmp .ne 7, 3) := by decide +kernel
theorem dL_act_278 : decode cL_act 278 = .ok (.iconst 1, 1) := by decide +kernel
theorem dL_act_279 : decode cL_act 279 = .ok (.goto 4, 3) := by decide +kernel
theorem dL_act_282 : decode cL_act 282 = .ok (.iconst 0, 1) := by decide +kernel
theorem dL_act_283 : decode cL_act 283 = .ok (.ireturn, 1) := by decide +kernel
theorem dL_act_284 : decode cL_act 284 = .ok (.aload_n 0, 1) := by decide +kernel
theorem dL_act_285 : decode cL_act 285 = .ok (.iconst 2, 1) := by decide +kernel
theorem dL_act_286 : decode cL_act 286 = .ok (.invokevirtual 63, 3) := by decide +kernel
theorem dL_act_289 : decode cL_act 289 = .ok (.istore 4, 2) := by decide +kernel
theorem dL_act_291 : decode cL_act 291 = .ok (.iload 4, 2) := by decide +kernel
theorem dL_act_293 : decode cL_act 293 = .ok (.ifCond .ne 19, 3) := by decide +kernel
theorem dL_act_296 : decode cL_act 296 = .ok (.aload_n 0, 1) := by decide +kernel
theorem dL_act_297 : decode cL_act 297 = .ok (.iconst 0, 1) := by decide +kernel
theorem dL_act_298 : decode cL_act 298 = .ok (.iconst 1, 1) := by decide +kernel
theorem dL_act_299 : decode cL_act 299 = .ok (.invokevirtual 81, 3) := by decide +kernel
theorem dL_act_302 : decode cL_act 302 = .ok (.iconst (-1), 1) := by decide +kernel
theorem dL_act_303 : decode cL_act 303 = .ok (.if_icmp .ne 7, 3) := by decide +kernel
theorem dL_act_306 : decode cL_act 306 = .ok (.iconst 1, 1) := by decide +kernel
