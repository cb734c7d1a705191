theorem dX7_blow_103 : decode cX7_blow 103 = .ok (.if_icmp .ne 7, 3) := by decide +kernel
theorem dX7_blow_106 : decode cX7_blow 106 = .ok (.iload_n 3, 1) := by decide +kernel
theorem dX7_blow_107 : decode cX7_blow 107 = .ok (.goto 4, 3) := by decide +kernel
theorem dX7_blow_110 : decode cX7_blow 110 = .ok (.iload_n 2, 1) := by decide +kernel
theorem dX7_blow_111 : decode cX7_blow 111 = .ok (.bipush 10, 2) := by decide +kernel
theorem dX7_blow_113 : decode cX7_blow 113 = .ok (.isub, 1) := by decide +kernel
theorem dX7_blow_114 : decode cX7_blow 114 = .ok (.if_icmp .ge 16, 3) := by decide +kernel
theorem dX7_blow_117 : decode cX7_blow 117 = .ok (.aload_n 0, 1) := by decide +kernel
theorem dX7_blow_118 : decode cX7_blow 118 = .ok (.aload_n 1, 1) := by decide +kernel
theorem dX7_blow_119 : decode cX7_blow 119 = .ok (.iconst 0, 1) := by decide +kernel
theorem dX7_blow_120 : decode cX7_blow 120 = .ok (.iconst 4, 1) := by decide +kernel
theorem dX7_blow_121 : decode cX7_blow 121 = .ok (.invokevirtual 24, 3) := by decide +kernel
theorem dX7_blow_124 : decode cX7_blow 124 = .ok (.invokevirtual 42, 3) := by decide +kernel
theorem dX7_blow_127 : decode cX7_blow 127 = .ok (.goto 8, 3) := by decide +kernel
theorem dX7_blow_130 : decode cX7_blow 130 = .ok (.aload_n 0, 1) := by decide +kernel
theorem dX7_blow_131 : decode cX7_blow 131 = .ok (.iconst 0, 1) := by decide +kernel
theorem dX7_blow_132 : decode cX7_blow 132 = .ok (.putfield 21, 3) := by decide +kernel
theorem dX7_blow_135 : decode cX7_blow 135 = .ok (.return_, 1) := by decide +kernel
theorem dX7_enter_0 : decode cX7_enter 0 = .ok (.aload_n 0, 1) := by decide +kernel
theorem dX7_enter_1 : decode cX7_enter 1 = .ok (.iload_n 1, 1) := by decide +kernel
theorem dX7_enter_2 : decode cX7_enter 2 = .ok (.putfield 18, 3) := by decide +kernel
theorem dX7_enter_5 : decode cX7_enter 5 = .ok (.aload_n 0, 1) := by decide +kernel
theorem dX7_enter_6 : decode cX7_enter 6 = .ok (.iconst 0, 1) := by decide +kernel
theorem dX7_enter_7 : decode cX7_enter 7 = .ok (.putfield 21, 3) := by decide +kernel
theorem dX7_enter_10 : decode cX7_enter 10 = .ok (.return_, 1) := by decide +kernel
theorem dX7_calmDown_0 : decode cX7_calmDown 0 = .ok (.aload_n 0, 1) := by decide +kernel
theorem dX7_calmDown_1 : decode cX7_calmDown 1 = .ok (.dup, 1) := by decide +kernel
theorem dX7_calmDown_2 : decode cX7_calmDown 2 = .ok (.getfield 21, 3) := by decide +kernel
theorem dX7_calmDown_5 : decode cX7_calmDown 5 = .ok (.iconst 1, 1) := by decide +kernel
theorem dX7_calmDown_6 : decode cX7_calmDown 6 = .ok (.iadd, 1) := by decide +kernel
theorem dX7_calmDown_7 : decode cX7_calmDown 7 = .ok (.putfield 21, 3) := by decide +kernel
theorem dX7_calmDown_10 : decode cX7_calmDown 10 = .ok (.aload_n 0, 1) := by decide +kernel
theorem dX7_calmDown_11 : decode cX7_calmDown 11 = .ok (.getfield 21, 3) := by decide +kernel
theorem dX7_calmDown_14 : decode cX7_calmDown 14 = .ok (.iload_n 1, 1) := by decide +kernel
theorem dX7_calmDown_15 : decode cX7_calmDown 15 = .ok (.if_icmp .lt 13, 3) := by decide +kernel
theorem dX7_calmDown_18 : decode cX7_calmDown 18 = .ok (.aload_n 0, 1) := by decide +kernel
theorem dX7_calmDown_19 : decode cX7_calmDown 19 = .ok (.aload_n 0, 1) := by decide +kernel
theorem dX7_calmDown_20 : decode cX7_calmDown 20 = .ok (.getfield 18, 3) := by decide +kernel
theorem dX7_calmDown_23 : decode cX7_calmDown 23 = .ok (.iconst 1, 1) := by decide +kernel
theorem dX7_calmDown_24 : decode cX7_calmDown 24 = .ok (.isub, 1) := by decide +kernel
theorem dX7_calmDown_25 : decode cX7_calmDown 25 = .ok (.invokevirtual 38, 3) := by decide +kernel
theorem dX7_calmDown_28 : decode cX7_calmDown 28 = .ok (.return_, 1) := by decide +kernel
theorem dX8_init_0 : decode cX8_init 0 = .ok (.aload_n 0, 1) := by decide +kernel
theorem dX8_init_1 : decode cX8_init 1 = .ok (.invokespecial 1, 3) := by decide +kernel
theorem dX8_init_4 : decode cX8_init 4 = .ok (.aload_n 0, 1) := by decide +kernel
theorem dX8_init_5 : decode cX8_init 5 = .ok (.new 7, 3) := by decide +kernel
theorem dX8_init_8 : decode cX8_init 8 = .ok (.dup, 1) := by decide +kernel
theorem dX8_init_9 : decode cX8_init 9 = .ok (.invokespecial 9, 3) := by decide +kernel
theorem dX8_init_12 : decode cX8_init 12 = .ok (.putfield 10, 3) := by decide +kernel
theorem dX8_init_15 : decode cX8_init 15 = .ok (.aload_n 0, 1) := by decide +kernel
theorem dX8_init_16 : decode cX8_init 16 = .ok (.new 7, 3) := by decide +kernel
theorem dX8_init_19 : decode cX8_init 19 = .ok (.dup, 1) := by decide +kernel
theorem dX8_init_20 : decode cX8_init 20 = .ok (.invokespecial 9, 3) := by decide +kernel
theorem dX8_init_23 : decode cX8_init 23 = .ok (.putfield 16, 3) := by decide +kernel
theorem dX8_init_26 : decode cX8_init 26 = .ok (.aload_n 0, 1) := by decide +kernel
theorem dX8_init_27 : decode cX8_init 27 = .ok (.new 19, 3) := by decide +kernel
theorem dX8_init_30 : decode cX8_init 30 = .ok (.dup, 1) := by decide +kernel
theorem dX8_init_31 : decode cX8_init 31 = .ok (.invokespecial 21, 3) := by decide +kernel
theorem dX8_init_34 : decode cX8_init 34 = .ok (.putfield 22, 3) := by decide +kernel
theorem dX8_init_37 : decode cX8_init 37 = .ok (.aload_n 0, 1) := by decide +kernel
theorem dX8_init_38 : decode cX8_init 38 = .ok (.new 19, 3) := by decide +kernel
theorem dX8_init_41 : decode cX8_init 41 = .ok (.dup, 1) := by decide +kernel
theorem dX8_init_42 : decode cX8_init 42 = .ok (.invokespecial 21, 3) := by decide +kernel
theorem dX8_init_45 : decode cX8_init 45 = .ok (.putfield 26, 3) := by decide +kernel
theorem dX8_init_48 : decode cX8_init 48 = .ok (.aload_n 0, 1) := by decide +kernel
theorem dX8_init_49 : decode cX8_init 49 = .ok (.new 29, 3) := by decide +kernel
theorem dX8_init_52 : decode cX8_init 52 = .ok (.dup, 1) := by decide +kernel
theorem dX8_init_53 : decode cX8_init 53 = .ok (.invokespecial 31, 3) := by decide +kernel
theorem dX8_init_56 : decode cX8_init 56 = .ok (.putfield 32, 3) := by decide +kernel
theorem dX8_init_59 : decode cX8_init 59 = .ok (.return_, 1) := by decide +kernel
theorem dX8_setUp_0 : decode cX8_setUp 0 = .ok (.iload_n 1, 1) := by decide +kernel
theorem dX8_setUp_1 : decode cX8_setUp 1 = .ok (.iconst 1, 1) := by decide +kernel
theorem dX8_setUp_2 : decode cX8_setUp 2 = .ok (.bipush 12, 2) := by decide +kernel
theorem dX8_setUp_4 : decode cX8_setUp 4 = .ok (.invokestatic 36, 3) := by decide +kernel
theorem dX8_setUp_7 : decode cX8_setUp 7 = .ok (.ifCond .ne 6, 3) := by decide +kernel
theorem dX8_setUp_10 : decode cX8_setUp 10 = .ok (.bipush (-2), 2) := by decide +kernel
theorem dX8_setUp_12 : decode cX8_setUp 12 = .ok (.ireturn, 1) := by decide +kernel
theorem dX8_setUp_13 : decode cX8_setUp 13 = .ok (.aload_n 0, 1) := by decide +kernel
theorem dX8_setUp_14 : decode cX8_setUp 14 = .ok (.getfield 10, 3) := by decide +kernel
theorem dX8_setUp_17 : decode cX8_setUp 17 = .ok (.getfield 40, 3) := by decide +kernel
theorem dX8_setUp_20 : decode cX8_setUp 20 = .ok (.getfield 44, 3) := by decide +kernel
theorem dX8_setUp_23 : decode cX8_setUp 23 = .ok (.istore_n 2, 1) := by decide +kernel
theorem dX8_setUp_24 : decode cX8_setUp 24 = .ok (.aload_n 0, 1) := by decide +kernel
theorem dX8_setUp_25 : decode cX8_setUp 25 = .ok (.getfield 10, 3) := by decide +kernel
theorem dX8_setUp_28 : decode cX8_setUp 28 = .ok (.iload_n 1, 1) := by decide +kernel
theorem dX8_setUp_29 : decode cX8_setUp 29 = .ok (.invokevirtual 50, 3) := by decide +kernel
theorem dX8_setUp_32 : decode cX8_setUp 32 = .ok (.iload_n 2, 1) := by decide +kernel
theorem dX8_setUp_33 : decode cX8_setUp 33 = .ok (.ireturn, 1) := by decide +kernel
theorem dX8_nozzle_0 : decode cX8_nozzle 0 = .ok (.aload_n 0, 1) := by decide +kernel
theorem dX8_nozzle_1 : decode cX8_nozzle 1 = .ok (.getfield 10, 3) := by decide +kernel
theorem dX8_nozzle_4 : decode cX8_nozzle 4 = .ok (.getfield 40, 3) := by decide +kernel
theorem dX8_nozzle_7 : decode cX8_nozzle 7 = .ok (.iload_n 1, 1) := by decide +kernel
theorem dX8_nozzle_8 : decode cX8_nozzle 8 = .ok (.invokevirtual 54, 3) := by decide +kernel
theorem dX8_nozzle_11 : decode cX8_nozzle 11 = .ok (.ifCond .ne 5, 3) := by decide +kernel
theorem dX8_nozzle_14 : decode cX8_nozzle 14 = .ok (.iconst (-1), 1) := by decide +kernel
theorem dX8_nozzle_15 : decode cX8_nozzle 15 = .ok (.ireturn, 1) := by decide +kernel
theorem dX8_nozzle_16 : decode cX8_nozzle 16 = .ok (.aload_n 0, 1) := by decide +kernel
theorem dX8_nozzle_17 : decode cX8_nozzle 17 = .ok (.getfield 10, 3) := by decide +kernel
theorem dX8_nozzle_20 : decode cX8_nozzle 20 = .ok (.getfield 40, 3) := by decide +kernel
theorem dX8_nozzle_23 : decode cX8_nozzle 23 = .ok (.getfield 58, 3) := by decide +kernel
theorem dX8_nozzle_26 : decode cX8_nozzle 26 = .ok (.iload_n 1, 1) := by decide +kernel
theorem dX8_nozzle_27 : decode cX8_nozzle 27 = .ok (.iload_n 2, 1) := by decide +kernel
theorem dX8_nozzle_28 : decode cX8_nozzle 28 = .ok (.iload_n 3, 1) := by decide +kernel
theorem dX8_nozzle_29 : decode cX8_nozzle 29 = .ok (.invokevirtual 62, 3) := by decide +kernel
theorem dX8_nozzle_32 : decode cX8_nozzle 32 = .ok (.ireturn, 1) := by decide +kernel
theorem dX8_pump_0 : decode cX8_pump 0 = .ok (.iload_n 1, 1) := by decide +kernel
theorem dX8_pump_1 : decode cX8_pump 1 = .ok (.iconst 0, 1) := by decide +kernel
theorem dX8_pump_2 : decode cX8_pump 2 = .ok (.iconst 2, 1) := by decide +kernel
theorem dX8_pump_3 : decode cX8_pump 3 = .ok (.invokestatic 36, 3) := by decide +kernel
theorem dX8_pump_6 : decode cX8_pump 6 = .ok (.ifCond .ne 5, 3) := by decide +kernel
theorem dX8_pump_9 : decode cX8_pump 9 = .ok (.iconst (-1), 1) := by decide +kernel
theorem dX8_pump_10 : decode cX8_pump 10 = .ok (.ireturn, 1) := by decide +kernel
theorem dX8_pump_11 : decode cX8_pump 11 = .ok (.aload_n 0, 1) := by decide +kernel
theorem dX8_pump_12 : decode cX8_pump 12 = .ok (.getfield 10, 3) := by decide +kernel
theorem dX8_pump_15 : decode cX8_pump 15 = .ok (.getfield 68, 3) := by decide +kernel
theorem dX8_pump_18 : decode cX8_pump 18 = .ok (.getfield 72, 3) := by decide +kernel
theorem dX8_pump_21 : decode cX8_pump 21 = .ok (.iload_n 1, 1) := by decide +kernel
theorem dX8_pump_22 : decode cX8_pump 22 = .ok (.iload_n 2, 1) := by decide +kernel
theorem dX8_pump_23 : decode cX8_pump 23 = .ok (.iload_n 3, 1) := by decide +kernel
theorem dX8_pump_24 : decode cX8_pump 24 = .ok (.invokevirtual 62, 3) := by decide +kernel
theorem dX8_pump_27 : decode cX8_pump 27 = .ok (.ireturn, 1) := by decide +kernel
theorem dX8_set_0 : decode cX8_set 0 = .ok (.aload_n 0, 1) := by decide +kernel
theorem dX8_set_1 : decode cX8_set 1 = .ok (.getfield 10, 3) := by decide +kernel
theorem dX8_set_4 : decode cX8_set 4 = .ok (.getfield 75, 3) := by decide +kernel
theorem dX8_set_7 : decode cX8_set 7 = .ok (.iconst 0, 1) := by decide +kernel
theorem dX8_set_8 : decode cX8_set 8 = .ok (.iload_n 1, 1) := by decide +kernel
theorem dX8_set_9 : decode cX8_set 9 = .ok (.iload_n 2, 1) := by decide +kernel
theorem dX8_set_10 : decode cX8_set 10 = .ok (.invokevirtual 62, 3) := by decide +kernel
theorem dX8_set_13 : decode cX8_set 13 = .ok (.ireturn, 1) := by decide +kernel
theorem dX8_wind_0 : decode cX8_wind 0 = .ok (.iload_n 1, 1) := by decide +kernel
theorem dX8_wind_1 : decode cX8_wind 1 = .ok (.iconst 0, 1) := by decide +kernel
theorem dX8_wind_2 : decode cX8_wind 2 = .ok (.sipush 300, 3) := by decide +kernel
theorem dX8_wind_5 : decode cX8_wind 5 = .ok (.invokestatic 36, 3) := by decide +kernel
theorem dX8_wind_8 : decode cX8_wind 8 = .ok (.ifCond .ne 6, 3) := by decide +kernel
theorem dX8_wind_11 : decode cX8_wind 11 = .ok (.bipush (-2), 2) := by decide +kernel
theorem dX8_wind_13 : decode cX8_wind 13 = .ok (.ireturn, 1) := by decide +kernel
theorem dX8_wind_14 : decode cX8_wind 14 = .ok (.aload_n 0, 1) := by decide +kernel
theorem dX8_wind_15 : decode cX8_wind 15 = .ok (.getfield 10, 3) := by decide +kernel
theorem dX8_wind_18 : decode cX8_wind 18 = .ok (.getfield 76, 3) := by decide +kernel
theorem dX8_wind_21 : decode cX8_wind 21 = .ok (.getfield 80, 3) := by decide +kernel
theorem dX8_wind_24 : decode cX8_wind 24 = .ok (.istore_n 2, 1) := by decide +kernel
theorem dX8_wind_25 : decode cX8_wind 25 = .ok (.aload_n 0, 1) := by decide +kernel
theorem dX8_wind_26 : decode cX8_wind 26 = .ok (.getfield 10, 3) := by decide +kernel
theorem dX8_wind_29 : decode cX8_wind 29 = .ok (.getfield 76, 3) := by decide +kernel
theorem dX8_wind_32 : decode cX8_wind 32 = .ok (.iload_n 1, 1) := by decide +kernel
theorem dX8_wind_33 : decode cX8_wind 33 = .ok (.putfield 80, 3) := by decide +kernel
theorem dX8_wind_36 : decode cX8_wind 36 = .ok (.iload_n 2, 1) := by decide +kernel
theorem dX8_wind_37 : decode cX8_wind 37 = .ok (.ireturn, 1) := by decide +kernel
theorem dX8_cue_0 : decode cX8_cue 0 = .ok (.iload_n 1, 1) := by decide +kernel
theorem dX8_cue_1 : decode cX8_cue 1 = .ok (.iconst 0, 1) := by decide +kernel
theorem dX8_cue_2 : decode cX8_cue 2 = .ok (.ldc 85, 2) := by decide +kernel
theorem dX8_cue_4 : decode cX8_cue 4 = .ok (.invokestatic 36, 3) := by decide +kernel
theorem dX8_cue_7 : decode cX8_cue 7 = .ok (.ifCond .eq 25, 3) := by decide +kernel
theorem dX8_cue_10 : decode cX8_cue 10 = .ok (.iload_n 2, 1) := by decide +kernel
theorem dX8_cue_11 : decode cX8_cue 11 = .ok (.iconst 1, 1) := by decide +kernel
theorem dX8_cue_12 : decode cX8_cue 12 = .ok (.sipush 4095, 3) := by decide +kernel
theorem dX8_cue_15 : decode cX8_cue 15 = .ok (.invokestatic 36, 3) := by decide +kernel
theorem dX8_cue_18 : decode cX8_cue 18 = .ok (.ifCond .eq 14, 3) := by decide +kernel
theorem dX8_cue_21 : decode cX8_cue 21 = .ok (.iload_n 3, 1) := by decide +kernel
theorem dX8_cue_22 : decode cX8_cue 22 = .ok (.iconst 0, 1) := by decide +kernel
theorem dX8_cue_23 : decode cX8_cue 23 = .ok (.sipush 1000, 3) := by decide +kernel
theorem dX8_cue_26 : decode cX8_cue 26 = .ok (.invokestatic 36, 3) := by decide +kernel
theorem dX8_cue_29 : decode cX8_cue 29 = .ok (.ifCond .ne 6, 3) := by decide +kernel
theorem dX8_cue_32 : decode cX8_cue 32 = .ok (.bipush (-2), 2) := by decide +kernel
theorem dX8_cue_34 : decode cX8_cue 34 = .ok (.ireturn, 1) := by decide +kernel
theorem dX8_cue_35 : decode cX8_cue 35 = .ok (.aload_n 0, 1) := by decide +kernel
theorem dX8_cue_36 : decode cX8_cue 36 = .ok (.getfield 10, 3) := by decide +kernel
theorem dX8_cue_39 : decode cX8_cue 39 = .ok (.getfield 86, 3) := by decide +kernel
theorem dX8_cue_42 : decode cX8_cue 42 = .ok (.iload_n 1, 1) := by decide +kernel
theorem dX8_cue_43 : decode cX8_cue 43 = .ok (.iload_n 2, 1) := by decide +kernel
theorem dX8_cue_44 : decode cX8_cue 44 = .ok (.iload_n 3, 1) := by decide +kernel
theorem dX8_cue_45 : decode cX8_cue 45 = .ok (.invokevirtual 90, 3) := by decide +kernel
theorem dX8_cue_48 : decode cX8_cue 48 = .ok (.ireturn, 1) := by decide +kernel
theorem dX8_remove_0 : decode cX8_remove 0 = .ok (.aload_n 0, 1) := by decide +kernel
theorem dX8_remove_1 : decode cX8_remove 1 = .ok (.getfield 10, 3) := by decide +kernel
theorem dX8_remove_4 : decode cX8_remove 4 = .ok (.getfield 86, 3) := by decide +kernel
theorem dX8_remove_7 : decode cX8_remove 7 = .ok (.iload_n 1, 1) := by decide +kernel
theorem dX8_remove_8 : decode cX8_remove 8 = .ok (.invokevirtual 95, 3) := by decide +kernel
theorem dX8_remove_11 : decode cX8_remove 11 = .ok (.ifCond .ne 5, 3) := by decide +kernel
theorem dX8_remove_14 : decode cX8_remove 14 = .ok (.iconst (-1), 1) := by decide +kernel
theorem dX8_remove_15 : decode cX8_remove 15 = .ok (.ireturn, 1) := by decide +kernel
theorem dX8_remove_16 : decode cX8_remove 16 = .ok (.aload_n 0, 1) := by decide +kernel
theorem dX8_remove_17 : decode cX8_remove 17 = .ok (.getfield 10, 3) := by decide +kernel
theorem dX8_remove_20 : decode cX8_remove 20 = .ok (.getfield 86, 3) := by decide +kernel
theorem dX8_remove_23 : decode cX8_remove 23 = .ok (.iload_n 1, 1) := by decide +kernel
theorem dX8_remove_24 : decode cX8_remove 24 = .ok (.invokevirtual 96, 3) := by decide +kernel
theorem dX8_remove_27 : decode cX8_remove 27 = .ok (.aload_n 0, 1) := by decide +kernel
theorem dX8_remove_28 : decode cX8_remove 28 = .ok (.getfield 10, 3) := by decide +kernel
theorem dX8_remove_31 : decode cX8_remove 31 = .ok (.getfield 86, 3) := by decide +kernel
theorem dX8_remove_34 : decode cX8_remove 34 = .ok (.getfield 99, 3) := by decide +kernel
theorem dX8_remove_37 : decode cX8_remove 37 = .ok (.ireturn, 1) := by decide +kernel
theorem dX8_move_0 : decode cX8_move 0 = .ok (.aload_n 0, 1) := by decide +kernel
theorem dX8_move_1 : decode cX8_move 1 = .ok (.getfield 10, 3) := by decide +kernel
theorem dX8_move_4 : decode cX8_move 4 = .ok (.getfield 86, 3) := by decide +kernel
theorem dX8_move_7 : decode cX8_move 7 = .ok (.iload_n 1, 1) := by decide +kernel
theorem dX8_move_8 : decode cX8_move 8 = .ok (.invokevirtual 95, 3) := by decide +kernel
theorem dX8_move_11 : decode cX8_move 11 = .ok (.ifCond .ne 5, 3) := by decide +kernel
theorem dX8_move_14 : decode cX8_move 14 = .ok (.iconst (-1), 1) := by decide +kernel
theorem dX8_move_15 : decode cX8_move 15 = .ok (.ireturn, 1) := by decide +kernel
theorem dX8_move_16 : decode cX8_move 16 = .ok (.iload_n 2, 1) := by decide +kernel
theorem dX8_move_17 : decode cX8_move 17 = .ok (.ldc 100, 2) := by decide +kernel
theorem dX8_move_19 : decode cX8_move 19 = .ok (.ldc 85, 2) := by decide +kernel
theorem dX8_move_21 : decode cX8_move 21 = .ok (.invokestatic 36, 3) := by decide +kernel
theorem dX8_move_24 : decode cX8_move 24 = .ok (.ifCond .eq 26, 3) := by decide +kernel
theorem dX8_move_27 : decode cX8_move 27 = .ok (.aload_n 0, 1) := by decide +kernel
theorem dX8_move_28 : decode cX8_move 28 = .ok (.getfield 10, 3) := by decide +kernel
theorem dX8_move_31 : decode cX8_move 31 = .ok (.getfield 86, 3) := by decide +kernel
theorem dX8_move_34 : decode cX8_move 34 = .ok (.getfield 101, 3) := by decide +kernel
theorem dX8_move_37 : decode cX8_move 37 = .ok (.iload_n 1, 1) := by decide +kernel
theorem dX8_move_38 : decode cX8_move 38 = .ok (.iaload, 1) := by decide +kernel
theorem dX8_move_39 : decode cX8_move 39 = .ok (.iload_n 2, 1) := by decide +kernel
theorem dX8_move_40 : decode cX8_move 40 = .ok (.iadd, 1) := by decide +kernel
theorem dX8_move_41 : decode cX8_move 41 = .ok (.iconst 0, 1) := by decide +kernel
theorem dX8_move_42 : decode cX8_move 42 = .ok (.ldc 85, 2) := by decide +kernel
theorem dX8_move_44 : decode cX8_move 44 = .ok (.invokestatic 36, 3) := by decide +kernel
theorem dX8_move_47 : decode cX8_move 47 = .ok (.ifCond .ne 6, 3) := by decide +kernel
theorem dX8_move_50 : decode cX8_move 50 = .ok (.bipush (-2), 2) := by decide +kernel
theorem dX8_move_52 : decode cX8_move 52 = .ok (.ireturn, 1) := by decide +kernel
theorem dX8_move_53 : decode cX8_move 53 = .ok (.aload_n 0, 1) := by decide +kernel
theorem dX8_move_54 : decode cX8_move 54 = .ok (.getfield 10, 3) := by decide +kernel
theorem dX8_move_57 : decode cX8_move 57 = .ok (.getfield 86, 3) := by decide +kernel
theorem dX8_move_60 : decode cX8_move 60 = .ok (.iload_n 1, 1) := by decide +kernel
theorem dX8_move_61 : decode cX8_move 61 = .ok (.iload_n 2, 1) := by decide +kernel
theorem dX8_move_62 : decode cX8_move 62 = .ok (.invokevirtual 105, 3) := by decide +kernel
theorem dX8_move_65 : decode cX8_move 65 = .ok (.ireturn, 1) := by decide +kernel
theorem dX8_part_0 : decode cX8_part 0 = .ok (.aload_n 0, 1) := by decide +kernel
theorem dX8_part_1 : decode cX8_part 1 = .ok (.getfield 10, 3) := by decide +kernel
theorem dX8_part_4 : decode cX8_part 4 = .ok (.getfield 86, 3) := by decide +kernel
theorem dX8_part_7 : decode cX8_part 7 = .ok (.iload_n 1, 1) := by decide +kernel
theorem dX8_part_8 : decode cX8_part 8 = .ok (.invokevirtual 95, 3) := by decide +kernel
theorem dX8_part_11 : decode cX8_part 11 = .ok (.ifCond .ne 5, 3) := by decide +kernel
theorem dX8_part_14 : decode cX8_part 14 = .ok (.iconst (-1), 1) := by decide +kernel
theorem dX8_part_15 : decode cX8_part 15 = .ok (.ireturn, 1) := by decide +kernel
theorem dX8_part_16 : decode cX8_part 16 = .ok (.iload_n 2, 1) := by decide +kernel
theorem dX8_part_17 : decode cX8_part 17 = .ok (.tableswitch 66 0 2 #[27, 40, 53], 27) := by decide +kernel
theorem dX8_part_44 : decode cX8_part 44 = .ok (.aload_n 0, 1) := by decide +kernel
theorem dX8_part_45 : decode cX8_part 45 = .ok (.getfield 10, 3) := by decide +kernel
theorem dX8_part_48 : decode cX8_part 48 = .ok (.getfield 86, 3) := by decide +kernel
theorem dX8_part_51 : decode cX8_part 51 = .ok (.getfield 101, 3) := by decide +kernel
theorem dX8_part_54 : decode cX8_part 54 = .ok (.iload_n 1, 1) := by decide +kernel
theorem dX8_part_55 : decode cX8_part 55 = .ok (.iaload, 1) := by decide +kernel
theorem dX8_part_56 : decode cX8_part 56 = .ok (.ireturn, 1) := by decide +kernel
theorem dX8_part_57 : decode cX8_part 57 = .ok (.aload_n 0, 1) := by decide +kernel
theorem dX8_part_58 : decode cX8_part 58 = .ok (.getfield 10, 3) := by decide +kernel
theorem dX8_part_61 : decode cX8_part 61 = .ok (.getfield 86, 3) := by decide +kernel
theorem dX8_part_64 : decode cX8_part 64 = .ok (.getfield 109, 3) := by decide +kernel
theorem dX8_part_67 : decode cX8_part 67 = .ok (.iload_n 1, 1) := by decide +kernel
theorem dX8_part_68 : decode cX8_part 68 = .ok (.iaload, 1) := by decide +kernel
theorem dX8_part_69 : decode cX8_part 69 = .ok (.ireturn, 1) := by decide +kernel
theorem dX8_part_70 : decode cX8_part 70 = .ok (.aload_n 0, 1) := by decide +kernel
theorem dX8_part_71 : decode cX8_part 71 = .ok (.getfield 10, 3) := by decide +kernel
theorem dX8_part_74 : decode cX8_part 74 = .ok (.getfield 86, 3) := by decide +kernel
theorem dX8_part_77 : decode cX8_part 77 = .ok (.getfield 112, 3) := by decide +kernel
theorem dX8_part_80 : decode cX8_part 80 = .ok (.iload_n 1, 1) := by decide +kernel
theorem dX8_part_81 : decode cX8_part 81 = .ok (.iaload, 1) := by decide +kernel
theorem dX8_part_82 : decode cX8_part 82 = .ok (.ireturn, 1) := by decide +kernel
theorem dX8_part_83 : decode cX8_part 83 = .ok (.bipush (-2), 2) := by decide +kernel
theorem dX8_part_85 : decode cX8_part 85 = .ok (.ireturn, 1) := by decide +kernel
theorem dX8_command_0 : decode cX8_command 0 = .ok (.iload_n 1, 1) := by decide +kernel
theorem dX8_command_1 : decode cX8_command 1 = .ok (.iconst 1, 1) := by decide +kernel
theorem dX8_command_2 : decode cX8_command 2 = .ok (.sipush 4095, 3) := by decide +kernel
theorem dX8_command_5 : decode cX8_command 5 = .ok (.invokestatic 36, 3) := by decide +kernel
theorem dX8_command_8 : decode cX8_command 8 = .ok (.ifCond .eq 14, 3) := by decide +kernel
theorem dX8_command_11 : decode cX8_command 11 = .ok (.iload_n 2, 1) := by decide +kernel
theorem dX8_command_12 : decode cX8_command 12 = .ok (.iconst 0, 1) := by decide +kernel
theorem dX8_command_13 : decode cX8_command 13 = .ok (.sipush 1000, 3) := by decide +kernel
theorem dX8_command_16 : decode cX8_command 16 = .ok (.invokestatic 36, 3) := by decide +kernel
theorem dX8_command_19 : decode cX8_command 19 = .ok (.ifCond .ne 6, 3) := by decide +kernel
theorem dX8_command_22 : decode cX8_command 22 = .ok (.bipush (-2), 2) := by decide +kernel
theorem dX8_command_24 : decode cX8_command 24 = .ok (.ireturn, 1) := by decide +kernel
theorem dX8_command_25 : decode cX8_command 25 = .ok (.aload_n 0, 1) := by decide +kernel
theorem dX8_command_26 : decode cX8_command 26 = .ok (.getfield 10, 3) := by decide +kernel
theorem dX8_command_29 : decode cX8_command 29 = .ok (.getfield 40, 3) := by decide +kernel
theorem dX8_command_32 : decode cX8_command 32 = .ok (.iload_n 1, 1) := by decide +kernel
theorem dX8_command_33 : decode cX8_command 33 = .ok (.iload_n 2, 1) := by decide +kernel
theorem dX8_command_34 : decode cX8_command 34 = .ok (.invokevirtual 115, 3) := by decide +kernel
theorem dX8_command_37 : decode cX8_command 37 = .ok (.aload_n 0, 1) := by decide +kernel
theorem dX8_command_38 : decode cX8_command 38 = .ok (.getfield 10, 3) := by decide +kernel
theorem dX8_command_41 : decode cX8_command 41 = .ok (.getfield 119, 3) := by decide +kernel
theorem dX8_command_44 : decode cX8_command 44 = .ok (.ireturn, 1) := by decide +kernel
theorem dX8_tick_0 : decode cX8_tick 0 = .ok (.iload_n 1, 1) := by decide +kernel
theorem dX8_tick_1 : decode cX8_tick 1 = .ok (.iconst 1, 1) := by decide +kernel
theorem dX8_tick_2 : decode cX8_tick 2 = .ok (.sipush 2000, 3) := by decide +kernel
theorem dX8_tick_5 : decode cX8_tick 5 = .ok (.invokestatic 36, 3) := by decide +kernel
theorem dX8_tick_8 : decode cX8_tick 8 = .ok (.ifCond .ne 6, 3) := by decide +kernel
theorem dX8_tick_11 : decode cX8_tick 11 = .ok (.bipush (-2), 2) := by decide +kernel
theorem dX8_tick_13 : decode cX8_tick 13 = .ok (.ireturn, 1) := by decide +kernel
theorem dX8_tick_14 : decode cX8_tick 14 = .ok (.aload_n 0, 1) := by decide +kernel
theorem dX8_tick_15 : decode cX8_tick 15 = .ok (.getfield 10, 3) := by decide +kernel
theorem dX8_tick_18 : decode cX8_tick 18 = .ok (.getfield 119, 3) := by decide +kernel
theorem dX8_tick_21 : decode cX8_tick 21 = .ok (.iload_n 1, 1) := by decide +kernel
theorem dX8_tick_22 : decode cX8_tick 22 = .ok (.iadd, 1) := by decide +kernel
theorem dX8_tick_23 : decode cX8_tick 23 = .ok (.ldc 122, 2) := by decide +kernel
theorem dX8_tick_25 : decode cX8_tick 25 = .ok (.if_icmp .le 6, 3) := by decide +kernel
theorem dX8_tick_28 : decode cX8_tick 28 = .ok (.bipush (-5), 2) := by decide +kernel
theorem dX8_tick_30 : decode cX8_tick 30 = .ok (.ireturn, 1) := by decide +kernel
theorem dX8_tick_31 : decode cX8_tick 31 = .ok (.iconst 0, 1) := by decide +kernel
theorem dX8_tick_32 : decode cX8_tick 32 = .ok (.istore_n 2, 1) := by decide +kernel
theorem dX8_tick_33 : decode cX8_tick 33 = .ok (.iload_n 2, 1) := by decide +kernel
theorem dX8_tick_34 : decode cX8_tick 34 = .ok (.iload_n 1, 1) := by decide +kernel
theorem dX8_tick_35 : decode cX8_tick 35 = .ok (.if_icmp .ge 16, 3) := by decide +kernel
theorem dX8_tick_38 : decode cX8_tick 38 = .ok (.aload_n 0, 1) := by decide +kernel
theorem dX8_tick_39 : decode cX8_tick 39 = .ok (.getfield 10, 3) := by decide +kernel
theorem dX8_tick_42 : decode cX8_tick 42 = .ok (.invokevirtual 123, 3) := by decide +kernel
theorem dX8_tick_45 : decode cX8_tick 45 = .ok (.iinc 2 1, 3) := by decide +kernel
theorem dX8_tick_48 : decode cX8_tick 48 = .ok (.goto (-15), 3) := by decide +kernel
theorem dX8_tick_51 : decode cX8_tick 51 = .ok (.aload_n 0, 1) := by decide +kernel
theorem dX8_tick_52 : decode cX8_tick 52 = .ok (.getfield 10, 3) := by decide +kernel
theorem dX8_tick_55 : decode cX8_tick 55 = .ok (.getfield 119, 3) := by decide +kernel
theorem dX8_tick_58 : decode cX8_tick 58 = .ok (.ireturn, 1) := by decide +kernel
theorem dX8_rewind_0 : decode cX8_rewind 0 = .ok (.aload_n 0, 1) := by decide +kernel
theorem dX8_rewind_1 : decode cX8_rewind 1 = .ok (.getfield 10, 3) := by decide +kernel
theorem dX8_rewind_4 : decode cX8_rewind 4 = .ok (.getfield 119, 3) := by decide +kernel
theorem dX8_rewind_7 : decode cX8_rewind 7 = .ok (.istore_n 1, 1) := by decide +kernel
theorem dX8_rewind_8 : decode cX8_rewind 8 = .ok (.aload_n 0, 1) := by decide +kernel
theorem dX8_rewind_9 : decode cX8_rewind 9 = .ok (.getfield 10, 3) := by decide +kernel
theorem dX8_rewind_12 : decode cX8_rewind 12 = .ok (.invokevirtual 126, 3) := by decide +kernel
theorem dX8_rewind_15 : decode cX8_rewind 15 = .ok (.iload_n 1, 1) := by decide +kernel
theorem dX8_rewind_16 : decode cX8_rewind 16 = .ok (.ireturn, 1) := by decide +kernel
theorem dX8_spray_0 : decode cX8_spray 0 = .ok (.aload_n 0, 1) := by decide +kernel
theorem dX8_spray_1 : decode cX8_spray 1 = .ok (.getfield 10, 3) := by decide +kernel
theorem dX8_spray_4 : decode cX8_spray 4 = .ok (.getfield 40, 3) := by decide +kernel
theorem dX8_spray_7 : decode cX8_spray 7 = .ok (.iload_n 1, 1) := by decide +kernel
theorem dX8_spray_8 : decode cX8_spray 8 = .ok (.invokevirtual 54, 3) := by decide +kernel
theorem dX8_spray_11 : decode cX8_spray 11 = .ok (.ifCond .ne 5, 3) := by decide +kernel
theorem dX8_spray_14 : decode cX8_spray 14 = .ok (.iconst (-1), 1) := by decide +kernel
theorem dX8_spray_15 : decode cX8_spray 15 = .ok (.ireturn, 1) := by decide +kernel
theorem dX8_spray_16 : decode cX8_spray 16 = .ok (.iload_n 2, 1) := by decide +kernel
theorem dX8_spray_17 : decode cX8_spray 17 = .ok (.tableswitch 117 6 11 #[39, 52, 65, 78, 91, 104], 39) := by decide +kernel
theorem dX8_spray_56 : decode cX8_spray 56 = .ok (.aload_n 0, 1) := by decide +kernel
theorem dX8_spray_57 : decode cX8_spray 57 = .ok (.getfield 10, 3) := by decide +kernel
theorem dX8_spray_60 : decode cX8_spray 60 = .ok (.getfield 40, 3) := by decide +kernel
theorem dX8_spray_63 : decode cX8_spray 63 = .ok (.getfield 129, 3) := by decide +kernel
theorem dX8_spray_66 : decode cX8_spray 66 = .ok (.iload_n 1, 1) := by decide +kernel
theorem dX8_spray_67 : decode cX8_spray 67 = .ok (.iaload, 1) := by decide +kernel
theorem dX8_spray_68 : decode cX8_spray 68 = .ok (.ireturn, 1) := by decide +kernel
theorem dX8_spray_69 : decode cX8_spray 69 = .ok (.aload_n 0, 1) := by decide +kernel
theorem dX8_spray_70 : decode cX8_spray 70 = .ok (.getfield 10, 3) := by decide +kernel
theorem dX8_spray_73 : decode cX8_spray 73 = .ok (.getfield 40, 3) := by decide +kernel
theorem dX8_spray_76 : decode cX8_spray 76 = .ok (.getfield 132, 3) := by decide +kernel
theorem dX8_spray_79 : decode cX8_spray 79 = .ok (.iload_n 1, 1) := by decide +kernel
theorem dX8_spray_80 : decode cX8_spray 80 = .ok (.iaload, 1) := by decide +kernel
theorem dX8_spray_81 : decode cX8_spray 81 = .ok (.ireturn, 1) := by decide +kernel
theorem dX8_spray_82 : decode cX8_spray 82 = .ok (.aload_n 0, 1) := by decide +kernel
theorem dX8_spray_83 : decode cX8_spray 83 = .ok (.getfield 10, 3) := by decide +kernel
theorem dX8_spray_86 : decode cX8_spray 86 = .ok (.getfield 40, 3) := by decide +kernel
theorem dX8_spray_89 : decode cX8_spray 89 = .ok (.getfield 135, 3) := by decide +kernel
theorem dX8_spray_92 : decode cX8_spray 92 = .ok (.iload_n 1, 1) := by decide +kernel
theorem dX8_spray_93 : decode cX8_spray 93 = .ok (.iaload, 1) := by decide +kernel
theorem dX8_spray_94 : decode cX8_spray 94 = .ok (.ireturn, 1) := by decide +kernel
theorem dX8_spray_95 : decode cX8_spray 95 = .ok (.aload_n 0, 1) := by decide +kernel
theorem dX8_spray_96 : decode cX8_spray 96 = .ok (.getfield 10, 3) := by decide +kernel
theorem dX8_spray_99 : decode cX8_spray 99 = .ok (.getfield 40, 3) := by decide +kernel
theorem dX8_spray_102 : decode cX8_spray 102 = .ok (.getfield 138, 3) := by decide +kernel
theorem dX8_spray_105 : decode cX8_spray 105 = .ok (.iload_n 1, 1) := by decide +kernel
theorem dX8_spray_106 : decode cX8_spray 106 = .ok (.iaload, 1) := by decide +kernel
theorem dX8_spray_107 : decode cX8_spray 107 = .ok (.ireturn, 1) := by decide +kernel
theorem dX8_spray_108 : decode cX8_spray 108 = .ok (.aload_n 0, 1) := by decide +kernel
theorem dX8_spray_109 : decode cX8_spray 109 = .ok (.getfield 10, 3) := by decide +kernel
theorem dX8_spray_112 : decode cX8_spray 112 = .ok (.getfield 40, 3) := by decide +kernel
theorem dX8_spray_115 : decode cX8_spray 115 = .ok (.getfield 141, 3) := by decide +kernel
theorem dX8_spray_118 : decode cX8_spray 118 = .ok (.iload_n 1, 1) := by decide +kernel
theorem dX8_spray_119 : decode cX8_spray 119 = .ok (.iaload, 1) := by decide +kernel
theorem dX8_spray_120 : decode cX8_spray 120 = .ok (.ireturn, 1) := by decide +kernel
theorem dX8_spray_121 : decode cX8_spray 121 = .ok (.aload_n 0, 1) := by decide +kernel
theorem dX8_spray_122 : decode cX8_spray 122 = .ok (.getfield 10, 3) := by decide +kernel
theorem dX8_spray_125 : decode cX8_spray 125 = .ok (.getfield 40, 3) := by decide +kernel
theorem dX8_spray_128 : decode cX8_spray 128 = .ok (.getfield 144, 3) := by decide +kernel
theorem dX8_spray_131 : decode cX8_spray 131 = .ok (.iload_n 1, 1) := by decide +kernel
theorem dX8_spray_132 : decode cX8_spray 132 = .ok (.iaload, 1) := by decide +kernel
theorem dX8_spray_133 : decode cX8_spray 133 = .ok (.ireturn, 1) := by decide +kernel
theorem dX8_spray_134 : decode cX8_spray 134 = .ok (.iload_n 2, 1) := by decide +kernel
theorem dX8_spray_135 : decode cX8_spray 135 = .ok (.iconst 0, 1) := by decide +kernel
theorem dX8_spray_136 : decode cX8_spray 136 = .ok (.iconst 5, 1) := by decide +kernel
theorem dX8_spray_137 : decode cX8_spray 137 = .ok (.invokestatic 36, 3) := by decide +kernel
theorem dX8_spray_140 : decode cX8_spray 140 = .ok (.ifCond .eq 21, 3) := by decide +kernel
theorem dX8_spray_143 : decode cX8_spray 143 = .ok (.aload_n 0, 1) := by decide +kernel
theorem dX8_spray_144 : decode cX8_spray 144 = .ok (.getfield 10, 3) := by decide +kernel
theorem dX8_spray_147 : decode cX8_spray 147 = .ok (.getfield 40, 3) := by decide +kernel
theorem dX8_spray_150 : decode cX8_spray 150 = .ok (.getfield 58, 3) := by decide +kernel
theorem dX8_spray_153 : decode cX8_spray 153 = .ok (.iload_n 1, 1) := by decide +kernel
theorem dX8_spray_154 : decode cX8_spray 154 = .ok (.iload_n 2, 1) := by decide +kernel
theorem dX8_spray_155 : decode cX8_spray 155 = .ok (.invokevirtual 147, 3) := by decide +kernel
theorem dX8_spray_158 : decode cX8_spray 158 = .ok (.goto 5, 3) := by decide +kernel
theorem dX8_spray_161 : decode cX8_spray 161 = .ok (.bipush (-2), 2) := by decide +kernel
theorem dX8_spray_163 : decode cX8_spray 163 = .ok (.ireturn, 1) := by decide +kernel
theorem dX8_pressure_0 : decode cX8_pressure 0 = .ok (.iload_n 1, 1) := by decide +kernel
theorem dX8_pressure_1 : decode cX8_pressure 1 = .ok (.iconst 0, 1) := by decide +kernel
theorem dX8_pressure_2 : decode cX8_pressure 2 = .ok (.iconst 2, 1) := by decide +kernel
theorem dX8_pressure_3 : decode cX8_pressure 3 = .ok (.invokestatic 36, 3) := by decide +kernel
theorem dX8_pressure_6 : decode cX8_pressure 6 = .ok (.ifCond .ne 5, 3) := by decide +kernel
theorem dX8_pressure_9 : decode cX8_pressure 9 = .ok (.iconst (-1), 1) := by decide +kernel
theorem dX8_pressure_10 : decode cX8_pressure 10 = .ok (.ireturn, 1) := by decide +kernel
theorem dX8_pressure_11 : decode cX8_pressure 11 = .ok (.iload_n 2, 1) := by decide +kernel
theorem dX8_pressure_12 : decode cX8_pressure 12 = .ok (.tableswitch 67 2 4 #[28, 41, 54], 28) := by decide +kernel
theorem dX8_pressure_40 : decode cX8_pressure 40 = .ok (.aload_n 0, 1) := by decide +kernel
theorem dX8_pressure_41 : decode cX8_pressure 41 = .ok (.getfield 10, 3) := by decide +kernel
theorem dX8_pressure_44 : decode cX8_pressure 44 = .ok (.getfield 68, 3) := by decide +kernel
theorem dX8_pressure_47 : decode cX8_pressure 47 = .ok (.getfield 150, 3) := by decide +kernel
theorem dX8_pressure_50 : decode cX8_pressure 50 = .ok (.iload_n 1, 1) := by decide +kernel
theorem dX8_pressure_51 : decode cX8_pressure 51 = .ok (.iaload, 1) := by decide +kernel
theorem dX8_pressure_52 : decode cX8_pressure 52 = .ok (.ireturn, 1) := by decide +kernel
theorem dX8_pressure_53 : decode cX8_pressure 53 = .ok (.aload_n 0, 1) := by decide +kernel
theorem dX8_pressure_54 : decode cX8_pressure 54 = .ok (.getfield 10, 3) := by decide +kernel
theorem dX8_pressure_57 : decode cX8_pressure 57 = .ok (.getfield 68, 3) := by decide +kernel
theorem dX8_pressure_60 : decode cX8_pressure 60 = .ok (.getfield 151, 3) := by decide +kernel
theorem dX8_pressure_63 : decode cX8_pressure 63 = .ok (.iload_n 1, 1) := by decide +kernel
theorem dX8_pressure_64 : decode cX8_pressure 64 = .ok (.iaload, 1) := by decide +kernel
theorem dX8_pressure_65 : decode cX8_pressure 65 = .ok (.ireturn, 1) := by decide +kernel
theorem dX8_pressure_66 : decode cX8_pressure 66 = .ok (.aload_n 0, 1) := by decide +kernel
theorem dX8_pressure_67 : decode cX8_pressure 67 = .ok (.getfield 10, 3) := by decide +kernel
theorem dX8_pressure_70 : decode cX8_pressure 70 = .ok (.getfield 68, 3) := by decide +kernel
theorem dX8_pressure_73 : decode cX8_pressure 73 = .ok (.getfield 154, 3) := by decide +kernel
theorem dX8_pressure_76 : decode cX8_pressure 76 = .ok (.iload_n 1, 1) := by decide +kernel
theorem dX8_pressure_77 : decode cX8_pressure 77 = .ok (.iaload, 1) := by decide +kernel
theorem dX8_pressure_78 : decode cX8_pressure 78 = .ok (.ireturn, 1) := by decide +kernel
theorem dX8_pressure_79 : decode cX8_pressure 79 = .ok (.iload_n 2, 1) := by decide +kernel
theorem dX8_pressure_80 : decode cX8_pressure 80 = .ok (.iconst 0, 1) := by decide +kernel
theorem dX8_pressure_81 : decode cX8_pressure 81 = .ok (.iconst 1, 1) := by decide +kernel
theorem dX8_pressure_82 : decode cX8_pressure 82 = .ok (.invokestatic 36, 3) := by decide +kernel
theorem dX8_pressure_85 : decode cX8_pressure 85 = .ok (.ifCond .eq 21, 3) := by decide +kernel
theorem dX8_pressure_88 : decode cX8_pressure 88 = .ok (.aload_n 0, 1) := by decide +kernel
theorem dX8_pressure_89 : decode cX8_pressure 89 = .ok (.getfield 10, 3) := by decide +kernel
theorem dX8_pressure_92 : decode cX8_pressure 92 = .ok (.getfield 68, 3) := by decide +kernel
theorem dX8_pressure_95 : decode cX8_pressure 95 = .ok (.getfield 72, 3) := by decide +kernel
theorem dX8_pressure_98 : decode cX8_pressure 98 = .ok (.iload_n 1, 1) := by decide +kernel
theorem dX8_pressure_99 : decode cX8_pressure 99 = .ok (.iload_n 2, 1) := by decide +kernel
theorem dX8_pressure_100 : decode cX8_pressure 100 = .ok (.invokevirtual 147, 3) := by decide +kernel
theorem dX8_pressure_103 : decode cX8_pressure 103 = .ok (.goto 5, 3) := by decide +kernel
theorem dX8_pressure_106 : decode cX8_pressure 106 = .ok (.bipush (-2), 2) := by decide +kernel
theorem dX8_pressure_108 : decode cX8_pressure 108 = .ok (.ireturn, 1) := by decide +kernel
theorem dX8_load_0 : decode cX8_load 0 = .ok (.iload_n 1, 1) := by decide +kernel
theorem dX8_load_1 : decode cX8_load 1 = .ok (.iconst 0, 1) := by decide +kernel
theorem dX8_load_2 : decode cX8_load 2 = .ok (.iconst 2, 1) := by decide +kernel
theorem dX8_load_3 : decode cX8_load 3 = .ok (.invokestatic 36, 3) := by decide +kernel
theorem dX8_load_6 : decode cX8_load 6 = .ok (.ifCond .ne 6, 3) := by decide +kernel
theorem dX8_load_9 : decode cX8_load 9 = .ok (.ldc 157, 2) := by decide +kernel
theorem dX8_load_11 : decode cX8_load 11 = .ok (.freturn, 1) := by decide +kernel
theorem dX8_load_12 : decode cX8_load 12 = .ok (.aload_n 0, 1) := by decide +kernel
theorem dX8_load_13 : decode cX8_load 13 = .ok (.getfield 10, 3) := by decide +kernel
theorem dX8_load_16 : decode cX8_load 16 = .ok (.getfield 68, 3) := by decide +kernel
theorem dX8_load_19 : decode cX8_load 19 = .ok (.getfield 72, 3) := by decide +kernel
theorem dX8_load_22 : decode cX8_load 22 = .ok (.iload_n 1, 1) := by decide +kernel
theorem dX8_load_23 : decode cX8_load 23 = .ok (.iconst 0, 1) := by decide +kernel
theorem dX8_load_24 : decode cX8_load 24 = .ok (.invokevirtual 147, 3) := by decide +kernel
theorem dX8_load_27 : decode cX8_load 27 = .ok (.istore_n 2, 1) := by decide +kernel
theorem dX8_load_28 : decode cX8_load 28 = .ok (.iload_n 2, 1) := by decide +kernel
theorem dX8_load_29 : decode cX8_load 29 = .ok (.ifCond .ne 7, 3) := by decide +kernel
theorem dX8_load_32 : decode cX8_load 32 = .ok (.fconst 0, 1) := by decide +kernel
theorem dX8_load_33 : decode cX8_load 33 = .ok (.goto 23, 3) := by decide +kernel
theorem dX8_load_36 : decode cX8_load 36 = .ok (.aload_n 0, 1) := by decide +kernel
theorem dX8_load_37 : decode cX8_load 37 = .ok (.getfield 10, 3) := by decide +kernel
theorem dX8_load_40 : decode cX8_load 40 = .ok (.getfield 68, 3) := by decide +kernel
theorem dX8_load_43 : decode cX8_load 43 = .ok (.getfield 150, 3) := by decide +kernel
theorem dX8_load_46 : decode cX8_load 46 = .ok (.iload_n 1, 1) := by decide +kernel
theorem dX8_load_47 : decode cX8_load 47 = .ok (.iaload, 1) := by decide +kernel
theorem dX8_load_48 : decode cX8_load 48 = .ok (.i2f, 1) := by decide +kernel
theorem dX8_load_49 : decode cX8_load 49 = .ok (.sipush 1000, 3) := by decide +kernel
theorem dX8_load_52 : decode cX8_load 52 = .ok (.iload_n 2, 1) := by decide +kernel
theorem dX8_load_53 : decode cX8_load 53 = .ok (.imul, 1) := by decide +kernel
theorem dX8_load_54 : decode cX8_load 54 = .ok (.i2f, 1) := by decide +kernel
theorem dX8_load_55 : decode cX8_load 55 = .ok (.fdiv, 1) := by decide +kernel
theorem dX8_load_56 : decode cX8_load 56 = .ok (.freturn, 1) := by decide +kernel
theorem dX8_state_0 : decode cX8_state 0 = .ok (.iload_n 1, 1) := by decide +kernel
theorem dX8_state_1 : decode cX8_state 1 = .ok (.tableswitch 163 0 9 #[55, 63, 74, 85, 96, 107, 118, 129, 137, 155], 55) := by decide +kernel
theorem dX8_state_56 : decode cX8_state 56 = .ok (.aload_n 0, 1) := by decide +kernel
theorem dX8_state_57 : decode cX8_state 57 = .ok (.getfield 10, 3) := by decide +kernel
theorem dX8_state_60 : decode cX8_state 60 = .ok (.getfield 119, 3) := by decide +kernel
theorem dX8_state_63 : decode cX8_state 63 = .ok (.ireturn, 1) := by decide +kernel
theorem dX8_state_64 : decode cX8_state 64 = .ok (.aload_n 0, 1) := by decide +kernel
theorem dX8_state_65 : decode cX8_state 65 = .ok (.getfield 10, 3) := by decide +kernel
theorem dX8_state_68 : decode cX8_state 68 = .ok (.getfield 40, 3) := by decide +kernel
theorem dX8_state_71 : decode cX8_state 71 = .ok (.getfield 44, 3) := by decide +kernel
theorem dX8_state_74 : decode cX8_state 74 = .ok (.ireturn, 1) := by decide +kernel
theorem dX8_state_75 : decode cX8_state 75 = .ok (.aload_n 0, 1) := by decide +kernel
theorem dX8_state_76 : decode cX8_state 76 = .ok (.getfield 10, 3) := by decide +kernel
theorem dX8_state_79 : decode cX8_state 79 = .ok (.getfield 86, 3) := by decide +kernel
theorem dX8_state_82 : decode cX8_state 82 = .ok (.getfield 99, 3) := by decide +kernel
theorem dX8_state_85 : decode cX8_state 85 = .ok (.ireturn, 1) := by decide +kernel
theorem dX8_state_86 : decode cX8_state 86 = .ok (.aload_n 0, 1) := by decide +kernel
theorem dX8_state_87 : decode cX8_state 87 = .ok (.getfield 10, 3) := by decide +kernel
theorem dX8_state_90 : decode cX8_state 90 = .ok (.getfield 76, 3) := by decide +kernel
theorem dX8_state_93 : decode cX8_state 93 = .ok (.getfield 80, 3) := by decide +kernel
theorem dX8_state_96 : decode cX8_state 96 = .ok (.ireturn, 1) := by decide +kernel
theorem dX8_state_97 : decode cX8_state 97 = .ok (.aload_n 0, 1) := by decide +kernel
theorem dX8_state_98 : decode cX8_state 98 = .ok (.getfield 10, 3) := by decide +kernel
theorem dX8_state_101 : decode cX8_state 101 = .ok (.getfield 76, 3) := by decide +kernel
theorem dX8_state_104 : decode cX8_state 104 = .ok (.invokevirtual 162, 3) := by decide +kernel
theorem dX8_state_107 : decode cX8_state 107 = .ok (.ireturn, 1) := by decide +kernel
theorem dX8_state_108 : decode cX8_state 108 = .ok (.aload_n 0, 1) := by decide +kernel
theorem dX8_state_109 : decode cX8_state 109 = .ok (.getfield 10, 3) := by decide +kernel
theorem dX8_state_112 : decode cX8_state 112 = .ok (.getfield 76, 3) := by decide +kernel
theorem dX8_state_115 : decode cX8_state 115 = .ok (.getfield 165, 3) := by decide +kernel
theorem dX8_state_118 : decode cX8_state 118 = .ok (.ireturn, 1) := by decide +kernel
theorem dX8_state_119 : decode cX8_state 119 = .ok (.aload_n 0, 1) := by decide +kernel
theorem dX8_state_120 : decode cX8_state 120 = .ok (.getfield 10, 3) := by decide +kernel
theorem dX8_state_123 : decode cX8_state 123 = .ok (.getfield 76, 3) := by decide +kernel
theorem dX8_state_126 : decode cX8_state 126 = .ok (.getfield 168, 3) := by decide +kernel
theorem dX8_state_129 : decode cX8_state 129 = .ok (.ireturn, 1) := by decide +kernel
theorem dX8_state_130 : decode cX8_state 130 = .ok (.aload_n 0, 1) := by decide +kernel
theorem dX8_state_131 : decode cX8_state 131 = .ok (.getfield 10, 3) := by decide +kernel
theorem dX8_state_134 : decode cX8_state 134 = .ok (.getfield 171, 3) := by decide +kernel
theorem dX8_state_137 : decode cX8_state 137 = .ok (.ireturn, 1) := by decide +kernel
theorem dX8_state_138 : decode cX8_state 138 = .ok (.aload_n 0, 1) := by decide +kernel
theorem dX8_state_139 : decode cX8_state 139 = .ok (.getfield 10, 3) := by decide +kernel
theorem dX8_state_142 : decode cX8_state 142 = .ok (.getfield 86, 3) := by decide +kernel
theorem dX8_state_145 : decode cX8_state 145 = .ok (.aload_n 0, 1) := by decide +kernel
theorem dX8_state_146 : decode cX8_state 146 = .ok (.getfield 10, 3) := by decide +kernel
theorem dX8_state_149 : decode cX8_state 149 = .ok (.getfield 119, 3) := by decide +kernel
theorem dX8_state_152 : decode cX8_state 152 = .ok (.invokevirtual 174, 3) := by decide +kernel
theorem dX8_state_155 : decode cX8_state 155 = .ok (.ireturn, 1) := by decide +kernel
theorem dX8_state_156 : decode cX8_state 156 = .ok (.aload_n 0, 1) := by decide +kernel
theorem dX8_state_157 : decode cX8_state 157 = .ok (.getfield 32, 3) := by decide +kernel
theorem dX8_state_160 : decode cX8_state 160 = .ok (.getfield 178, 3) := by decide +kernel
theorem dX8_state_163 : decode cX8_state 163 = .ok (.ireturn, 1) := by decide +kernel
theorem dX8_state_164 : decode cX8_state 164 = .ok (.iload_n 1, 1) := by decide +kernel
theorem dX8_state_165 : decode cX8_state 165 = .ok (.bipush 10, 2) := by decide +kernel
theorem dX8_state_167 : decode cX8_state 167 = .ok (.bipush 15, 2) := by decide +kernel
theorem dX8_state_169 : decode cX8_state 169 = .ok (.invokestatic 36, 3) := by decide +kernel
theorem dX8_state_172 : decode cX8_state 172 = .ok (.ifCond .eq 21, 3) := by decide +kernel
theorem dX8_state_175 : decode cX8_state 175 = .ok (.aload_n 0, 1) := by decide +kernel
theorem dX8_state_176 : decode cX8_state 176 = .ok (.getfield 10, 3) := by decide +kernel
theorem dX8_state_179 : decode cX8_state 179 = .ok (.getfield 75, 3) := by decide +kernel
theorem dX8_state_182 : decode cX8_state 182 = .ok (.iconst 0, 1) := by decide +kernel
theorem dX8_state_183 : decode cX8_state 183 = .ok (.iload_n 1, 1) := by decide +kernel
theorem dX8_state_184 : decode cX8_state 184 = .ok (.bipush 10, 2) := by decide +kernel
theorem dX8_state_186 : decode cX8_state 186 = .ok (.isub, 1) := by decide +kernel
theorem dX8_state_187 : decode cX8_state 187 = .ok (.invokevirtual 147, 3) := by decide +kernel
theorem dX8_state_190 : decode cX8_state 190 = .ok (.goto 5, 3) := by decide +kernel
theorem dX8_state_193 : decode cX8_state 193 = .ok (.bipush (-2), 2) := by decide +kernel
theorem dX8_state_195 : decode cX8_state 195 = .ok (.ireturn, 1) := by decide +kernel
theorem dX8_ahead_0 : decode cX8_ahead 0 = .ok (.iload_n 1, 1) := by decide +kernel
theorem dX8_ahead_1 : decode cX8_ahead 1 = .ok (.iconst 1, 1) := by decide +kernel
theorem dX8_ahead_2 : decode cX8_ahead 2 = .ok (.sipush 1000, 3) := by decide +kernel
theorem dX8_ahead_5 : decode cX8_ahead 5 = .ok (.invokestatic 36, 3) := by decide +kernel
theorem dX8_ahead_8 : decode cX8_ahead 8 = .ok (.ifCond .eq 12, 3) := by decide +kernel
theorem dX8_ahead_11 : decode cX8_ahead 11 = .ok (.iload_n 3, 1) := by decide +kernel
theorem dX8_ahead_12 : decode cX8_ahead 12 = .ok (.iconst 0, 1) := by decide +kernel
theorem dX8_ahead_13 : decode cX8_ahead 13 = .ok (.iconst 4, 1) := by decide +kernel
theorem dX8_ahead_14 : decode cX8_ahead 14 = .ok (.invokestatic 36, 3) := by decide +kernel
theorem dX8_ahead_17 : decode cX8_ahead 17 = .ok (.ifCond .ne 6, 3) := by decide +kernel
theorem dX8_ahead_20 : decode cX8_ahead 20 = .ok (.bipush (-2), 2) := by decide +kernel
theorem dX8_ahead_22 : decode cX8_ahead 22 = .ok (.ireturn, 1) := by decide +kernel
theorem dX8_ahead_23 : decode cX8_ahead 23 = .ok (.iload_n 3, 1) := by decide +kernel
theorem dX8_ahead_24 : decode cX8_ahead 24 = .ok (.iconst 2, 1) := by decide +kernel
theorem dX8_ahead_25 : decode cX8_ahead 25 = .ok (.if_icmp .gt 14, 3) := by decide +kernel
theorem dX8_ahead_28 : decode cX8_ahead 28 = .ok (.iload_n 2, 1) := by decide +kernel
theorem dX8_ahead_29 : decode cX8_ahead 29 = .ok (.iconst 0, 1) := by decide +kernel
theorem dX8_ahead_30 : decode cX8_ahead 30 = .ok (.iconst 2, 1) := by decide +kernel
theorem dX8_ahead_31 : decode cX8_ahead 31 = .ok (.invokestatic 36, 3) := by decide +kernel
theorem dX8_ahead_34 : decode cX8_ahead 34 = .ok (.ifCond .ne 5, 3) := by decide +kernel
theorem dX8_ahead_37 : decode cX8_ahead 37 = .ok (.iconst (-1), 1) := by decide +kernel
theorem dX8_ahead_38 : decode cX8_ahead 38 = .ok (.ireturn, 1) := by decide +kernel
theorem dX8_ahead_39 : decode cX8_ahead 39 = .ok (.aload_n 0, 1) := by decide +kernel
theorem dX8_ahead_40 : decode cX8_ahead 40 = .ok (.getfield 16, 3) := by decide +kernel
theorem dX8_ahead_43 : decode cX8_ahead 43 = .ok (.aload_n 0, 1) := by decide +kernel
theorem dX8_ahead_44 : decode cX8_ahead 44 = .ok (.getfield 10, 3) := by decide +kernel
theorem dX8_ahead_47 : decode cX8_ahead 47 = .ok (.invokevirtual 181, 3) := by decide +kernel
theorem dX8_ahead_50 : decode cX8_ahead 50 = .ok (.iload_n 3, 1) := by decide +kernel
theorem dX8_ahead_51 : decode cX8_ahead 51 = .ok (.tableswitch 56 0 3 #[29, 36, 43, 50], 29) := by decide +kernel
theorem dX8_ahead_80 : decode cX8_ahead 80 = .ok (.aload_n 0, 1) := by decide +kernel
theorem dX8_ahead_81 : decode cX8_ahead 81 = .ok (.iload_n 1, 1) := by decide +kernel
theorem dX8_ahead_82 : decode cX8_ahead 82 = .ok (.iload_n 2, 1) := by decide +kernel
theorem dX8_ahead_83 : decode cX8_ahead 83 = .ok (.invokevirtual 185, 3) := by decide +kernel
theorem dX8_ahead_86 : decode cX8_ahead 86 = .ok (.ireturn, 1) := by decide +kernel
theorem dX8_ahead_87 : decode cX8_ahead 87 = .ok (.aload_n 0, 1) := by decide +kernel
theorem dX8_ahead_88 : decode cX8_ahead 88 = .ok (.iload_n 1, 1) := by decide +kernel
theorem dX8_ahead_89 : decode cX8_ahead 89 = .ok (.iload_n 2, 1) := by decide +kernel
theorem dX8_ahead_90 : decode cX8_ahead 90 = .ok (.invokevirtual 188, 3) := by decide +kernel
theorem dX8_ahead_93 : decode cX8_ahead 93 = .ok (.ireturn, 1) := by decide +kernel
theorem dX8_ahead_94 : decode cX8_ahead 94 = .ok (.aload_n 0, 1) := by decide +kernel
theorem dX8_ahead_95 : decode cX8_ahead 95 = .ok (.iload_n 1, 1) := by decide +kernel
theorem dX8_ahead_96 : decode cX8_ahead 96 = .ok (.iload_n 2, 1) := by decide +kernel
theorem dX8_ahead_97 : decode cX8_ahead 97 = .ok (.invokevirtual 190, 3) := by decide +kernel
theorem dX8_ahead_100 : decode cX8_ahead 100 = .ok (.ireturn, 1) := by decide +kernel
theorem dX8_ahead_101 : decode cX8_ahead 101 = .ok (.aload_n 0, 1) := by decide +kernel
theorem dX8_ahead_102 : decode cX8_ahead 102 = .ok (.iload_n 1, 1) := by decide +kernel
theorem dX8_ahead_103 : decode cX8_ahead 103 = .ok (.invokevirtual 193, 3) := by decide +kernel
theorem dX8_ahead_106 : decode cX8_ahead 106 = .ok (.ireturn, 1) := by decide +kernel
theorem dX8_ahead_107 : decode cX8_ahead 107 = .ok (.aload_n 0, 1) := by decide +kernel
theorem dX8_ahead_108 : decode cX8_ahead 108 = .ok (.iload_n 1, 1) := by decide +kernel
theorem dX8_ahead_109 : decode cX8_ahead 109 = .ok (.invokevirtual 195, 3) := by decide +kernel
theorem dX8_ahead_112 : decode cX8_ahead 112 = .ok (.ireturn, 1) := by decide +kernel
theorem dX8_delay_0 : decode cX8_delay 0 = .ok (.aload_n 0, 1) := by decide +kernel
theorem dX8_delay_1 : decode cX8_delay 1 = .ok (.getfield 10, 3) := by decide +kernel
theorem dX8_delay_4 : decode cX8_delay 4 = .ok (.getfield 86, 3) := by decide +kernel
theorem dX8_delay_7 : decode cX8_delay 7 = .ok (.iload_n 1, 1) := by decide +kernel
theorem dX8_delay_8 : decode cX8_delay 8 = .ok (.invokevirtual 95, 3) := by decide +kernel
theorem dX8_delay_11 : decode cX8_delay 11 = .ok (.ifCond .ne 5, 3) := by decide +kernel
theorem dX8_delay_14 : decode cX8_delay 14 = .ok (.iconst (-1), 1) := by decide +kernel
theorem dX8_delay_15 : decode cX8_delay 15 = .ok (.ireturn, 1) := by decide +kernel
theorem dX8_delay_16 : decode cX8_delay 16 = .ok (.iload_n 2, 1) := by decide +kernel
theorem dX8_delay_17 : decode cX8_delay 17 = .ok (.iconst 0, 1) := by decide +kernel
theorem dX8_delay_18 : decode cX8_delay 18 = .ok (.bipush 100, 2) := by decide +kernel
theorem dX8_delay_20 : decode cX8_delay 20 = .ok (.invokestatic 36, 3) := by decide +kernel
theorem dX8_delay_23 : decode cX8_delay 23 = .ok (.ifCond .eq 14, 3) := by decide +kernel
theorem dX8_delay_26 : decode cX8_delay 26 = .ok (.iload_n 3, 1) := by decide +kernel
theorem dX8_delay_27 : decode cX8_delay 27 = .ok (.iconst 1, 1) := by decide +kernel
theorem dX8_delay_28 : decode cX8_delay 28 = .ok (.sipush 300, 3) := by decide +kernel
theorem dX8_delay_31 : decode cX8_delay 31 = .ok (.invokestatic 36, 3) := by decide +kernel
theorem dX8_delay_34 : decode cX8_delay 34 = .ok (.ifCond .ne 6, 3) := by decide +kernel
theorem dX8_delay_37 : decode cX8_delay 37 = .ok (.bipush (-2), 2) := by decide +kernel
theorem dX8_delay_39 : decode cX8_delay 39 = .ok (.ireturn, 1) := by decide +kernel
theorem dX8_delay_40 : decode cX8_delay 40 = .ok (.iload_n 2, 1) := by decide +kernel
theorem dX8_delay_41 : decode cX8_delay 41 = .ok (.ldc 85, 2) := by decide +kernel
theorem dX8_delay_43 : decode cX8_delay 43 = .ok (.aload_n 0, 1) := by decide +kernel
theorem dX8_delay_44 : decode cX8_delay 44 = .ok (.getfield 10, 3) := by decide +kernel
theorem dX8_delay_47 : decode cX8_delay 47 = .ok (.getfield 86, 3) := by decide +kernel
theorem dX8_delay_50 : decode cX8_delay 50 = .ok (.getfield 101, 3) := by decide +kernel
theorem dX8_delay_53 : decode cX8_delay 53 = .ok (.iload_n 1, 1) := by decide +kernel
theorem dX8_delay_54 : decode cX8_delay 54 = .ok (.iaload, 1) := by decide +kernel
theorem dX8_delay_55 : decode cX8_delay 55 = .ok (.isub, 1) := by decide +kernel
theorem dX8_delay_56 : decode cX8_delay 56 = .ok (.invokestatic 198, 3) := by decide +kernel
theorem dX8_delay_59 : decode cX8_delay 59 = .ok (.istore 4, 2) := by decide +kernel
theorem dX8_delay_61 : decode cX8_delay 61 = .ok (.iconst 0, 1) := by decide +kernel
theorem dX8_delay_62 : decode cX8_delay 62 = .ok (.istore 5, 2) := by decide +kernel
theorem dX8_delay_64 : decode cX8_delay 64 = .ok (.iload 5, 2) := by decide +kernel
theorem dX8_delay_66 : decode cX8_delay 66 = .ok (.iload 4, 2) := by decide +kernel
theorem dX8_delay_68 : decode cX8_delay 68 = .ok (.if_icmp .gt 45, 3) := by decide +kernel
theorem dX8_delay_71 : decode cX8_delay 71 = .ok (.aload_n 0, 1) := by decide +kernel
theorem dX8_delay_72 : decode cX8_delay 72 = .ok (.getfield 16, 3) := by decide +kernel
theorem dX8_delay_75 : decode cX8_delay 75 = .ok (.aload_n 0, 1) := by decide +kernel
theorem dX8_delay_76 : decode cX8_delay 76 = .ok (.getfield 10, 3) := by decide +kernel
theorem dX8_delay_79 : decode cX8_delay 79 = .ok (.invokevirtual 181, 3) := by decide +kernel
theorem dX8_delay_82 : decode cX8_delay 82 = .ok (.aload_n 0, 1) := by decide +kernel
theorem dX8_delay_83 : decode cX8_delay 83 = .ok (.getfield 16, 3) := by decide +kernel
theorem dX8_delay_86 : decode cX8_delay 86 = .ok (.getfield 86, 3) := by decide +kernel
theorem dX8_delay_89 : decode cX8_delay 89 = .ok (.iload_n 1, 1) := by decide +kernel
theorem dX8_delay_90 : decode cX8_delay 90 = .ok (.iload 5, 2) := by decide +kernel
theorem dX8_delay_92 : decode cX8_delay 92 = .ok (.invokevirtual 105, 3) := by decide +kernel
theorem dX8_delay_95 : decode cX8_delay 95 = .ok (.pop, 1) := by decide +kernel
theorem dX8_delay_96 : decode cX8_delay 96 = .ok (.aload_n 0, 1) := by decide +kernel
theorem dX8_delay_97 : decode cX8_delay 97 = .ok (.iload_n 3, 1) := by decide +kernel
theorem dX8_delay_98 : decode cX8_delay 98 = .ok (.invokevirtual 203, 3) := by decide +kernel
theorem dX8_delay_101 : decode cX8_delay 101 = .ok (.ifCond .eq 6, 3) := by decide +kernel
theorem dX8_delay_104 : decode cX8_delay 104 = .ok (.iload 5, 2) := by decide +kernel
theorem dX8_delay_106 : decode cX8_delay 106 = .ok (.ireturn, 1) := by decide +kernel
theorem dX8_delay_107 : decode cX8_delay 107 = .ok (.iinc 5 1, 3) := by decide +kernel
theorem dX8_delay_110 : decode cX8_delay 110 = .ok (.goto (-46), 3) := by decide +kernel
theorem dX8_delay_113 : decode cX8_delay 113 = .ok (.bipush (-6), 2) := by decide +kernel
theorem dX8_delay_115 : decode cX8_delay 115 = .ok (.ireturn, 1) := by decide +kernel
theorem dX8_safeCut_0 : decode cX8_safeCut 0 = .ok (.iload_n 1, 1) := by decide +kernel
theorem dX8_safeCut_1 : decode cX8_safeCut 1 = .ok (.iconst 1, 1) := by decide +kernel
theorem dX8_safeCut_2 : decode cX8_safeCut 2 = .ok (.bipush 100, 2) := by decide +kernel
theorem dX8_safeCut_4 : decode cX8_safeCut 4 = .ok (.invokestatic 36, 3) := by decide +kernel
theorem dX8_safeCut_7 : decode cX8_safeCut 7 = .ok (.ifCond .ne 6, 3) := by decide +kernel
theorem dX8_safeCut_10 : decode cX8_safeCut 10 = .ok (.bipush (-2), 2) := by decide +kernel
theorem dX8_safeCut_12 : decode cX8_safeCut 12 = .ok (.ireturn, 1) := by decide +kernel
theorem dX8_safeCut_13 : decode cX8_safeCut 13 = .ok (.sipush 1000, 3) := by decide +kernel
theorem dX8_safeCut_16 : decode cX8_safeCut 16 = .ok (.istore_n 2, 1) := by decide +kernel
theorem dX8_safeCut_17 : decode cX8_safeCut 17 = .ok (.iload_n 2, 1) := by decide +kernel
theorem dX8_safeCut_18 : decode cX8_safeCut 18 = .ok (.ifCond .lt 59, 3) := by decide +kernel
theorem dX8_safeCut_21 : decode cX8_safeCut 21 = .ok (.aload_n 0, 1) := by decide +kernel
theorem dX8_safeCut_22 : decode cX8_safeCut 22 = .ok (.getfield 16, 3) := by decide +kernel
theorem dX8_safeCut_25 : decode cX8_safeCut 25 = .ok (.aload_n 0, 1) := by decide +kernel
theorem dX8_safeCut_26 : decode cX8_safeCut 26 = .ok (.getfield 10, 3) := by decide +kernel
theorem dX8_safeCut_29 : decode cX8_safeCut 29 = .ok (.invokevirtual 181, 3) := by decide +kernel
theorem dX8_safeCut_32 : decode cX8_safeCut 32 = .ok (.aload_n 0, 1) := by decide +kernel
theorem dX8_safeCut_33 : decode cX8_safeCut 33 = .ok (.getfield 16, 3) := by decide +kernel
theorem dX8_safeCut_36 : decode cX8_safeCut 36 = .ok (.getfield 75, 3) := by decide +kernel
theorem dX8_safeCut_39 : decode cX8_safeCut 39 = .ok (.iconst 0, 1) := by decide +kernel
theorem dX8_safeCut_40 : decode cX8_safeCut 40 = .ok (.iconst 3, 1) := by decide +kernel
theorem dX8_safeCut_41 : decode cX8_safeCut 41 = .ok (.iload_n 2, 1) := by decide +kernel
theorem dX8_safeCut_42 : decode cX8_safeCut 42 = .ok (.invokevirtual 62, 3) := by decide +kernel
theorem dX8_safeCut_45 : decode cX8_safeCut 45 = .ok (.pop, 1) := by decide +kernel
theorem dX8_safeCut_46 : decode cX8_safeCut 46 = .ok (.aload_n 0, 1) := by decide +kernel
theorem dX8_safeCut_47 : decode cX8_safeCut 47 = .ok (.iload_n 1, 1) := by decide +kernel
theorem dX8_safeCut_48 : decode cX8_safeCut 48 = .ok (.invokevirtual 206, 3) := by decide +kernel
theorem dX8_safeCut_51 : decode cX8_safeCut 51 = .ok (.ifCond .eq 5, 3) := by decide +kernel
theorem dX8_safeCut_54 : decode cX8_safeCut 54 = .ok (.iload_n 2, 1) := by decide +kernel
theorem dX8_safeCut_55 : decode cX8_safeCut 55 = .ok (.ireturn, 1) := by decide +kernel
theorem dX8_safeCut_56 : decode cX8_safeCut 56 = .ok (.iload_n 2, 1) := by decide +kernel
theorem dX8_safeCut_57 : decode cX8_safeCut 57 = .ok (.aload_n 0, 1) := by decide +kernel
theorem dX8_safeCut_58 : decode cX8_safeCut 58 = .ok (.getfield 16, 3) := by decide +kernel
theorem dX8_safeCut_61 : decode cX8_safeCut 61 = .ok (.getfield 40, 3) := by decide +kernel
theorem dX8_safeCut_64 : decode cX8_safeCut 64 = .ok (.getfield 209, 3) := by decide +kernel
theorem dX8_safeCut_67 : decode cX8_safeCut 67 = .ok (.invokestatic 198, 3) := by decide +kernel
theorem dX8_safeCut_70 : decode cX8_safeCut 70 = .ok (.istore_n 2, 1) := by decide +kernel
theorem dX8_safeCut_71 : decode cX8_safeCut 71 = .ok (.iinc 2 (-1), 3) := by decide +kernel
theorem dX8_safeCut_74 : decode cX8_safeCut 74 = .ok (.goto (-57), 3) := by decide +kernel
theorem dX8_safeCut_77 : decode cX8_safeCut 77 = .ok (.bipush (-6), 2) := by decide +kernel
theorem dX8_safeCut_79 : decode cX8_safeCut 79 = .ok (.ireturn, 1) := by decide +kernel
theorem dX8_say_0 : decode cX8_say 0 = .ok (.iload_n 1, 1) := by decide +kernel
theorem dX8_say_1 : decode cX8_say 1 = .ok (.bipush 33, 2) := by decide +kernel
theorem dX8_say_3 : decode cX8_say 3 = .ok (.bipush 126, 2) := by decide +kernel
theorem dX8_say_5 : decode cX8_say 5 = .ok (.invokestatic 36, 3) := by decide +kernel
theorem dX8_say_8 : decode cX8_say 8 = .ok (.ifCond .ne 6, 3) := by decide +kernel
theorem dX8_say_11 : decode cX8_say 11 = .ok (.bipush (-2), 2) := by decide +kernel
theorem dX8_say_13 : decode cX8_say 13 = .ok (.ireturn, 1) := by decide +kernel
theorem dX8_say_14 : decode cX8_say 14 = .ok (.aload_n 0, 1) := by decide +kernel
theorem dX8_say_15 : decode cX8_say 15 = .ok (.getfield 32, 3) := by decide +kernel
theorem dX8_say_18 : decode cX8_say 18 = .ok (.iload_n 1, 1) := by decide +kernel
theorem dX8_say_19 : decode cX8_say 19 = .ok (.i2c, 1) := by decide +kernel
theorem dX8_say_20 : decode cX8_say 20 = .ok (.invokevirtual 212, 3) := by decide +kernel
theorem dX8_say_23 : decode cX8_say 23 = .ok (.ireturn, 1) := by decide +kernel
theorem dX8_read_0 : decode cX8_read 0 = .ok (.aload_n 0, 1) := by decide +kernel
theorem dX8_read_1 : decode cX8_read 1 = .ok (.getfield 32, 3) := by decide +kernel
theorem dX8_read_4 : decode cX8_read 4 = .ok (.invokevirtual 216, 3) := by decide +kernel
theorem dX8_read_7 : decode cX8_read 7 = .ok (.bipush (-6), 2) := by decide +kernel
theorem dX8_read_9 : decode cX8_read 9 = .ok (.if_icmp .eq 6, 3) := by decide +kernel
theorem dX8_read_12 : decode cX8_read 12 = .ok (.bipush (-3), 2) := by decide +kernel
theorem dX8_read_14 : decode cX8_read 14 = .ok (.ireturn, 1) := by decide +kernel
theorem dX8_read_15 : decode cX8_read 15 = .ok (.iload_n 1, 1) := by decide +kernel
theorem dX8_read_16 : decode cX8_read 16 = .ok (.iconst 0, 1) := by decide +kernel
theorem dX8_read_17 : decode cX8_read 17 = .ok (.ldc 219, 2) := by decide +kernel
theorem dX8_read_19 : decode cX8_read 19 = .ok (.invokestatic 36, 3) := by decide +kernel
theorem dX8_read_22 : decode cX8_read 22 = .ok (.ifCond .ne 6, 3) := by decide +kernel
theorem dX8_read_25 : decode cX8_read 25 = .ok (.bipush (-2), 2) := by decide +kernel
theorem dX8_read_27 : decode cX8_read 27 = .ok (.ireturn, 1) := by decide +kernel
theorem dX8_read_28 : decode cX8_read 28 = .ok (.aload_n 0, 1) := by decide +kernel
theorem dX8_read_29 : decode cX8_read 29 = .ok (.getfield 32, 3) := by decide +kernel
theorem dX8_read_32 : decode cX8_read 32 = .ok (.getfield 220, 3) := by decide +kernel
theorem dX8_read_35 : decode cX8_read 35 = .ok (.getfield 99, 3) := by decide +kernel
theorem dX8_read_38 : decode cX8_read 38 = .ok (.istore_n 2, 1) := by decide +kernel
theorem dX8_read_39 : decode cX8_read 39 = .ok (.aload_n 0, 1) := by decide +kernel
theorem dX8_read_40 : decode cX8_read 40 = .ok (.getfield 10, 3) := by decide +kernel
theorem dX8_read_43 : decode cX8_read 43 = .ok (.getfield 86, 3) := by decide +kernel
theorem dX8_read_46 : decode cX8_read 46 = .ok (.getfield 99, 3) := by decide +kernel
theorem dX8_read_49 : decode cX8_read 49 = .ok (.iload_n 2, 1) := by decide +kernel
theorem dX8_read_50 : decode cX8_read 50 = .ok (.iadd, 1) := by decide +kernel
theorem dX8_read_51 : decode cX8_read 51 = .ok (.bipush 60, 2) := by decide +kernel
theorem dX8_read_53 : decode cX8_read 53 = .ok (.if_icmp .le 6, 3) := by decide +kernel
theorem dX8_read_56 : decode cX8_read 56 = .ok (.bipush (-4), 2) := by decide +kernel
theorem dX8_read_58 : decode cX8_read 58 = .ok (.ireturn, 1) := by decide +kernel
theorem dX8_read_59 : decode cX8_read 59 = .ok (.iconst 0, 1) := by decide +kernel
theorem dX8_read_60 : decode cX8_read 60 = .ok (.istore_n 3, 1) := by decide +kernel
theorem dX8_read_61 : decode cX8_read 61 = .ok (.iload_n 3, 1) := by decide +kernel
