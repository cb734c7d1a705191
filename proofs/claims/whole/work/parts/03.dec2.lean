theorem dX8_pressure_89 : decode cX8_pressure 89 = .ok (.getfield 10, 3) := by decide +kernel
theorem dX8_pressure_92 : decode cX8_pressure 92 = .ok (.getfield 68, 3) := by decide +kernel
theorem dX8_pressure_95 : decode cX8_pressure 95 = .ok (.getfield 72, 3) := by decide +kernel
theorem dX8_pressure_98 : decode cX8_pressure 98 = .ok (.iload_n 1, 1) := by decide +kernel
theorem dX8_pressure_99 : decode cX8_pressure 99 = .ok (.iload_n 2, 1) := by decide +kernel
theorem dX8_pressure_100 : decode cX8_pressure 100 = .ok (.invokevirtual 147, 3) := by decide +kernel
theorem dX8_pressure_103 : decode cX8_pressure 103 = .ok (.goto 5, 3) := by decide +kernel
theorem dX8_pressure_106 : decode cX8_pressure 106 = .ok (.bipush (-2), 2) := by decide +kernel
theorem dX8_pressure_108 : decode cX8_pressure 108 = .ok (.ireturn, 1) := by decide +kernel
theorem dX8_load_0 : decode cX8_load 0 = .ok (.iload_n 1, 1) := by decide +kernel
theorem dX8_load_1 : decode cX8_load 1 = .ok (.iconst 0, 1) := by decide +kernel
theorem dX8_load_2 : decode cX8_load 2 = .ok (.iconst 2, 1) := by decide +kernel
theorem dX8_load_3 : decode cX8_load 3 = .ok (.invokestatic 36, 3) := by decide +kernel
theorem dX8_load_6 : decode cX8_load 6 = .ok (.ifCond .ne 6, 3) := by decide +kernel
theorem dX8_load_9 : decode cX8_load 9 = .ok (.ldc 157, 2) := by decide +kernel
theorem dX8_load_11 : decode cX8_load 11 = .ok (.freturn, 1) := by decide +kernel
theorem dX8_load_12 : decode cX8_load 12 = .ok (.aload_n 0, 1) := by decide +kernel
theorem dX8_load_13 : decode cX8_load 13 = .ok (.getfield 10, 3) := by decide +kernel
theorem dX8_load_16 : decode cX8_load 16 = .ok (.getfield 68, 3) := by decide +kernel
theorem dX8_load_19 : decode cX8_load 19 = .ok (.getfield 72, 3) := by decide +kernel
theorem dX8_load_22 : decode cX8_load 22 = .ok (.iload_n 1, 1) := by decide +kernel
theorem dX8_load_23 : decode cX8_load 23 = .ok (.iconst 0, 1) := by decide +kernel
theorem dX8_load_24 : decode cX8_load 24 = .ok (.invokevirtual 147, 3) := by decide +kernel
theorem dX8_load_27 : decode cX8_load 27 = .ok (.istore_n 2, 1) := by decide +kernel
theorem dX8_load_28 : decode cX8_load 28 = .ok (.iload_n 2, 1) := by decide +kernel
theorem dX8_load_29 : decode cX8_load 29 = .ok (.ifCond .ne 7, 3) := by decide +kernel
theorem dX8_load_32 : decode cX8_load 32 = .ok (.fconst 0, 1) := by decide +kernel
theorem dX8_load_33 : decode cX8_load 33 = .ok (.goto 23, 3) := by decide +kernel
theorem dX8_load_36 : decode cX8_load 36 = .ok (.aload_n 0, 1) := by decide +kernel
theorem dX8_load_37 : decode cX8_load 37 = .ok (.getfield 10, 3) := by decide +kernel
theorem dX8_load_40 : decode cX8_load 40 = .ok (.getfield 68, 3) := by decide +kernel
theorem dX8_load_43 : decode cX8_load 43 = .ok (.getfield 150, 3) := by decide +kernel
theorem dX8_load_46 : decode cX8_load 46 = .ok (.iload_n 1, 1) := by decide +kernel
theorem dX8_load_47 : decode cX8_load 47 = .ok (.iaload, 1) := by decide +kernel
theorem dX8_load_48 : decode cX8_load 48 = .ok (.i2f, 1) := by decide +kernel
theorem dX8_load_49 : decode cX8_load 49 = .ok (.sipush 1000, 3) := by decide +kernel
theorem dX8_load_52 : decode cX8_load 52 = .ok (.iload_n 2, 1) := by decide +kernel
theorem dX8_load_53 : decode cX8_load 53 = .ok (.imul, 1) := by decide +kernel
theorem dX8_load_54 : decode cX8_load 54 = .ok (.i2f, 1) := by decide +kernel
theorem dX8_load_55 : decode cX8_load 55 = .ok (.fdiv, 1) := by decide +kernel
theorem dX8_load_56 : decode cX8_load 56 = .ok (.freturn, 1) := by decide +kernel
theorem dX8_meanHeight_0 : decode cX8_meanHeight 0 = .ok (.aload_n 0, 1) := by decide +kernel
theorem dX8_meanHeight_1 : decode cX8_meanHeight 1 = .ok (.getfield 10, 3) := by decide +kernel
theorem dX8_meanHeight_4 : decode cX8_meanHeight 4 = .ok (.getfield 40, 3) := by decide +kernel
theorem dX8_meanHeight_7 : decode cX8_meanHeight 7 = .ok (.getfield 44, 3) := by decide +kernel
theorem dX8_meanHeight_10 : decode cX8_meanHeight 10 = .ok (.istore_n 1, 1) := by decide +kernel
theorem dX8_meanHeight_11 : decode cX8_meanHeight 11 = .ok (.iload_n 1, 1) := by decide +kernel
theorem dX8_meanHeight_12 : decode cX8_meanHeight 12 = .ok (.iconst 1, 1) := by decide +kernel
theorem dX8_meanHeight_13 : decode cX8_meanHeight 13 = .ok (.if_icmp .ge 7, 3) := by decide +kernel
theorem dX8_meanHeight_16 : decode cX8_meanHeight 16 = .ok (.dconst 0, 1) := by decide +kernel
theorem dX8_meanHeight_17 : decode cX8_meanHeight 17 = .ok (.goto 17, 3) := by decide +kernel
theorem dX8_meanHeight_20 : decode cX8_meanHeight 20 = .ok (.aload_n 0, 1) := by decide +kernel
theorem dX8_meanHeight_21 : decode cX8_meanHeight 21 = .ok (.getfield 10, 3) := by decide +kernel
theorem dX8_meanHeight_24 : decode cX8_meanHeight 24 = .ok (.getfield 40, 3) := by decide +kernel
theorem dX8_meanHeight_27 : decode cX8_meanHeight 27 = .ok (.invokevirtual 158, 3) := by decide +kernel
theorem dX8_meanHeight_30 : decode cX8_meanHeight 30 = .ok (.i2d, 1) := by decide +kernel
theorem dX8_meanHeight_31 : decode cX8_meanHeight 31 = .ok (.iload_n 1, 1) := by decide +kernel
theorem dX8_meanHeight_32 : decode cX8_meanHeight 32 = .ok (.i2d, 1) := by decide +kernel
theorem dX8_meanHeight_33 : decode cX8_meanHeight 33 = .ok (.ddiv, 1) := by decide +kernel
theorem dX8_meanHeight_34 : decode cX8_meanHeight 34 = .ok (.dreturn, 1) := by decide +kernel
theorem dX8_state_0 : decode cX8_state 0 = .ok (.iload_n 1, 1) := by decide +kernel
theorem dX8_state_1 : decode cX8_state 1 = .ok (.tableswitch 163 0 9 #[55, 63, 74, 85, 96, 107, 118, 129, 137, 155], 55) := by decide +kernel
theorem dX8_state_56 : decode cX8_state 56 = .ok (.aload_n 0, 1) := by decide +kernel
theorem dX8_state_57 : decode cX8_state 57 = .ok (.getfield 10, 3) := by decide +kernel
theorem dX8_state_60 : decode cX8_state 60 = .ok (.getfield 119, 3) := by decide +kernel
theorem dX8_state_63 : decode cX8_state 63 = .ok (.ireturn, 1) := by decide +kernel
theorem dX8_state_64 : decode cX8_state 64 = .ok (.aload_n 0, 1) := by decide +kernel
theorem dX8_state_65 : decode cX8_state 65 = .ok (.getfield 10, 3) := by decide +kernel
theorem dX8_state_68 : decode cX8_state 68 = .ok (.getfield 40, 3) := by decide +kernel
theorem dX8_state_71 : decode cX8_state 71 = .ok (.getfield 44, 3) := by decide +kernel
theorem dX8_state_74 : decode cX8_state 74 = .ok (.ireturn, 1) := by decide +kernel
theorem dX8_state_75 : decode cX8_state 75 = .ok (.aload_n 0, 1) := by decide +kernel
theorem dX8_state_76 : decode cX8_state 76 = .ok (.getfield 10, 3) := by decide +kernel
theorem dX8_state_79 : decode cX8_state 79 = .ok (.getfield 86, 3) := by decide +kernel
theorem dX8_state_82 : decode cX8_state 82 = .ok (.getfield 99, 3) := by decide +kernel
theorem dX8_state_85 : decode cX8_state 85 = .ok (.ireturn, 1) := by decide +kernel
theorem dX8_state_86 : decode cX8_state 86 = .ok (.aload_n 0, 1) := by decide +kernel
theorem dX8_state_87 : decode cX8_state 87 = .ok (.getfield 10, 3) := by decide +kernel
theorem dX8_state_90 : decode cX8_state 90 = .ok (.getfield 76, 3) := by decide +kernel
theorem dX8_state_93 : decode cX8_state 93 = .ok (.getfield 80, 3) := by decide +kernel
theorem dX8_state_96 : decode cX8_state 96 = .ok (.ireturn, 1) := by decide +kernel
theorem dX8_state_97 : decode cX8_state 97 = .ok (.aload_n 0, 1) := by decide +kernel
theorem dX8_state_98 : decode cX8_state 98 = .ok (.getfield 10, 3) := by decide +kernel
theorem dX8_state_101 : decode cX8_state 101 = .ok (.getfield 76, 3) := by decide +kernel
theorem dX8_state_104 : decode cX8_state 104 = .ok (.invokevirtual 162, 3) := by decide +kernel
theorem dX8_state_107 : decode cX8_state 107 = .ok (.ireturn, 1) := by decide +kernel
theorem dX8_state_108 : decode cX8_state 108 = .ok (.aload_n 0, 1) := by decide +kernel
theorem dX8_state_109 : decode cX8_state 109 = .ok (.getfield 10, 3) := by decide +kernel
theorem dX8_state_112 : decode cX8_state 112 = .ok (.getfield 76, 3) := by decide +kernel
theorem dX8_state_115 : decode cX8_state 115 = .ok (.getfield 165, 3) := by decide +kernel
theorem dX8_state_118 : decode cX8_state 118 = .ok (.ireturn, 1) := by decide +kernel
theorem dX8_state_119 : decode cX8_state 119 = .ok (.aload_n 0, 1) := by decide +kernel
theorem dX8_state_120 : decode cX8_state 120 = .ok (.getfield 10, 3) := by decide +kernel
theorem dX8_state_123 : decode cX8_state 123 = .ok (.getfield 76, 3) := by decide +kernel
theorem dX8_state_126 : decode cX8_state 126 = .ok (.getfield 168, 3) := by decide +kernel
theorem dX8_state_129 : decode cX8_state 129 = .ok (.ireturn, 1) := by decide +kernel
theorem dX8_state_130 : decode cX8_state 130 = .ok (.aload_n 0, 1) := by decide +kernel
theorem dX8_state_131 : decode cX8_state 131 = .ok (.getfield 10, 3) := by decide +kernel
theorem dX8_state_134 : decode cX8_state 134 = .ok (.getfield 171, 3) := by decide +kernel
theorem dX8_state_137 : decode cX8_state 137 = .ok (.ireturn, 1) := by decide +kernel
theorem dX8_state_138 : decode cX8_state 138 = .ok (.aload_n 0, 1) := by decide +kernel
theorem dX8_state_139 : decode cX8_state 139 = .ok (.getfield 10, 3) := by decide +kernel
theorem dX8_state_142 : decode cX8_state 142 = .ok (.getfield 86, 3) := by decide +kernel
theorem dX8_state_145 : decode cX8_state 145 = .ok (.aload_n 0, 1) := by decide +kernel
theorem dX8_state_146 : decode cX8_state 146 = .ok (.getfield 10, 3) := by decide +kernel
theorem dX8_state_149 : decode cX8_state 149 = .ok (.getfield 119, 3) := by decide +kernel
theorem dX8_state_152 : decode cX8_state 152 = .ok (.invokevirtual 174, 3) := by decide +kernel
theorem dX8_state_155 : decode cX8_state 155 = .ok (.ireturn, 1) := by decide +kernel
theorem dX8_state_156 : decode cX8_state 156 = .ok (.aload_n 0, 1) := by decide +kernel
theorem dX8_state_157 : decode cX8_state 157 = .ok (.getfield 32, 3) := by decide +kernel
theorem dX8_state_160 : decode cX8_state 160 = .ok (.getfield 178, 3) := by decide +kernel
theorem dX8_state_163 : decode cX8_state 163 = .ok (.ireturn, 1) := by decide +kernel
theorem dX8_state_164 : decode cX8_state 164 = .ok (.iload_n 1, 1) := by decide +kernel
theorem dX8_state_165 : decode cX8_state 165 = .ok (.bipush 10, 2) := by decide +kernel
theorem dX8_state_167 : decode cX8_state 167 = .ok (.bipush 15, 2) := by decide +kernel
theorem dX8_state_169 : decode cX8_state 169 = .ok (.invokestatic 36, 3) := by decide +kernel
theorem dX8_state_172 : decode cX8_state 172 = .ok (.ifCond .eq 21, 3) := by decide +kernel
theorem dX8_state_175 : decode cX8_state 175 = .ok (.aload_n 0, 1) := by decide +kernel
theorem dX8_state_176 : decode cX8_state 176 = .ok (.getfield 10, 3) := by decide +kernel
theorem dX8_state_179 : decode cX8_state 179 = .ok (.getfield 75, 3) := by decide +kernel
theorem dX8_state_182 : decode cX8_state 182 = .ok (.iconst 0, 1) := by decide +kernel
theorem dX8_state_183 : decode cX8_state 183 = .ok (.iload_n 1, 1) := by decide +kernel
theorem dX8_state_184 : decode cX8_state 184 = .ok (.bipush 10, 2) := by decide +kernel
theorem dX8_state_186 : decode cX8_state 186 = .ok (.isub, 1) := by decide +kernel
theorem dX8_state_187 : decode cX8_state 187 = .ok (.invokevirtual 147, 3) := by decide +kernel
theorem dX8_state_190 : decode cX8_state 190 = .ok (.goto 5, 3) := by decide +kernel
theorem dX8_state_193 : decode cX8_state 193 = .ok (.bipush (-2), 2) := by decide +kernel
theorem dX8_state_195 : decode cX8_state 195 = .ok (.ireturn, 1) := by decide +kernel
theorem dX8_ahead_0 : decode cX8_ahead 0 = .ok (.iload_n 1, 1) := by decide +kernel
theorem dX8_ahead_1 : decode cX8_ahead 1 = .ok (.iconst 1, 1) := by decide +kernel
theorem dX8_ahead_2 : decode cX8_ahead 2 = .ok (.sipush 1000, 3) := by decide +kernel
theorem dX8_ahead_5 : decode cX8_ahead 5 = .ok (.invokestatic 36, 3) := by decide +kernel
theorem dX8_ahead_8 : decode cX8_ahead 8 = .ok (.ifCond .eq 12, 3) := by decide +kernel
theorem dX8_ahead_11 : decode cX8_ahead 11 = .ok (.iload_n 3, 1) := by decide +kernel
theorem dX8_ahead_12 : decode cX8_ahead 12 = .ok (.iconst 0, 1) := by decide +kernel
theorem dX8_ahead_13 : decode cX8_ahead 13 = .ok (.iconst 4, 1) := by decide +kernel
theorem dX8_ahead_14 : decode cX8_ahead 14 = .ok (.invokestatic 36, 3) := by decide +kernel
theorem dX8_ahead_17 : decode cX8_ahead 17 = .ok (.ifCond .ne 6, 3) := by decide +kernel
theorem dX8_ahead_20 : decode cX8_ahead 20 = .ok (.bipush (-2), 2) := by decide +kernel
theorem dX8_ahead_22 : decode cX8_ahead 22 = .ok (.ireturn, 1) := by decide +kernel
theorem dX8_ahead_23 : decode cX8_ahead 23 = .ok (.iload_n 3, 1) := by decide +kernel
theorem dX8_ahead_24 : decode cX8_ahead 24 = .ok (.iconst 2, 1) := by decide +kernel
theorem dX8_ahead_25 : decode cX8_ahead 25 = .ok (.if_icmp .gt 14, 3) := by decide +kernel
theorem dX8_ahead_28 : decode cX8_ahead 28 = .ok (.iload_n 2, 1) := by decide +kernel
theorem dX8_ahead_29 : decode cX8_ahead 29 = .ok (.iconst 0, 1) := by decide +kernel
theorem dX8_ahead_30 : decode cX8_ahead 30 = .ok (.iconst 2, 1) := by decide +kernel
theorem dX8_ahead_31 : decode cX8_ahead 31 = .ok (.invokestatic 36, 3) := by decide +kernel
theorem dX8_ahead_34 : decode cX8_ahead 34 = .ok (.ifCond .ne 5, 3) := by decide +kernel
theorem dX8_ahead_37 : decode cX8_ahead 37 = .ok (.iconst (-1), 1) := by decide +kernel
theorem dX8_ahead_38 : decode cX8_ahead 38 = .ok (.ireturn, 1) := by decide +kernel
theorem dX8_ahead_39 : decode cX8_ahead 39 = .ok (.aload_n 0, 1) := by decide +kernel
theorem dX8_ahead_40 : decode cX8_ahead 40 = .ok (.getfield 16, 3) := by decide +kernel
theorem dX8_ahead_43 : decode cX8_ahead 43 = .ok (.aload_n 0, 1) := by decide +kernel
theorem dX8_ahead_44 : decode cX8_ahead 44 = .ok (.getfield 10, 3) := by decide +kernel
theorem dX8_ahead_47 : decode cX8_ahead 47 = .ok (.invokevirtual 181, 3) := by decide +kernel
theorem dX8_ahead_50 : decode cX8_ahead 50 = .ok (.iload_n 3, 1) := by decide +kernel
theorem dX8_ahead_51 : decode cX8_ahead 51 = .ok (.tableswitch 56 0 3 #[29, 36, 43, 50], 29) := by decide +kernel
theorem dX8_ahead_80 : decode cX8_ahead 80 = .ok (.aload_n 0, 1) := by decide +kernel
theorem dX8_ahead_81 : decode cX8_ahead 81 = .ok (.iload_n 1, 1) := by decide +kernel
theorem dX8_ahead_82 : decode cX8_ahead 82 = .ok (.iload_n 2, 1) := by decide +kernel
theorem dX8_ahead_83 : decode cX8_ahead 83 = .ok (.invokevirtual 185, 3) := by decide +kernel
theorem dX8_ahead_86 : decode cX8_ahead 86 = .ok (.ireturn, 1) := by decide +kernel
theorem dX8_ahead_87 : decode cX8_ahead 87 = .ok (.aload_n 0, 1) := by decide +kernel
theorem dX8_ahead_88 : decode cX8_ahead 88 = .ok (.iload_n 1, 1) := by decide +kernel
theorem dX8_ahead_89 : decode cX8_ahead 89 = .ok (.iload_n 2, 1) := by decide +kernel
theorem dX8_ahead_90 : decode cX8_ahead 90 = .ok (.invokevirtual 188, 3) := by decide +kernel
theorem dX8_ahead_93 : decode cX8_ahead 93 = .ok (.ireturn, 1) := by decide +kernel
theorem dX8_ahead_94 : decode cX8_ahead 94 = .ok (.aload_n 0, 1) := by decide +kernel
theorem dX8_ahead_95 : decode cX8_ahead 95 = .ok (.iload_n 1, 1) := by decide +kernel
theorem dX8_ahead_96 : decode cX8_ahead 96 = .ok (.iload_n 2, 1) := by decide +kernel
theorem dX8_ahead_97 : decode cX8_ahead 97 = .ok (.invokevirtual 190, 3) := by decide +kernel
theorem dX8_ahead_100 : decode cX8_ahead 100 = .ok (.ireturn, 1) := by decide +kernel
theorem dX8_ahead_101 : decode cX8_ahead 101 = .ok (.aload_n 0, 1) := by decide +kernel
theorem dX8_ahead_102 : decode cX8_ahead 102 = .ok (.iload_n 1, 1) := by decide +kernel
theorem dX8_ahead_103 : decode cX8_ahead 103 = .ok (.invokevirtual 193, 3) := by decide +kernel
theorem dX8_ahead_106 : decode cX8_ahead 106 = .ok (.ireturn, 1) := by decide +kernel
theorem dX8_ahead_107 : decode cX8_ahead 107 = .ok (.aload_n 0, 1) := by decide +kernel
theorem dX8_ahead_108 : decode cX8_ahead 108 = .ok (.iload_n 1, 1) := by decide +kernel
theorem dX8_ahead_109 : decode cX8_ahead 109 = .ok (.invokevirtual 195, 3) := by decide +kernel
theorem dX8_ahead_112 : decode cX8_ahead 112 = .ok (.ireturn, 1) := by decide +kernel
theorem dX8_delay_0 : decode cX8_delay 0 = .ok (.aload_n 0, 1) := by decide +kernel
theorem dX8_delay_1 : decode cX8_delay 1 = .ok (.getfield 10, 3) := by decide +kernel
theorem dX8_delay_4 : decode cX8_delay 4 = .ok (.getfield 86, 3) := by decide +kernel
theorem dX8_delay_7 : decode cX8_delay 7 = .ok (.iload_n 1, 1) := by decide +kernel
theorem dX8_delay_8 : decode cX8_delay 8 = .ok (.invokevirtual 95, 3) := by decide +kernel
theorem dX8_delay_11 : decode cX8_delay 11 = .ok (.ifCond .ne 5, 3) := by decide +kernel
theorem dX8_delay_14 : decode cX8_delay 14 = .ok (.iconst (-1), 1) := by decide +kernel
theorem dX8_delay_15 : decode cX8_delay 15 = .ok (.ireturn, 1) := by decide +kernel
theorem dX8_delay_16 : decode cX8_delay 16 = .ok (.iload_n 2, 1) := by decide +kernel
theorem dX8_delay_17 : decode cX8_delay 17 = .ok (.iconst 0, 1) := by decide +kernel
theorem dX8_delay_18 : decode cX8_delay 18 = .ok (.bipush 100, 2) := by decide +kernel
theorem dX8_delay_20 : decode cX8_delay 20 = .ok (.invokestatic 36, 3) := by decide +kernel
theorem dX8_delay_23 : decode cX8_delay 23 = .ok (.ifCond .eq 14, 3) := by decide +kernel
theorem dX8_delay_26 : decode cX8_delay 26 = .ok (.iload_n 3, 1) := by decide +kernel
theorem dX8_delay_27 : decode cX8_delay 27 = .ok (.iconst 1, 1) := by decide +kernel
theorem dX8_delay_28 : decode cX8_delay 28 = .ok (.sipush 300, 3) := by decide +kernel
theorem dX8_delay_31 : decode cX8_delay 31 = .ok (.invokestatic 36, 3) := by decide +kernel
theorem dX8_delay_34 : decode cX8_delay 34 = .ok (.ifCond .ne 6, 3) := by decide +kernel
theorem dX8_delay_37 : decode cX8_delay 37 = .ok (.bipush (-2), 2) := by decide +kernel
theorem dX8_delay_39 : decode cX8_delay 39 = .ok (.ireturn, 1) := by decide +kernel
theorem dX8_delay_40 : decode cX8_delay 40 = .ok (.iload_n 2, 1) := by decide +kernel
theorem dX8_delay_41 : decode cX8_delay 41 = .ok (.ldc 85, 2) := by decide +kernel
theorem dX8_delay_43 : decode cX8_delay 43 = .ok (.aload_n 0, 1) := by decide +kernel
theorem dX8_delay_44 : decode cX8_delay 44 = .ok (.getfield 10, 3) := by decide +kernel
theorem dX8_delay_47 : decode cX8_delay 47 = .ok (.getfield 86, 3) := by decide +kernel
theorem dX8_delay_50 : decode cX8_delay 50 = .ok (.getfield 101, 3) := by decide +kernel
theorem dX8_delay_53 : decode cX8_delay 53 = .ok (.iload_n 1, 1) := by decide +kernel
theorem dX8_delay_54 : decode cX8_delay 54 = .ok (.iaload, 1) := by decide +kernel
theorem dX8_delay_55 : decode cX8_delay 55 = .ok (.isub, 1) := by decide +kernel
theorem dX8_delay_56 : decode cX8_delay 56 = .ok (.invokestatic 198, 3) := by decide +kernel
theorem dX8_delay_59 : decode cX8_delay 59 = .ok (.istore 4, 2) := by decide +kernel
theorem dX8_delay_61 : decode cX8_delay 61 = .ok (.iconst 0, 1) := by decide +kernel
theorem dX8_delay_62 : decode cX8_delay 62 = .ok (.istore 5, 2) := by decide +kernel
theorem dX8_delay_64 : decode cX8_delay 64 = .ok (.iload 5, 2) := by decide +kernel
theorem dX8_delay_66 : decode cX8_delay 66 = .ok (.iload 4, 2) := by decide +kernel
theorem dX8_delay_68 : decode cX8_delay 68 = .ok (.if_icmp .gt 45, 3) := by decide +kernel
theorem dX8_delay_71 : decode cX8_delay 71 = .ok (.aload_n 0, 1) := by decide +kernel
theorem dX8_delay_72 : decode cX8_delay 72 = .ok (.getfield 16, 3) := by decide +kernel
theorem dX8_delay_75 : decode cX8_delay 75 = .ok (.aload_n 0, 1) := by decide +kernel
theorem dX8_delay_76 : decode cX8_delay 76 = .ok (.getfield 10, 3) := by decide +kernel
theorem dX8_delay_79 : decode cX8_delay 79 = .ok (.invokevirtual 181, 3) := by decide +kernel
theorem dX8_delay_82 : decode cX8_delay 82 = .ok (.aload_n 0, 1) := by decide +kernel
theorem dX8_delay_83 : decode cX8_delay 83 = .ok (.getfield 16, 3) := by decide +kernel
theorem dX8_delay_86 : decode cX8_delay 86 = .ok (.getfield 86, 3) := by decide +kernel
theorem dX8_delay_89 : decode cX8_delay 89 = .ok (.iload_n 1, 1) := by decide +kernel
theorem dX8_delay_90 : decode cX8_delay 90 = .ok (.iload 5, 2) := by decide +kernel
theorem dX8_delay_92 : decode cX8_delay 92 = .ok (.invokevirtual 105, 3) := by decide +kernel
theorem dX8_delay_95 : decode cX8_delay 95 = .ok (.pop, 1) := by decide +kernel
theorem dX8_delay_96 : decode cX8_delay 96 = .ok (.aload_n 0, 1) := by decide +kernel
theorem dX8_delay_97 : decode cX8_delay 97 = .ok (.iload_n 3, 1) := by decide +kernel
theorem dX8_delay_98 : decode cX8_delay 98 = .ok (.invokevirtual 203, 3) := by decide +kernel
theorem dX8_delay_101 : decode cX8_delay 101 = .ok (.ifCond .eq 6, 3) := by decide +kernel
theorem dX8_delay_104 : decode cX8_delay 104 = .ok (.iload 5, 2) := by decide +kernel
theorem dX8_delay_106 : decode cX8_delay 106 = .ok (.ireturn, 1) := by decide +kernel
theorem dX8_delay_107 : decode cX8_delay 107 = .ok (.iinc 5 1, 3) := by decide +kernel
theorem dX8_delay_110 : decode cX8_delay 110 = .ok (.goto (-46), 3) := by decide +kernel
theorem dX8_delay_113 : decode cX8_delay 113 = .ok (.bipush (-6), 2) := by decide +kernel
theorem dX8_delay_115 : decode cX8_delay 115 = .ok (.ireturn, 1) := by decide +kernel
theorem dX8_safeCut_0 : decode cX8_safeCut 0 = .ok (.iload_n 1, 1) := by decide +kernel
theorem dX8_safeCut_1 : decode cX8_safeCut 1 = .ok (.iconst 1, 1) := by decide +kernel
theorem dX8_safeCut_2 : decode cX8_safeCut 2 = .ok (.bipush 100, 2) := by decide +kernel
theorem dX8_safeCut_4 : decode cX8_safeCut 4 = .ok (.invokestatic 36, 3) := by decide +kernel
theorem dX8_safeCut_7 : decode cX8_safeCut 7 = .ok (.ifCond .ne 6, 3) := by decide +kernel
theorem dX8_safeCut_10 : decode cX8_safeCut 10 = .ok (.bipush (-2), 2) := by decide +kernel
theorem dX8_safeCut_12 : decode cX8_safeCut 12 = .ok (.ireturn, 1) := by decide +kernel
theorem dX8_safeCut_13 : decode cX8_safeCut 13 = .ok (.sipush 1000, 3) := by decide +kernel
theorem dX8_safeCut_16 : decode cX8_safeCut 16 = .ok (.istore_n 2, 1) := by decide +kernel
theorem dX8_safeCut_17 : decode cX8_safeCut 17 = .ok (.iload_n 2, 1) := by decide +kernel
theorem dX8_safeCut_18 : decode cX8_safeCut 18 = .ok (.ifCond .lt 59, 3) := by decide +kernel
theorem dX8_safeCut_21 : decode cX8_safeCut 21 = .ok (.aload_n 0, 1) := by decide +kernel
theorem dX8_safeCut_22 : decode cX8_safeCut 22 = .ok (.getfield 16, 3) := by decide +kernel
theorem dX8_safeCut_25 : decode cX8_safeCut 25 = .ok (.aload_n 0, 1) := by decide +kernel
theorem dX8_safeCut_26 : decode cX8_safeCut 26 = .ok (.getfield 10, 3) := by decide +kernel
theorem dX8_safeCut_29 : decode cX8_safeCut 29 = .ok (.invokevirtual 181, 3) := by decide +kernel
theorem dX8_safeCut_32 : decode cX8_safeCut 32 = .ok (.aload_n 0, 1) := by decide +kernel
theorem dX8_safeCut_33 : decode cX8_safeCut 33 = .ok (.getfield 16, 3) := by decide +kernel
theorem dX8_safeCut_36 : decode cX8_safeCut 36 = .ok (.getfield 75, 3) := by decide +kernel
theorem dX8_safeCut_39 : decode cX8_safeCut 39 = .ok (.iconst 0, 1) := by decide +kernel
theorem dX8_safeCut_40 : decode cX8_safeCut 40 = .ok (.iconst 3, 1) := by decide +kernel
theorem dX8_safeCut_41 : decode cX8_safeCut 41 = .ok (.iload_n 2, 1) := by decide +kernel
theorem dX8_safeCut_42 : decode cX8_safeCut 42 = .ok (.invokevirtual 62, 3) := by decide +kernel
theorem dX8_safeCut_45 : decode cX8_safeCut 45 = .ok (.pop, 1) := by decide +kernel
theorem dX8_safeCut_46 : decode cX8_safeCut 46 = .ok (.aload_n 0, 1) := by decide +kernel
theorem dX8_safeCut_47 : decode cX8_safeCut 47 = .ok (.iload_n 1, 1) := by decide +kernel
theorem dX8_safeCut_48 : decode cX8_safeCut 48 = .ok (.invokevirtual 206, 3) := by decide +kernel
theorem dX8_safeCut_51 : decode cX8_safeCut 51 = .ok (.ifCond .eq 5, 3) := by decide +kernel
theorem dX8_safeCut_54 : decode cX8_safeCut 54 = .ok (.iload_n 2, 1) := by decide +kernel
theorem dX8_safeCut_55 : decode cX8_safeCut 55 = .ok (.ireturn, 1) := by decide +kernel
theorem dX8_safeCut_56 : decode cX8_safeCut 56 = .ok (.iload_n 2, 1) := by decide +kernel
theorem dX8_safeCut_57 : decode cX8_safeCut 57 = .ok (.aload_n 0, 1) := by decide +kernel
theorem dX8_safeCut_58 : decode cX8_safeCut 58 = .ok (.getfield 16, 3) := by decide +kernel
theorem dX8_safeCut_61 : decode cX8_safeCut 61 = .ok (.getfield 40, 3) := by decide +kernel
theorem dX8_safeCut_64 : decode cX8_safeCut 64 = .ok (.getfield 209, 3) := by decide +kernel
theorem dX8_safeCut_67 : decode cX8_safeCut 67 = .ok (.invokestatic 198, 3) := by decide +kernel
theorem dX8_safeCut_70 : decode cX8_safeCut 70 = .ok (.istore_n 2, 1) := by decide +kernel
theorem dX8_safeCut_71 : decode cX8_safeCut 71 = .ok (.iinc 2 (-1), 3) := by decide +kernel
theorem dX8_safeCut_74 : decode cX8_safeCut 74 = .ok (.goto (-57), 3) := by decide +kernel
theorem dX8_safeCut_77 : decode cX8_safeCut 77 = .ok (.bipush (-6), 2) := by decide +kernel
theorem dX8_safeCut_79 : decode cX8_safeCut 79 = .ok (.ireturn, 1) := by decide +kernel
theorem dX8_say_0 : decode cX8_say 0 = .ok (.iload_n 1, 1) := by decide +kernel
theorem dX8_say_1 : decode cX8_say 1 = .ok (.bipush 33, 2) := by decide +kernel
theorem dX8_say_3 : decode cX8_say 3 = .ok (.bipush 126, 2) := by decide +kernel
theorem dX8_say_5 : decode cX8_say 5 = .ok (.invokestatic 36, 3) := by decide +kernel
theorem dX8_say_8 : decode cX8_say 8 = .ok (.ifCond .ne 6, 3) := by decide +kernel
theorem dX8_say_11 : decode cX8_say 11 = .ok (.bipush (-2), 2) := by decide +kernel
theorem dX8_say_13 : decode cX8_say 13 = .ok (.ireturn, 1) := by decide +kernel
theorem dX8_say_14 : decode cX8_say 14 = .ok (.aload_n 0, 1) := by decide +kernel
theorem dX8_say_15 : decode cX8_say 15 = .ok (.getfield 32, 3) := by decide +kernel
theorem dX8_say_18 : decode cX8_say 18 = .ok (.iload_n 1, 1) := by decide +kernel
theorem dX8_say_19 : decode cX8_say 19 = .ok (.i2c, 1) := by decide +kernel
theorem dX8_say_20 : decode cX8_say 20 = .ok (.invokevirtual 212, 3) := by decide +kernel
theorem dX8_say_23 : decode cX8_say 23 = .ok (.ireturn, 1) := by decide +kernel
theorem dX8_wipe_0 : decode cX8_wipe 0 = .ok (.aload_n 0, 1) := by decide +kernel
theorem dX8_wipe_1 : decode cX8_wipe 1 = .ok (.getfield 32, 3) := by decide +kernel
theorem dX8_wipe_4 : decode cX8_wipe 4 = .ok (.getfield 178, 3) := by decide +kernel
theorem dX8_wipe_7 : decode cX8_wipe 7 = .ok (.istore_n 1, 1) := by decide +kernel
theorem dX8_wipe_8 : decode cX8_wipe 8 = .ok (.aload_n 0, 1) := by decide +kernel
theorem dX8_wipe_9 : decode cX8_wipe 9 = .ok (.getfield 32, 3) := by decide +kernel
theorem dX8_wipe_12 : decode cX8_wipe 12 = .ok (.iconst 0, 1) := by decide +kernel
theorem dX8_wipe_13 : decode cX8_wipe 13 = .ok (.putfield 178, 3) := by decide +kernel
theorem dX8_wipe_16 : decode cX8_wipe 16 = .ok (.iload_n 1, 1) := by decide +kernel
theorem dX8_wipe_17 : decode cX8_wipe 17 = .ok (.ireturn, 1) := by decide +kernel
theorem dX8_fault_0 : decode cX8_fault 0 = .ok (.aload_n 0, 1) := by decide +kernel
theorem dX8_fault_1 : decode cX8_fault 1 = .ok (.getfield 32, 3) := by decide +kernel
theorem dX8_fault_4 : decode cX8_fault 4 = .ok (.invokevirtual 216, 3) := by decide +kernel
theorem dX8_fault_7 : decode cX8_fault 7 = .ok (.ireturn, 1) := by decide +kernel
theorem dX8_read_0 : decode cX8_read 0 = .ok (.aload_n 0, 1) := by decide +kernel
theorem dX8_read_1 : decode cX8_read 1 = .ok (.getfield 32, 3) := by decide +kernel
theorem dX8_read_4 : decode cX8_read 4 = .ok (.invokevirtual 216, 3) := by decide +kernel
theorem dX8_read_7 : decode cX8_read 7 = .ok (.bipush (-6), 2) := by decide +kernel
theorem dX8_read_9 : decode cX8_read 9 = .ok (.if_icmp .eq 6, 3) := by decide +kernel
theorem dX8_read_12 : decode cX8_read 12 = .ok (.bipush (-3), 2) := by decide +kernel
theorem dX8_read_14 : decode cX8_read 14 = .ok (.ireturn, 1) := by decide +kernel
theorem dX8_read_15 : decode cX8_read 15 = .ok (.iload_n 1, 1) := by decide +kernel
theorem dX8_read_16 : decode cX8_read 16 = .ok (.iconst 0, 1) := by decide +kernel
theorem dX8_read_17 : decode cX8_read 17 = .ok (.ldc 219, 2) := by decide +kernel
theorem dX8_read_19 : decode cX8_read 19 = .ok (.invokestatic 36, 3) := by decide +kernel
theorem dX8_read_22 : decode cX8_read 22 = .ok (.ifCond .ne 6, 3) := by decide +kernel
theorem dX8_read_25 : decode cX8_read 25 = .ok (.bipush (-2), 2) := by decide +kernel
theorem dX8_read_27 : decode cX8_read 27 = .ok (.ireturn, 1) := by decide +kernel
theorem dX8_read_28 : decode cX8_read 28 = .ok (.aload_n 0, 1) := by decide +kernel
theorem dX8_read_29 : decode cX8_read 29 = .ok (.getfield 32, 3) := by decide +kernel
theorem dX8_read_32 : decode cX8_read 32 = .ok (.getfield 220, 3) := by decide +kernel
theorem dX8_read_35 : decode cX8_read 35 = .ok (.getfield 99, 3) := by decide +kernel
theorem dX8_read_38 : decode cX8_read 38 = .ok (.istore_n 2, 1) := by decide +kernel
theorem dX8_read_39 : decode cX8_read 39 = .ok (.aload_n 0, 1) := by decide +kernel
theorem dX8_read_40 : decode cX8_read 40 = .ok (.getfield 10, 3) := by decide +kernel
theorem dX8_read_43 : decode cX8_read 43 = .ok (.getfield 86, 3) := by decide +kernel
theorem dX8_read_46 : decode cX8_read 46 = .ok (.getfield 99, 3) := by decide +kernel
theorem dX8_read_49 : decode cX8_read 49 = .ok (.iload_n 2, 1) := by decide +kernel
theorem dX8_read_50 : decode cX8_read 50 = .ok (.iadd, 1) := by decide +kernel
theorem dX8_read_51 : decode cX8_read 51 = .ok (.bipush 60, 2) := by decide +kernel
theorem dX8_read_53 : decode cX8_read 53 = .ok (.if_icmp .le 6, 3) := by decide +kernel
theorem dX8_read_56 : decode cX8_read 56 = .ok (.bipush (-4), 2) := by decide +kernel
theorem dX8_read_58 : decode cX8_read 58 = .ok (.ireturn, 1) := by decide +kernel
theorem dX8_read_59 : decode cX8_read 59 = .ok (.iconst 0, 1) := by decide +kernel
theorem dX8_read_60 : decode cX8_read 60 = .ok (.istore_n 3, 1) := by decide +kernel
theorem dX8_read_61 : decode cX8_read 61 = .ok (.iload_n 3, 1) := by decide +kernel
theorem dX8_read_62 : decode cX8_read 62 = .ok (.iload_n 2, 1) := by decide +kernel
theorem dX8_read_63 : decode cX8_read 63 = .ok (.if_icmp .ge 58, 3) := by decide +kernel
theorem dX8_read_66 : decode cX8_read 66 = .ok (.aload_n 0, 1) := by decide +kernel
theorem dX8_read_67 : decode cX8_read 67 = .ok (.getfield 10, 3) := by decide +kernel
theorem dX8_read_70 : decode cX8_read 70 = .ok (.getfield 86, 3) := by decide +kernel
theorem dX8_read_73 : decode cX8_read 73 = .ok (.aload_n 0, 1) := by decide +kernel
theorem dX8_read_74 : decode cX8_read 74 = .ok (.getfield 32, 3) := by decide +kernel
theorem dX8_read_77 : decode cX8_read 77 = .ok (.getfield 220, 3) := by decide +kernel
theorem dX8_read_80 : decode cX8_read 80 = .ok (.getfield 101, 3) := by decide +kernel
theorem dX8_read_83 : decode cX8_read 83 = .ok (.iload_n 3, 1) := by decide +kernel
theorem dX8_read_84 : decode cX8_read 84 = .ok (.iaload, 1) := by decide +kernel
theorem dX8_read_85 : decode cX8_read 85 = .ok (.iload_n 1, 1) := by decide +kernel
theorem dX8_read_86 : decode cX8_read 86 = .ok (.iadd, 1) := by decide +kernel
theorem dX8_read_87 : decode cX8_read 87 = .ok (.aload_n 0, 1) := by decide +kernel
theorem dX8_read_88 : decode cX8_read 88 = .ok (.getfield 32, 3) := by decide +kernel
theorem dX8_read_91 : decode cX8_read 91 = .ok (.getfield 220, 3) := by decide +kernel
theorem dX8_read_94 : decode cX8_read 94 = .ok (.getfield 109, 3) := by decide +kernel
theorem dX8_read_97 : decode cX8_read 97 = .ok (.iload_n 3, 1) := by decide +kernel
theorem dX8_read_98 : decode cX8_read 98 = .ok (.iaload, 1) := by decide +kernel
theorem dX8_read_99 : decode cX8_read 99 = .ok (.aload_n 0, 1) := by decide +kernel
theorem dX8_read_100 : decode cX8_read 100 = .ok (.getfield 32, 3) := by decide +kernel
theorem dX8_read_103 : decode cX8_read 103 = .ok (.getfield 220, 3) := by decide +kernel
theorem dX8_read_106 : decode cX8_read 106 = .ok (.getfield 112, 3) := by decide +kernel
theorem dX8_read_109 : decode cX8_read 109 = .ok (.iload_n 3, 1) := by decide +kernel
theorem dX8_read_110 : decode cX8_read 110 = .ok (.iaload, 1) := by decide +kernel
theorem dX8_read_111 : decode cX8_read 111 = .ok (.invokevirtual 90, 3) := by decide +kernel
theorem dX8_read_114 : decode cX8_read 114 = .ok (.pop, 1) := by decide +kernel
theorem dX8_read_115 : decode cX8_read 115 = .ok (.iinc 3 1, 3) := by decide +kernel
theorem dX8_read_118 : decode cX8_read 118 = .ok (.goto (-57), 3) := by decide +kernel
theorem dX8_read_121 : decode cX8_read 121 = .ok (.aload_n 0, 1) := by decide +kernel
theorem dX8_read_122 : decode cX8_read 122 = .ok (.getfield 32, 3) := by decide +kernel
theorem dX8_read_125 : decode cX8_read 125 = .ok (.iconst 0, 1) := by decide +kernel
theorem dX8_read_126 : decode cX8_read 126 = .ok (.putfield 178, 3) := by decide +kernel
theorem dX8_read_129 : decode cX8_read 129 = .ok (.iload_n 2, 1) := by decide +kernel
theorem dX8_read_130 : decode cX8_read 130 = .ok (.ireturn, 1) := by decide +kernel
theorem dX8_save_0 : decode cX8_save 0 = .ok (.aload_n 0, 1) := by decide +kernel
theorem dX8_save_1 : decode cX8_save 1 = .ok (.iload_n 1, 1) := by decide +kernel
theorem dX8_save_2 : decode cX8_save 2 = .ok (.invokevirtual 223, 3) := by decide +kernel
theorem dX8_save_5 : decode cX8_save 5 = .ok (.astore_n 2, 1) := by decide +kernel
theorem dX8_save_6 : decode cX8_save 6 = .ok (.aload_n 2, 1) := by decide +kernel
theorem dX8_save_7 : decode cX8_save 7 = .ok (.ifnonnull 6, 3) := by decide +kernel
theorem dX8_save_10 : decode cX8_save 10 = .ok (.bipush (-2), 2) := by decide +kernel
theorem dX8_save_12 : decode cX8_save 12 = .ok (.ireturn, 1) := by decide +kernel
theorem dX8_save_13 : decode cX8_save 13 = .ok (.aload_n 2, 1) := by decide +kernel
theorem dX8_save_14 : decode cX8_save 14 = .ok (.getfield 227, 3) := by decide +kernel
theorem dX8_save_17 : decode cX8_save 17 = .ok (.aload_n 0, 1) := by decide +kernel
theorem dX8_save_18 : decode cX8_save 18 = .ok (.getfield 10, 3) := by decide +kernel
theorem dX8_save_21 : decode cX8_save 21 = .ok (.invokevirtual 181, 3) := by decide +kernel
theorem dX8_save_24 : decode cX8_save 24 = .ok (.aload_n 2, 1) := by decide +kernel
theorem dX8_save_25 : decode cX8_save 25 = .ok (.iconst 1, 1) := by decide +kernel
theorem dX8_save_26 : decode cX8_save 26 = .ok (.putfield 230, 3) := by decide +kernel
theorem dX8_save_29 : decode cX8_save 29 = .ok (.aload_n 0, 1) := by decide +kernel
theorem dX8_save_30 : decode cX8_save 30 = .ok (.getfield 10, 3) := by decide +kernel
theorem dX8_save_33 : decode cX8_save 33 = .ok (.getfield 119, 3) := by decide +kernel
theorem dX8_save_36 : decode cX8_save 36 = .ok (.ireturn, 1) := by decide +kernel
theorem dX8_restore_0 : decode cX8_restore 0 = .ok (.aload_n 0, 1) := by decide +kernel
theorem dX8_restore_1 : decode cX8_restore 1 = .ok (.iload_n 1, 1) := by decide +kernel
theorem dX8_restore_2 : decode cX8_restore 2 = .ok (.invokevirtual 223, 3) := by decide +kernel
theorem dX8_restore_5 : decode cX8_restore 5 = .ok (.astore_n 2, 1) := by decide +kernel
theorem dX8_restore_6 : decode cX8_restore 6 = .ok (.aload_n 2, 1) := by decide +kernel
theorem dX8_restore_7 : decode cX8_restore 7 = .ok (.ifnonnull 6, 3) := by decide +kernel
theorem dX8_restore_10 : decode cX8_restore 10 = .ok (.bipush (-2), 2) := by decide +kernel
theorem dX8_restore_12 : decode cX8_restore 12 = .ok (.ireturn, 1) := by decide +kernel
theorem dX8_restore_13 : decode cX8_restore 13 = .ok (.aload_n 2, 1) := by decide +kernel
theorem dX8_restore_14 : decode cX8_restore 14 = .ok (.getfield 230, 3) := by decide +kernel
theorem dX8_restore_17 : decode cX8_restore 17 = .ok (.ifCond .ne 6, 3) := by decide +kernel
theorem dX8_restore_20 : decode cX8_restore 20 = .ok (.bipush (-5), 2) := by decide +kernel
theorem dX8_restore_22 : decode cX8_restore 22 = .ok (.ireturn, 1) := by decide +kernel
theorem dX8_restore_23 : decode cX8_restore 23 = .ok (.aload_n 0, 1) := by decide +kernel
theorem dX8_restore_24 : decode cX8_restore 24 = .ok (.getfield 10, 3) := by decide +kernel
theorem dX8_restore_27 : decode cX8_restore 27 = .ok (.aload_n 2, 1) := by decide +kernel
theorem dX8_restore_28 : decode cX8_restore 28 = .ok (.getfield 227, 3) := by decide +kernel
theorem dX8_restore_31 : decode cX8_restore 31 = .ok (.invokevirtual 181, 3) := by decide +kernel
theorem dX8_restore_34 : decode cX8_restore 34 = .ok (.aload_n 0, 1) := by decide +kernel
theorem dX8_restore_35 : decode cX8_restore 35 = .ok (.getfield 10, 3) := by decide +kernel
theorem dX8_restore_38 : decode cX8_restore 38 = .ok (.getfield 119, 3) := by decide +kernel
theorem dX8_restore_41 : decode cX8_restore 41 = .ok (.ireturn, 1) := by decide +kernel
theorem dX8_slotAt_0 : decode cX8_slotAt 0 = .ok (.iload_n 1, 1) := by decide +kernel
theorem dX8_slotAt_1 : decode cX8_slotAt 1 = .ok (.lookupswitch 37 #[(0, 27), (1, 32)], 27) := by decide +kernel
theorem dX8_slotAt_28 : decode cX8_slotAt 28 = .ok (.aload_n 0, 1) := by decide +kernel
theorem dX8_slotAt_29 : decode cX8_slotAt 29 = .ok (.getfield 22, 3) := by decide +kernel
theorem dX8_slotAt_32 : decode cX8_slotAt 32 = .ok (.areturn, 1) := by decide +kernel
theorem dX8_slotAt_33 : decode cX8_slotAt 33 = .ok (.aload_n 0, 1) := by decide +kernel
theorem dX8_slotAt_34 : decode cX8_slotAt 34 = .ok (.getfield 26, 3) := by decide +kernel
theorem dX8_slotAt_37 : decode cX8_slotAt 37 = .ok (.areturn, 1) := by decide +kernel
theorem dX8_slotAt_38 : decode cX8_slotAt 38 = .ok (.aconst_null, 1) := by decide +kernel
theorem dX8_slotAt_39 : decode cX8_slotAt 39 = .ok (.areturn, 1) := by decide +kernel
theorem dX8_greatestDemand_0 : decode cX8_greatestDemand 0 = .ok (.iconst 0, 1) := by decide +kernel
theorem dX8_greatestDemand_1 : decode cX8_greatestDemand 1 = .ok (.istore_n 3, 1) := by decide +kernel
theorem dX8_greatestDemand_2 : decode cX8_greatestDemand 2 = .ok (.iconst 0, 1) := by decide +kernel
theorem dX8_greatestDemand_3 : decode cX8_greatestDemand 3 = .ok (.istore 4, 2) := by decide +kernel
theorem dX8_greatestDemand_5 : decode cX8_greatestDemand 5 = .ok (.iload 4, 2) := by decide +kernel
theorem dX8_greatestDemand_7 : decode cX8_greatestDemand 7 = .ok (.iload_n 1, 1) := by decide +kernel
theorem dX8_greatestDemand_8 : decode cX8_greatestDemand 8 = .ok (.if_icmp .ge 33, 3) := by decide +kernel
theorem dX8_greatestDemand_11 : decode cX8_greatestDemand 11 = .ok (.aload_n 0, 1) := by decide +kernel
theorem dX8_greatestDemand_12 : decode cX8_greatestDemand 12 = .ok (.getfield 16, 3) := by decide +kernel
theorem dX8_greatestDemand_15 : decode cX8_greatestDemand 15 = .ok (.invokevirtual 123, 3) := by decide +kernel
theorem dX8_greatestDemand_18 : decode cX8_greatestDemand 18 = .ok (.iload_n 3, 1) := by decide +kernel
theorem dX8_greatestDemand_19 : decode cX8_greatestDemand 19 = .ok (.aload_n 0, 1) := by decide +kernel
theorem dX8_greatestDemand_20 : decode cX8_greatestDemand 20 = .ok (.getfield 16, 3) := by decide +kernel
theorem dX8_greatestDemand_23 : decode cX8_greatestDemand 23 = .ok (.getfield 68, 3) := by decide +kernel
theorem dX8_greatestDemand_26 : decode cX8_greatestDemand 26 = .ok (.getfield 151, 3) := by decide +kernel
theorem dX8_greatestDemand_29 : decode cX8_greatestDemand 29 = .ok (.iload_n 2, 1) := by decide +kernel
theorem dX8_greatestDemand_30 : decode cX8_greatestDemand 30 = .ok (.iaload, 1) := by decide +kernel
theorem dX8_greatestDemand_31 : decode cX8_greatestDemand 31 = .ok (.invokestatic 234, 3) := by decide +kernel
theorem dX8_greatestDemand_34 : decode cX8_greatestDemand 34 = .ok (.istore_n 3, 1) := by decide +kernel
theorem dX8_greatestDemand_35 : decode cX8_greatestDemand 35 = .ok (.iinc 4 1, 3) := by decide +kernel
theorem dX8_greatestDemand_38 : decode cX8_greatestDemand 38 = .ok (.goto (-33), 3) := by decide +kernel
theorem dX8_greatestDemand_41 : decode cX8_greatestDemand 41 = .ok (.iload_n 3, 1) := by decide +kernel
theorem dX8_greatestDemand_42 : decode cX8_greatestDemand 42 = .ok (.ireturn, 1) := by decide +kernel
theorem dX8_shortTicks_0 : decode cX8_shortTicks 0 = .ok (.aload_n 0, 1) := by decide +kernel
theorem dX8_shortTicks_1 : decode cX8_shortTicks 1 = .ok (.getfield 16, 3) := by decide +kernel
theorem dX8_shortTicks_4 : decode cX8_shortTicks 4 = .ok (.getfield 68, 3) := by decide +kernel
theorem dX8_shortTicks_7 : decode cX8_shortTicks 7 = .ok (.getfield 154, 3) := by decide +kernel
theorem dX8_shortTicks_10 : decode cX8_shortTicks 10 = .ok (.iload_n 2, 1) := by decide +kernel
theorem dX8_shortTicks_11 : decode cX8_shortTicks 11 = .ok (.iaload, 1) := by decide +kernel
theorem dX8_shortTicks_12 : decode cX8_shortTicks 12 = .ok (.istore_n 3, 1) := by decide +kernel
theorem dX8_shortTicks_13 : decode cX8_shortTicks 13 = .ok (.iconst 0, 1) := by decide +kernel
theorem dX8_shortTicks_14 : decode cX8_shortTicks 14 = .ok (.istore 4, 2) := by decide +kernel
theorem dX8_shortTicks_16 : decode cX8_shortTicks 16 = .ok (.iload 4, 2) := by decide +kernel
theorem dX8_shortTicks_18 : decode cX8_shortTicks 18 = .ok (.iload_n 1, 1) := by decide +kernel
theorem dX8_shortTicks_19 : decode cX8_shortTicks 19 = .ok (.if_icmp .ge 16, 3) := by decide +kernel
theorem dX8_shortTicks_22 : decode cX8_shortTicks 22 = .ok (.aload_n 0, 1) := by decide +kernel
theorem dX8_shortTicks_23 : decode cX8_shortTicks 23 = .ok (.getfield 16, 3) := by decide +kernel
theorem dX8_shortTicks_26 : decode cX8_shortTicks 26 = .ok (.invokevirtual 123, 3) := by decide +kernel
theorem dX8_shortTicks_29 : decode cX8_shortTicks 29 = .ok (.iinc 4 1, 3) := by decide +kernel
theorem dX8_shortTicks_32 : decode cX8_shortTicks 32 = .ok (.goto (-16), 3) := by decide +kernel
theorem dX8_shortTicks_35 : decode cX8_shortTicks 35 = .ok (.aload_n 0, 1) := by decide +kernel
theorem dX8_shortTicks_36 : decode cX8_shortTicks 36 = .ok (.getfield 16, 3) := by decide +kernel
theorem dX8_shortTicks_39 : decode cX8_shortTicks 39 = .ok (.getfield 68, 3) := by decide +kernel
theorem dX8_shortTicks_42 : decode cX8_shortTicks 42 = .ok (.getfield 154, 3) := by decide +kernel
theorem dX8_shortTicks_45 : decode cX8_shortTicks 45 = .ok (.iload_n 2, 1) := by decide +kernel
theorem dX8_shortTicks_46 : decode cX8_shortTicks 46 = .ok (.iaload, 1) := by decide +kernel
theorem dX8_shortTicks_47 : decode cX8_shortTicks 47 = .ok (.iload_n 3, 1) := by decide +kernel
theorem dX8_shortTicks_48 : decode cX8_shortTicks 48 = .ok (.isub, 1) := by decide +kernel
theorem dX8_shortTicks_49 : decode cX8_shortTicks 49 = .ok (.ireturn, 1) := by decide +kernel
theorem dX8_firstShort_0 : decode cX8_firstShort 0 = .ok (.iconst 0, 1) := by decide +kernel
theorem dX8_firstShort_1 : decode cX8_firstShort 1 = .ok (.istore_n 3, 1) := by decide +kernel
theorem dX8_firstShort_2 : decode cX8_firstShort 2 = .ok (.iload_n 3, 1) := by decide +kernel
theorem dX8_firstShort_3 : decode cX8_firstShort 3 = .ok (.iload_n 1, 1) := by decide +kernel
theorem dX8_firstShort_4 : decode cX8_firstShort 4 = .ok (.if_icmp .ge 32, 3) := by decide +kernel
theorem dX8_firstShort_7 : decode cX8_firstShort 7 = .ok (.aload_n 0, 1) := by decide +kernel
theorem dX8_firstShort_8 : decode cX8_firstShort 8 = .ok (.getfield 16, 3) := by decide +kernel
theorem dX8_firstShort_11 : decode cX8_firstShort 11 = .ok (.invokevirtual 123, 3) := by decide +kernel
theorem dX8_firstShort_14 : decode cX8_firstShort 14 = .ok (.aload_n 0, 1) := by decide +kernel
theorem dX8_firstShort_15 : decode cX8_firstShort 15 = .ok (.getfield 16, 3) := by decide +kernel
theorem dX8_firstShort_18 : decode cX8_firstShort 18 = .ok (.getfield 68, 3) := by decide +kernel
theorem dX8_firstShort_21 : decode cX8_firstShort 21 = .ok (.iload_n 2, 1) := by decide +kernel
theorem dX8_firstShort_22 : decode cX8_firstShort 22 = .ok (.invokevirtual 237, 3) := by decide +kernel
theorem dX8_firstShort_25 : decode cX8_firstShort 25 = .ok (.ifCond .eq 5, 3) := by decide +kernel
theorem dX8_firstShort_28 : decode cX8_firstShort 28 = .ok (.iload_n 3, 1) := by decide +kernel
theorem dX8_firstShort_29 : decode cX8_firstShort 29 = .ok (.ireturn, 1) := by decide +kernel
theorem dX8_firstShort_30 : decode cX8_firstShort 30 = .ok (.iinc 3 1, 3) := by decide +kernel
theorem dX8_firstShort_33 : decode cX8_firstShort 33 = .ok (.goto (-31), 3) := by decide +kernel
theorem dX8_firstShort_36 : decode cX8_firstShort 36 = .ok (.bipush (-6), 2) := by decide +kernel
theorem dX8_firstShort_38 : decode cX8_firstShort 38 = .ok (.ireturn, 1) := by decide +kernel
theorem dX8_wetTicks_0 : decode cX8_wetTicks 0 = .ok (.aload_n 0, 1) := by decide +kernel
theorem dX8_wetTicks_1 : decode cX8_wetTicks 1 = .ok (.getfield 16, 3) := by decide +kernel
theorem dX8_wetTicks_4 : decode cX8_wetTicks 4 = .ok (.getfield 171, 3) := by decide +kernel
theorem dX8_wetTicks_7 : decode cX8_wetTicks 7 = .ok (.istore_n 2, 1) := by decide +kernel
theorem dX8_wetTicks_8 : decode cX8_wetTicks 8 = .ok (.iconst 0, 1) := by decide +kernel
theorem dX8_wetTicks_9 : decode cX8_wetTicks 9 = .ok (.istore_n 3, 1) := by decide +kernel
theorem dX8_wetTicks_10 : decode cX8_wetTicks 10 = .ok (.iload_n 3, 1) := by decide +kernel
theorem dX8_wetTicks_11 : decode cX8_wetTicks 11 = .ok (.iload_n 1, 1) := by decide +kernel
theorem dX8_wetTicks_12 : decode cX8_wetTicks 12 = .ok (.if_icmp .ge 16, 3) := by decide +kernel
theorem dX8_wetTicks_15 : decode cX8_wetTicks 15 = .ok (.aload_n 0, 1) := by decide +kernel
theorem dX8_wetTicks_16 : decode cX8_wetTicks 16 = .ok (.getfield 16, 3) := by decide +kernel
theorem dX8_wetTicks_19 : decode cX8_wetTicks 19 = .ok (.invokevirtual 123, 3) := by decide +kernel
theorem dX8_wetTicks_22 : decode cX8_wetTicks 22 = .ok (.iinc 3 1, 3) := by decide +kernel
theorem dX8_wetTicks_25 : decode cX8_wetTicks 25 = .ok (.goto (-15), 3) := by decide +kernel
theorem dX8_wetTicks_28 : decode cX8_wetTicks 28 = .ok (.aload_n 0, 1) := by decide +kernel
theorem dX8_wetTicks_29 : decode cX8_wetTicks 29 = .ok (.getfield 16, 3) := by decide +kernel
theorem dX8_wetTicks_32 : decode cX8_wetTicks 32 = .ok (.getfield 171, 3) := by decide +kernel
theorem dX8_wetTicks_35 : decode cX8_wetTicks 35 = .ok (.iload_n 2, 1) := by decide +kernel
theorem dX8_wetTicks_36 : decode cX8_wetTicks 36 = .ok (.isub, 1) := by decide +kernel
theorem dX8_wetTicks_37 : decode cX8_wetTicks 37 = .ok (.ireturn, 1) := by decide +kernel
theorem dX8_greatestHeight_0 : decode cX8_greatestHeight 0 = .ok (.iconst 0, 1) := by decide +kernel
theorem dX8_greatestHeight_1 : decode cX8_greatestHeight 1 = .ok (.istore_n 2, 1) := by decide +kernel
theorem dX8_greatestHeight_2 : decode cX8_greatestHeight 2 = .ok (.iconst 0, 1) := by decide +kernel
theorem dX8_greatestHeight_3 : decode cX8_greatestHeight 3 = .ok (.istore_n 3, 1) := by decide +kernel
theorem dX8_greatestHeight_4 : decode cX8_greatestHeight 4 = .ok (.iload_n 3, 1) := by decide +kernel
theorem dX8_greatestHeight_5 : decode cX8_greatestHeight 5 = .ok (.iload_n 1, 1) := by decide +kernel
theorem dX8_greatestHeight_6 : decode cX8_greatestHeight 6 = .ok (.if_icmp .ge 31, 3) := by decide +kernel
theorem dX8_greatestHeight_9 : decode cX8_greatestHeight 9 = .ok (.aload_n 0, 1) := by decide +kernel
theorem dX8_greatestHeight_10 : decode cX8_greatestHeight 10 = .ok (.getfield 16, 3) := by decide +kernel
theorem dX8_greatestHeight_13 : decode cX8_greatestHeight 13 = .ok (.invokevirtual 123, 3) := by decide +kernel
theorem dX8_greatestHeight_16 : decode cX8_greatestHeight 16 = .ok (.iload_n 2, 1) := by decide +kernel
theorem dX8_greatestHeight_17 : decode cX8_greatestHeight 17 = .ok (.aload_n 0, 1) := by decide +kernel
theorem dX8_greatestHeight_18 : decode cX8_greatestHeight 18 = .ok (.getfield 16, 3) := by decide +kernel
theorem dX8_greatestHeight_21 : decode cX8_greatestHeight 21 = .ok (.getfield 40, 3) := by decide +kernel
theorem dX8_greatestHeight_24 : decode cX8_greatestHeight 24 = .ok (.invokevirtual 240, 3) := by decide +kernel
theorem dX8_greatestHeight_27 : decode cX8_greatestHeight 27 = .ok (.invokestatic 234, 3) := by decide +kernel
theorem dX8_greatestHeight_30 : decode cX8_greatestHeight 30 = .ok (.istore_n 2, 1) := by decide +kernel
theorem dX8_greatestHeight_31 : decode cX8_greatestHeight 31 = .ok (.iinc 3 1, 3) := by decide +kernel
theorem dX8_greatestHeight_34 : decode cX8_greatestHeight 34 = .ok (.goto (-30), 3) := by decide +kernel
theorem dX8_greatestHeight_37 : decode cX8_greatestHeight 37 = .ok (.iload_n 2, 1) := by decide +kernel
theorem dX8_greatestHeight_38 : decode cX8_greatestHeight 38 = .ok (.ireturn, 1) := by decide +kernel
theorem dX8_staysSupplied_0 : decode cX8_staysSupplied 0 = .ok (.iconst 0, 1) := by decide +kernel
theorem dX8_staysSupplied_1 : decode cX8_staysSupplied 1 = .ok (.istore_n 2, 1) := by decide +kernel
theorem dX8_staysSupplied_2 : decode cX8_staysSupplied 2 = .ok (.iload_n 2, 1) := by decide +kernel
theorem dX8_staysSupplied_3 : decode cX8_staysSupplied 3 = .ok (.iload_n 1, 1) := by decide +kernel
theorem dX8_staysSupplied_4 : decode cX8_staysSupplied 4 = .ok (.if_icmp .ge 31, 3) := by decide +kernel
theorem dX8_staysSupplied_7 : decode cX8_staysSupplied 7 = .ok (.aload_n 0, 1) := by decide +kernel
theorem dX8_staysSupplied_8 : decode cX8_staysSupplied 8 = .ok (.getfield 16, 3) := by decide +kernel
theorem dX8_staysSupplied_11 : decode cX8_staysSupplied 11 = .ok (.invokevirtual 123, 3) := by decide +kernel
theorem dX8_staysSupplied_14 : decode cX8_staysSupplied 14 = .ok (.aload_n 0, 1) := by decide +kernel
theorem dX8_staysSupplied_15 : decode cX8_staysSupplied 15 = .ok (.getfield 16, 3) := by decide +kernel
theorem dX8_staysSupplied_18 : decode cX8_staysSupplied 18 = .ok (.getfield 68, 3) := by decide +kernel
theorem dX8_staysSupplied_21 : decode cX8_staysSupplied 21 = .ok (.invokevirtual 243, 3) := by decide +kernel
theorem dX8_staysSupplied_24 : decode cX8_staysSupplied 24 = .ok (.ifCond .eq 5, 3) := by decide +kernel
theorem dX8_staysSupplied_27 : decode cX8_staysSupplied 27 = .ok (.iconst 0, 1) := by decide +kernel
theorem dX8_staysSupplied_28 : decode cX8_staysSupplied 28 = .ok (.ireturn, 1) := by decide +kernel
theorem dX8_staysSupplied_29 : decode cX8_staysSupplied 29 = .ok (.iinc 2 1, 3) := by decide +kernel
theorem dX8_staysSupplied_32 : decode cX8_staysSupplied 32 = .ok (.goto (-30), 3) := by decide +kernel
theorem dX8_staysSupplied_35 : decode cX8_staysSupplied 35 = .ok (.iconst 1, 1) := by decide +kernel
theorem dX8_staysSupplied_36 : decode cX8_staysSupplied 36 = .ok (.ireturn, 1) := by decide +kernel
theorem dX8_staysDry_0 : decode cX8_staysDry 0 = .ok (.aload_n 0, 1) := by decide +kernel
theorem dX8_staysDry_1 : decode cX8_staysDry 1 = .ok (.getfield 16, 3) := by decide +kernel
theorem dX8_staysDry_4 : decode cX8_staysDry 4 = .ok (.getfield 171, 3) := by decide +kernel
theorem dX8_staysDry_7 : decode cX8_staysDry 7 = .ok (.istore_n 2, 1) := by decide +kernel
theorem dX8_staysDry_8 : decode cX8_staysDry 8 = .ok (.aload_n 0, 1) := by decide +kernel
theorem dX8_staysDry_9 : decode cX8_staysDry 9 = .ok (.getfield 16, 3) := by decide +kernel
theorem dX8_staysDry_12 : decode cX8_staysDry 12 = .ok (.getfield 40, 3) := by decide +kernel
theorem dX8_staysDry_15 : decode cX8_staysDry 15 = .ok (.iconst 0, 1) := by decide +kernel
theorem dX8_staysDry_16 : decode cX8_staysDry 16 = .ok (.putfield 209, 3) := by decide +kernel
theorem dX8_staysDry_19 : decode cX8_staysDry 19 = .ok (.iconst 0, 1) := by decide +kernel
theorem dX8_staysDry_20 : decode cX8_staysDry 20 = .ok (.istore_n 3, 1) := by decide +kernel
theorem dX8_staysDry_21 : decode cX8_staysDry 21 = .ok (.iload_n 3, 1) := by decide +kernel
theorem dX8_staysDry_22 : decode cX8_staysDry 22 = .ok (.iload_n 1, 1) := by decide +kernel
theorem dX8_staysDry_23 : decode cX8_staysDry 23 = .ok (.if_icmp .ge 29, 3) := by decide +kernel
theorem dX8_staysDry_26 : decode cX8_staysDry 26 = .ok (.aload_n 0, 1) := by decide +kernel
theorem dX8_staysDry_27 : decode cX8_staysDry 27 = .ok (.getfield 16, 3) := by decide +kernel
theorem dX8_staysDry_30 : decode cX8_staysDry 30 = .ok (.invokevirtual 123, 3) := by decide +kernel
theorem dX8_staysDry_33 : decode cX8_staysDry 33 = .ok (.aload_n 0, 1) := by decide +kernel
theorem dX8_staysDry_34 : decode cX8_staysDry 34 = .ok (.getfield 16, 3) := by decide +kernel
theorem dX8_staysDry_37 : decode cX8_staysDry 37 = .ok (.getfield 171, 3) := by decide +kernel
theorem dX8_staysDry_40 : decode cX8_staysDry 40 = .ok (.iload_n 2, 1) := by decide +kernel
theorem dX8_staysDry_41 : decode cX8_staysDry 41 = .ok (.if_icmp .le 5, 3) := by decide +kernel
theorem dX8_staysDry_44 : decode cX8_staysDry 44 = .ok (.iconst 0, 1) := by decide +kernel
theorem dX8_staysDry_45 : decode cX8_staysDry 45 = .ok (.ireturn, 1) := by decide +kernel
theorem dX8_staysDry_46 : decode cX8_staysDry 46 = .ok (.iinc 3 1, 3) := by decide +kernel
theorem dX8_staysDry_49 : decode cX8_staysDry 49 = .ok (.goto (-28), 3) := by decide +kernel
theorem dX8_staysDry_52 : decode cX8_staysDry 52 = .ok (.iconst 1, 1) := by decide +kernel
theorem dX8_staysDry_53 : decode cX8_staysDry 53 = .ok (.ireturn, 1) := by decide +kernel
theorem dX8_within_0 : decode cX8_within 0 = .ok (.iload_n 0, 1) := by decide +kernel
theorem dX8_within_1 : decode cX8_within 1 = .ok (.iload_n 1, 1) := by decide +kernel
theorem dX8_within_2 : decode cX8_within 2 = .ok (.if_icmp .lt 12, 3) := by decide +kernel
theorem dX8_within_5 : decode cX8_within 5 = .ok (.iload_n 0, 1) := by decide +kernel
theorem dX8_within_6 : decode cX8_within 6 = .ok (.iload_n 2, 1) := by decide +kernel
theorem dX8_within_7 : decode cX8_within 7 = .ok (.if_icmp .gt 7, 3) := by decide +kernel
theorem dX8_within_10 : decode cX8_within 10 = .ok (.iconst 1, 1) := by decide +kernel
theorem dX8_within_11 : decode cX8_within 11 = .ok (.goto 4, 3) := by decide +kernel
theorem dX8_within_14 : decode cX8_within 14 = .ok (.iconst 0, 1) := by decide +kernel
theorem dX8_within_15 : decode cX8_within 15 = .ok (.ireturn, 1) := by decide +kernel
theorem dX8_quotient_0 : decode cX8_quotient 0 = .ok (.lload_n 2, 1) := by decide +kernel
theorem dX8_quotient_1 : decode cX8_quotient 1 = .ok (.lconst 1, 1) := by decide +kernel
theorem dX8_quotient_2 : decode cX8_quotient 2 = .ok (.lcmp, 1) := by decide +kernel
theorem dX8_quotient_3 : decode cX8_quotient 3 = .ok (.ifCond .ge 7, 3) := by decide +kernel
theorem dX8_quotient_6 : decode cX8_quotient 6 = .ok (.lconst 0, 1) := by decide +kernel
theorem dX8_quotient_7 : decode cX8_quotient 7 = .ok (.goto 8, 3) := by decide +kernel
theorem dX8_quotient_10 : decode cX8_quotient 10 = .ok (.lload_n 0, 1) := by decide +kernel
theorem dX8_quotient_11 : decode cX8_quotient 11 = .ok (.lload_n 2, 1) := by decide +kernel
theorem dX8_quotient_12 : decode cX8_quotient 12 = .ok (.invokestatic 247, 3) := by decide +kernel
theorem dX8_quotient_15 : decode cX8_quotient 15 = .ok (.lreturn, 1) := by decide +kernel
theorem dX8_toward_0 : decode cX8_toward 0 = .ok (.iload_n 0, 1) := by decide +kernel
theorem dX8_toward_1 : decode cX8_toward 1 = .ok (.iload_n 1, 1) := by decide +kernel
theorem dX8_toward_2 : decode cX8_toward 2 = .ok (.if_icmp .ge 13, 3) := by decide +kernel
theorem dX8_toward_5 : decode cX8_toward 5 = .ok (.iload_n 1, 1) := by decide +kernel
theorem dX8_toward_6 : decode cX8_toward 6 = .ok (.iload_n 0, 1) := by decide +kernel
theorem dX8_toward_7 : decode cX8_toward 7 = .ok (.iload_n 2, 1) := by decide +kernel
theorem dX8_toward_8 : decode cX8_toward 8 = .ok (.iadd, 1) := by decide +kernel
theorem dX8_toward_9 : decode cX8_toward 9 = .ok (.invokestatic 198, 3) := by decide +kernel
theorem dX8_toward_12 : decode cX8_toward 12 = .ok (.goto 10, 3) := by decide +kernel
theorem dX8_toward_15 : decode cX8_toward 15 = .ok (.iload_n 1, 1) := by decide +kernel
theorem dX8_toward_16 : decode cX8_toward 16 = .ok (.iload_n 0, 1) := by decide +kernel
theorem dX8_toward_17 : decode cX8_toward 17 = .ok (.iload_n 2, 1) := by decide +kernel
theorem dX8_toward_18 : decode cX8_toward 18 = .ok (.isub, 1) := by decide +kernel
theorem dX8_toward_19 : decode cX8_toward 19 = .ok (.invokestatic 234, 3) := by decide +kernel
theorem dX8_toward_22 : decode cX8_toward 22 = .ok (.ireturn, 1) := by decide +kernel
theorem dX8_copyRow_0 : decode cX8_copyRow 0 = .ok (.aload_n 0, 1) := by decide +kernel
theorem dX8_copyRow_1 : decode cX8_copyRow 1 = .ok (.iconst 0, 1) := by decide +kernel
theorem dX8_copyRow_2 : decode cX8_copyRow 2 = .ok (.aload_n 1, 1) := by decide +kernel
theorem dX8_copyRow_3 : decode cX8_copyRow 3 = .ok (.iconst 0, 1) := by decide +kernel
theorem dX8_copyRow_4 : decode cX8_copyRow 4 = .ok (.aload_n 0, 1) := by decide +kernel
theorem dX8_copyRow_5 : decode cX8_copyRow 5 = .ok (.arraylength, 1) := by decide +kernel
theorem dX8_copyRow_6 : decode cX8_copyRow 6 = .ok (.aload_n 1, 1) := by decide +kernel
theorem dX8_copyRow_7 : decode cX8_copyRow 7 = .ok (.arraylength, 1) := by decide +kernel
theorem dX8_copyRow_8 : decode cX8_copyRow 8 = .ok (.invokestatic 198, 3) := by decide +kernel
theorem dX8_copyRow_11 : decode cX8_copyRow 11 = .ok (.invokestatic 251, 3) := by decide +kernel
theorem dX8_copyRow_14 : decode cX8_copyRow 14 = .ok (.return_, 1) := by decide +kernel
theorem dX8_clear_0 : decode cX8_clear 0 = .ok (.iconst 0, 1) := by decide +kernel
theorem dX8_clear_1 : decode cX8_clear 1 = .ok (.istore_n 1, 1) := by decide +kernel
theorem dX8_clear_2 : decode cX8_clear 2 = .ok (.iload_n 1, 1) := by decide +kernel
theorem dX8_clear_3 : decode cX8_clear 3 = .ok (.aload_n 0, 1) := by decide +kernel
theorem dX8_clear_4 : decode cX8_clear 4 = .ok (.arraylength, 1) := by decide +kernel
theorem dX8_clear_5 : decode cX8_clear 5 = .ok (.if_icmp .ge 13, 3) := by decide +kernel
theorem dX8_clear_8 : decode cX8_clear 8 = .ok (.aload_n 0, 1) := by decide +kernel
theorem dX8_clear_9 : decode cX8_clear 9 = .ok (.iload_n 1, 1) := by decide +kernel
theorem dX8_clear_10 : decode cX8_clear 10 = .ok (.iconst 0, 1) := by decide +kernel
theorem dX8_clear_11 : decode cX8_clear 11 = .ok (.iastore, 1) := by decide +kernel
theorem dX8_clear_12 : decode cX8_clear 12 = .ok (.iinc 1 1, 3) := by decide +kernel
theorem dX8_clear_15 : decode cX8_clear 15 = .ok (.goto (-13), 3) := by decide +kernel
theorem dX8_clear_18 : decode cX8_clear 18 = .ok (.return_, 1) := by decide +kernel
theorem dX9_init_0 : decode cX9_init 0 = .ok (.aload_n 0, 1) := by decide +kernel
theorem dX9_init_1 : decode cX9_init 1 = .ok (.invokespecial 1, 3) := by decide +kernel
theorem dX9_init_4 : decode cX9_init 4 = .ok (.aload_n 0, 1) := by decide +kernel
theorem dX9_init_5 : decode cX9_init 5 = .ok (.sipush 1121, 3) := by decide +kernel
theorem dX9_init_8 : decode cX9_init 8 = .ok (.newarray .int, 2) := by decide +kernel
theorem dX9_init_10 : decode cX9_init 10 = .ok (.putfield 7, 3) := by decide +kernel
theorem dX9_init_13 : decode cX9_init 13 = .ok (.aload_n 0, 1) := by decide +kernel
theorem dX9_init_14 : decode cX9_init 14 = .ok (.sipush 1121, 3) := by decide +kernel
theorem dX9_init_17 : decode cX9_init 17 = .ok (.newarray .int, 2) := by decide +kernel
theorem dX9_init_19 : decode cX9_init 19 = .ok (.putfield 13, 3) := by decide +kernel
theorem dX9_init_22 : decode cX9_init 22 = .ok (.aload_n 0, 1) := by decide +kernel
theorem dX9_init_23 : decode cX9_init 23 = .ok (.sipush 2242, 3) := by decide +kernel
theorem dX9_init_26 : decode cX9_init 26 = .ok (.newarray .int, 2) := by decide +kernel
theorem dX9_init_28 : decode cX9_init 28 = .ok (.putfield 16, 3) := by decide +kernel
theorem dX9_init_31 : decode cX9_init 31 = .ok (.aload_n 0, 1) := by decide +kernel
theorem dX9_init_32 : decode cX9_init 32 = .ok (.iconst 2, 1) := by decide +kernel
theorem dX9_init_33 : decode cX9_init 33 = .ok (.newarray .boolean, 2) := by decide +kernel
theorem dX9_init_35 : decode cX9_init 35 = .ok (.putfield 19, 3) := by decide +kernel
theorem dX9_init_38 : decode cX9_init 38 = .ok (.aload_n 0, 1) := by decide +kernel
theorem dX9_init_39 : decode cX9_init 39 = .ok (.bipush 80, 2) := by decide +kernel
theorem dX9_init_41 : decode cX9_init 41 = .ok (.newarray .int, 2) := by decide +kernel
theorem dX9_init_43 : decode cX9_init 43 = .ok (.putfield 23, 3) := by decide +kernel
theorem dX9_init_46 : decode cX9_init 46 = .ok (.aload_n 0, 1) := by decide +kernel
theorem dX9_init_47 : decode cX9_init 47 = .ok (.bipush 60, 2) := by decide +kernel
theorem dX9_init_49 : decode cX9_init 49 = .ok (.newarray .int, 2) := by decide +kernel
theorem dX9_init_51 : decode cX9_init 51 = .ok (.putfield 26, 3) := by decide +kernel
theorem dX9_init_54 : decode cX9_init 54 = .ok (.aload_n 0, 1) := by decide +kernel
theorem dX9_init_55 : decode cX9_init 55 = .ok (.iconst 4, 1) := by decide +kernel
theorem dX9_init_56 : decode cX9_init 56 = .ok (.invokevirtual 29, 3) := by decide +kernel
theorem dX9_init_59 : decode cX9_init 59 = .ok (.return_, 1) := by decide +kernel
theorem dX9_in_0 : decode cX9_in 0 = .ok (.iload_n 0, 1) := by decide +kernel
theorem dX9_in_1 : decode cX9_in 1 = .ok (.iload_n 1, 1) := by decide +kernel
theorem dX9_in_2 : decode cX9_in 2 = .ok (.if_icmp .lt 12, 3) := by decide +kernel
theorem dX9_in_5 : decode cX9_in 5 = .ok (.iload_n 0, 1) := by decide +kernel
theorem dX9_in_6 : decode cX9_in 6 = .ok (.iload_n 2, 1) := by decide +kernel
theorem dX9_in_7 : decode cX9_in 7 = .ok (.if_icmp .gt 7, 3) := by decide +kernel
theorem dX9_in_10 : decode cX9_in 10 = .ok (.iconst 1, 1) := by decide +kernel
theorem dX9_in_11 : decode cX9_in 11 = .ok (.goto 4, 3) := by decide +kernel
theorem dX9_in_14 : decode cX9_in 14 = .ok (.iconst 0, 1) := by decide +kernel
theorem dX9_in_15 : decode cX9_in 15 = .ok (.ireturn, 1) := by decide +kernel
theorem dX9_begin_0 : decode cX9_begin 0 = .ok (.iconst 0, 1) := by decide +kernel
theorem dX9_begin_1 : decode cX9_begin 1 = .ok (.istore_n 2, 1) := by decide +kernel
theorem dX9_begin_2 : decode cX9_begin 2 = .ok (.iload_n 2, 1) := by decide +kernel
theorem dX9_begin_3 : decode cX9_begin 3 = .ok (.sipush 1121, 3) := by decide +kernel
theorem dX9_begin_6 : decode cX9_begin 6 = .ok (.if_icmp .ge 16, 3) := by decide +kernel
theorem dX9_begin_9 : decode cX9_begin 9 = .ok (.aload_n 0, 1) := by decide +kernel
theorem dX9_begin_10 : decode cX9_begin 10 = .ok (.getfield 7, 3) := by decide +kernel
theorem dX9_begin_13 : decode cX9_begin 13 = .ok (.iload_n 2, 1) := by decide +kernel
theorem dX9_begin_14 : decode cX9_begin 14 = .ok (.iconst 0, 1) := by decide +kernel
theorem dX9_begin_15 : decode cX9_begin 15 = .ok (.iastore, 1) := by decide +kernel
theorem dX9_begin_16 : decode cX9_begin 16 = .ok (.iinc 2 1, 3) := by decide +kernel
theorem dX9_begin_19 : decode cX9_begin 19 = .ok (.goto (-17), 3) := by decide +kernel
theorem dX9_begin_22 : decode cX9_begin 22 = .ok (.iconst 0, 1) := by decide +kernel
theorem dX9_begin_23 : decode cX9_begin 23 = .ok (.istore_n 2, 1) := by decide +kernel
theorem dX9_begin_24 : decode cX9_begin 24 = .ok (.iload_n 2, 1) := by decide +kernel
theorem dX9_begin_25 : decode cX9_begin 25 = .ok (.bipush 12, 2) := by decide +kernel
theorem dX9_begin_27 : decode cX9_begin 27 = .ok (.if_icmp .ge 75, 3) := by decide +kernel
theorem dX9_begin_30 : decode cX9_begin 30 = .ok (.aload_n 0, 1) := by decide +kernel
theorem dX9_begin_31 : decode cX9_begin 31 = .ok (.getfield 7, 3) := by decide +kernel
theorem dX9_begin_34 : decode cX9_begin 34 = .ok (.bipush 12, 2) := by decide +kernel
theorem dX9_begin_36 : decode cX9_begin 36 = .ok (.iload_n 2, 1) := by decide +kernel
theorem dX9_begin_37 : decode cX9_begin 37 = .ok (.imul, 1) := by decide +kernel
theorem dX9_begin_38 : decode cX9_begin 38 = .ok (.iconst 0, 1) := by decide +kernel
theorem dX9_begin_39 : decode cX9_begin 39 = .ok (.iadd, 1) := by decide +kernel
theorem dX9_begin_40 : decode cX9_begin 40 = .ok (.bipush 10, 2) := by decide +kernel
theorem dX9_begin_42 : decode cX9_begin 42 = .ok (.iastore, 1) := by decide +kernel
theorem dX9_begin_43 : decode cX9_begin 43 = .ok (.aload_n 0, 1) := by decide +kernel
theorem dX9_begin_44 : decode cX9_begin 44 = .ok (.getfield 7, 3) := by decide +kernel
theorem dX9_begin_47 : decode cX9_begin 47 = .ok (.bipush 12, 2) := by decide +kernel
theorem dX9_begin_49 : decode cX9_begin 49 = .ok (.iload_n 2, 1) := by decide +kernel
theorem dX9_begin_50 : decode cX9_begin 50 = .ok (.imul, 1) := by decide +kernel
theorem dX9_begin_51 : decode cX9_begin 51 = .ok (.iconst 1, 1) := by decide +kernel
theorem dX9_begin_52 : decode cX9_begin 52 = .ok (.iadd, 1) := by decide +kernel
theorem dX9_begin_53 : decode cX9_begin 53 = .ok (.sipush 1000, 3) := by decide +kernel
theorem dX9_begin_56 : decode cX9_begin 56 = .ok (.iastore, 1) := by decide +kernel
theorem dX9_begin_57 : decode cX9_begin 57 = .ok (.aload_n 0, 1) := by decide +kernel
theorem dX9_begin_58 : decode cX9_begin 58 = .ok (.getfield 7, 3) := by decide +kernel
theorem dX9_begin_61 : decode cX9_begin 61 = .ok (.bipush 12, 2) := by decide +kernel
theorem dX9_begin_63 : decode cX9_begin 63 = .ok (.iload_n 2, 1) := by decide +kernel
theorem dX9_begin_64 : decode cX9_begin 64 = .ok (.imul, 1) := by decide +kernel
theorem dX9_begin_65 : decode cX9_begin 65 = .ok (.iconst 2, 1) := by decide +kernel
theorem dX9_begin_66 : decode cX9_begin 66 = .ok (.iadd, 1) := by decide +kernel
theorem dX9_begin_67 : decode cX9_begin 67 = .ok (.iconst 3, 1) := by decide +kernel
theorem dX9_begin_68 : decode cX9_begin 68 = .ok (.iastore, 1) := by decide +kernel
theorem dX9_begin_69 : decode cX9_begin 69 = .ok (.aload_n 0, 1) := by decide +kernel
theorem dX9_begin_70 : decode cX9_begin 70 = .ok (.getfield 7, 3) := by decide +kernel
theorem dX9_begin_73 : decode cX9_begin 73 = .ok (.bipush 12, 2) := by decide +kernel
theorem dX9_begin_75 : decode cX9_begin 75 = .ok (.iload_n 2, 1) := by decide +kernel
theorem dX9_begin_76 : decode cX9_begin 76 = .ok (.imul, 1) := by decide +kernel
theorem dX9_begin_77 : decode cX9_begin 77 = .ok (.iconst 3, 1) := by decide +kernel
theorem dX9_begin_78 : decode cX9_begin 78 = .ok (.iadd, 1) := by decide +kernel
theorem dX9_begin_79 : decode cX9_begin 79 = .ok (.sipush 200, 3) := by decide +kernel
theorem dX9_begin_82 : decode cX9_begin 82 = .ok (.iastore, 1) := by decide +kernel
theorem dX9_begin_83 : decode cX9_begin 83 = .ok (.aload_n 0, 1) := by decide +kernel
theorem dX9_begin_84 : decode cX9_begin 84 = .ok (.getfield 7, 3) := by decide +kernel
theorem dX9_begin_87 : decode cX9_begin 87 = .ok (.bipush 12, 2) := by decide +kernel
theorem dX9_begin_89 : decode cX9_begin 89 = .ok (.iload_n 2, 1) := by decide +kernel
theorem dX9_begin_90 : decode cX9_begin 90 = .ok (.imul, 1) := by decide +kernel
theorem dX9_begin_91 : decode cX9_begin 91 = .ok (.iconst 5, 1) := by decide +kernel
theorem dX9_begin_92 : decode cX9_begin 92 = .ok (.iadd, 1) := by decide +kernel
theorem dX9_begin_93 : decode cX9_begin 93 = .ok (.bipush 10, 2) := by decide +kernel
theorem dX9_begin_95 : decode cX9_begin 95 = .ok (.iastore, 1) := by decide +kernel
theorem dX9_begin_96 : decode cX9_begin 96 = .ok (.iinc 2 1, 3) := by decide +kernel
theorem dX9_begin_99 : decode cX9_begin 99 = .ok (.goto (-75), 3) := by decide +kernel
theorem dX9_begin_102 : decode cX9_begin 102 = .ok (.iconst 0, 1) := by decide +kernel
theorem dX9_begin_103 : decode cX9_begin 103 = .ok (.istore_n 2, 1) := by decide +kernel
theorem dX9_begin_104 : decode cX9_begin 104 = .ok (.iload_n 2, 1) := by decide +kernel
theorem dX9_begin_105 : decode cX9_begin 105 = .ok (.iconst 3, 1) := by decide +kernel
theorem dX9_begin_106 : decode cX9_begin 106 = .ok (.if_icmp .ge 41, 3) := by decide +kernel
theorem dX9_begin_109 : decode cX9_begin 109 = .ok (.aload_n 0, 1) := by decide +kernel
theorem dX9_begin_110 : decode cX9_begin 110 = .ok (.getfield 7, 3) := by decide +kernel
theorem dX9_begin_113 : decode cX9_begin 113 = .ok (.sipush 912, 3) := by decide +kernel
theorem dX9_begin_116 : decode cX9_begin 116 = .ok (.iconst 5, 1) := by decide +kernel
theorem dX9_begin_117 : decode cX9_begin 117 = .ok (.iload_n 2, 1) := by decide +kernel
theorem dX9_begin_118 : decode cX9_begin 118 = .ok (.imul, 1) := by decide +kernel
theorem dX9_begin_119 : decode cX9_begin 119 = .ok (.iadd, 1) := by decide +kernel
theorem dX9_begin_120 : decode cX9_begin 120 = .ok (.iconst 0, 1) := by decide +kernel
theorem dX9_begin_121 : decode cX9_begin 121 = .ok (.iadd, 1) := by decide +kernel
theorem dX9_begin_122 : decode cX9_begin 122 = .ok (.bipush 100, 2) := by decide +kernel
theorem dX9_begin_124 : decode cX9_begin 124 = .ok (.iastore, 1) := by decide +kernel
theorem dX9_begin_125 : decode cX9_begin 125 = .ok (.aload_n 0, 1) := by decide +kernel
theorem dX9_begin_126 : decode cX9_begin 126 = .ok (.getfield 7, 3) := by decide +kernel
theorem dX9_begin_129 : decode cX9_begin 129 = .ok (.sipush 912, 3) := by decide +kernel
theorem dX9_begin_132 : decode cX9_begin 132 = .ok (.iconst 5, 1) := by decide +kernel
theorem dX9_begin_133 : decode cX9_begin 133 = .ok (.iload_n 2, 1) := by decide +kernel
theorem dX9_begin_134 : decode cX9_begin 134 = .ok (.imul, 1) := by decide +kernel
theorem dX9_begin_135 : decode cX9_begin 135 = .ok (.iadd, 1) := by decide +kernel
theorem dX9_begin_136 : decode cX9_begin 136 = .ok (.iconst 1, 1) := by decide +kernel
theorem dX9_begin_137 : decode cX9_begin 137 = .ok (.iadd, 1) := by decide +kernel
theorem dX9_begin_138 : decode cX9_begin 138 = .ok (.bipush 20, 2) := by decide +kernel
theorem dX9_begin_140 : decode cX9_begin 140 = .ok (.iastore, 1) := by decide +kernel
theorem dX9_begin_141 : decode cX9_begin 141 = .ok (.iinc 2 1, 3) := by decide +kernel
theorem dX9_begin_144 : decode cX9_begin 144 = .ok (.goto (-40), 3) := by decide +kernel
theorem dX9_begin_147 : decode cX9_begin 147 = .ok (.aload_n 0, 1) := by decide +kernel
theorem dX9_begin_148 : decode cX9_begin 148 = .ok (.getfield 7, 3) := by decide +kernel
theorem dX9_begin_151 : decode cX9_begin 151 = .ok (.sipush 927, 3) := by decide +kernel
theorem dX9_begin_154 : decode cX9_begin 154 = .ok (.iconst 4, 1) := by decide +kernel
theorem dX9_begin_155 : decode cX9_begin 155 = .ok (.iastore, 1) := by decide +kernel
theorem dX9_begin_156 : decode cX9_begin 156 = .ok (.aload_n 0, 1) := by decide +kernel
theorem dX9_begin_157 : decode cX9_begin 157 = .ok (.getfield 7, 3) := by decide +kernel
theorem dX9_begin_160 : decode cX9_begin 160 = .ok (.sipush 928, 3) := by decide +kernel
theorem dX9_begin_163 : decode cX9_begin 163 = .ok (.bipush 80, 2) := by decide +kernel
theorem dX9_begin_165 : decode cX9_begin 165 = .ok (.iastore, 1) := by decide +kernel
theorem dX9_begin_166 : decode cX9_begin 166 = .ok (.aload_n 0, 1) := by decide +kernel
theorem dX9_begin_167 : decode cX9_begin 167 = .ok (.getfield 7, 3) := by decide +kernel
theorem dX9_begin_170 : decode cX9_begin 170 = .ok (.sipush 929, 3) := by decide +kernel
theorem dX9_begin_173 : decode cX9_begin 173 = .ok (.sipush 150, 3) := by decide +kernel
theorem dX9_begin_176 : decode cX9_begin 176 = .ok (.iastore, 1) := by decide +kernel
theorem dX9_begin_177 : decode cX9_begin 177 = .ok (.aload_n 0, 1) := by decide +kernel
theorem dX9_begin_178 : decode cX9_begin 178 = .ok (.getfield 7, 3) := by decide +kernel
theorem dX9_begin_181 : decode cX9_begin 181 = .ok (.sipush 930, 3) := by decide +kernel
theorem dX9_begin_184 : decode cX9_begin 184 = .ok (.sipush 500, 3) := by decide +kernel
theorem dX9_begin_187 : decode cX9_begin 187 = .ok (.iastore, 1) := by decide +kernel
theorem dX9_begin_188 : decode cX9_begin 188 = .ok (.aload_n 0, 1) := by decide +kernel
theorem dX9_begin_189 : decode cX9_begin 189 = .ok (.getfield 7, 3) := by decide +kernel
theorem dX9_begin_192 : decode cX9_begin 192 = .ok (.sipush 931, 3) := by decide +kernel
theorem dX9_begin_195 : decode cX9_begin 195 = .ok (.bipush 30, 2) := by decide +kernel
theorem dX9_begin_197 : decode cX9_begin 197 = .ok (.iastore, 1) := by decide +kernel
theorem dX9_begin_198 : decode cX9_begin 198 = .ok (.aload_n 0, 1) := by decide +kernel
theorem dX9_begin_199 : decode cX9_begin 199 = .ok (.getfield 7, 3) := by decide +kernel
theorem dX9_begin_202 : decode cX9_begin 202 = .ok (.sipush 932, 3) := by decide +kernel
theorem dX9_begin_205 : decode cX9_begin 205 = .ok (.sipush 200, 3) := by decide +kernel
theorem dX9_begin_208 : decode cX9_begin 208 = .ok (.iastore, 1) := by decide +kernel
theorem dX9_begin_209 : decode cX9_begin 209 = .ok (.aload_n 0, 1) := by decide +kernel
theorem dX9_begin_210 : decode cX9_begin 210 = .ok (.getfield 7, 3) := by decide +kernel
theorem dX9_begin_213 : decode cX9_begin 213 = .ok (.sipush 938, 3) := by decide +kernel
theorem dX9_begin_216 : decode cX9_begin 216 = .ok (.iload_n 1, 1) := by decide +kernel
theorem dX9_begin_217 : decode cX9_begin 217 = .ok (.iastore, 1) := by decide +kernel
theorem dX9_begin_218 : decode cX9_begin 218 = .ok (.return_, 1) := by decide +kernel
theorem dX9_putAside_0 : decode cX9_putAside 0 = .ok (.iconst 0, 1) := by decide +kernel
theorem dX9_putAside_1 : decode cX9_putAside 1 = .ok (.istore_n 1, 1) := by decide +kernel
theorem dX9_putAside_2 : decode cX9_putAside 2 = .ok (.iload_n 1, 1) := by decide +kernel
theorem dX9_putAside_3 : decode cX9_putAside 3 = .ok (.sipush 1121, 3) := by decide +kernel
theorem dX9_putAside_6 : decode cX9_putAside 6 = .ok (.if_icmp .ge 21, 3) := by decide +kernel
theorem dX9_putAside_9 : decode cX9_putAside 9 = .ok (.aload_n 0, 1) := by decide +kernel
theorem dX9_putAside_10 : decode cX9_putAside 10 = .ok (.getfield 13, 3) := by decide +kernel
theorem dX9_putAside_13 : decode cX9_putAside 13 = .ok (.iload_n 1, 1) := by decide +kernel
theorem dX9_putAside_14 : decode cX9_putAside 14 = .ok (.aload_n 0, 1) := by decide +kernel
theorem dX9_putAside_15 : decode cX9_putAside 15 = .ok (.getfield 7, 3) := by decide +kernel
theorem dX9_putAside_18 : decode cX9_putAside 18 = .ok (.iload_n 1, 1) := by decide +kernel
theorem dX9_putAside_19 : decode cX9_putAside 19 = .ok (.iaload, 1) := by decide +kernel
theorem dX9_putAside_20 : decode cX9_putAside 20 = .ok (.iastore, 1) := by decide +kernel
theorem dX9_putAside_21 : decode cX9_putAside 21 = .ok (.iinc 1 1, 3) := by decide +kernel
theorem dX9_putAside_24 : decode cX9_putAside 24 = .ok (.goto (-22), 3) := by decide +kernel
theorem dX9_putAside_27 : decode cX9_putAside 27 = .ok (.return_, 1) := by decide +kernel
theorem dX9_putBack_0 : decode cX9_putBack 0 = .ok (.iconst 0, 1) := by decide +kernel
theorem dX9_putBack_1 : decode cX9_putBack 1 = .ok (.istore_n 1, 1) := by decide +kernel
theorem dX9_putBack_2 : decode cX9_putBack 2 = .ok (.iload_n 1, 1) := by decide +kernel
theorem dX9_putBack_3 : decode cX9_putBack 3 = .ok (.sipush 1121, 3) := by decide +kernel
theorem dX9_putBack_6 : decode cX9_putBack 6 = .ok (.if_icmp .ge 21, 3) := by decide +kernel
theorem dX9_putBack_9 : decode cX9_putBack 9 = .ok (.aload_n 0, 1) := by decide +kernel
theorem dX9_putBack_10 : decode cX9_putBack 10 = .ok (.getfield 7, 3) := by decide +kernel
theorem dX9_putBack_13 : decode cX9_putBack 13 = .ok (.iload_n 1, 1) := by decide +kernel
theorem dX9_putBack_14 : decode cX9_putBack 14 = .ok (.aload_n 0, 1) := by decide +kernel
theorem dX9_putBack_15 : decode cX9_putBack 15 = .ok (.getfield 13, 3) := by decide +kernel
theorem dX9_putBack_18 : decode cX9_putBack 18 = .ok (.iload_n 1, 1) := by decide +kernel
theorem dX9_putBack_19 : decode cX9_putBack 19 = .ok (.iaload, 1) := by decide +kernel
theorem dX9_putBack_20 : decode cX9_putBack 20 = .ok (.iastore, 1) := by decide +kernel
theorem dX9_putBack_21 : decode cX9_putBack 21 = .ok (.iinc 1 1, 3) := by decide +kernel
theorem dX9_putBack_24 : decode cX9_putBack 24 = .ok (.goto (-22), 3) := by decide +kernel
theorem dX9_putBack_27 : decode cX9_putBack 27 = .ok (.return_, 1) := by decide +kernel
theorem dX9_isNozzle_0 : decode cX9_isNozzle 0 = .ok (.iload_n 1, 1) := by decide +kernel
theorem dX9_isNozzle_1 : decode cX9_isNozzle 1 = .ok (.iconst 0, 1) := by decide +kernel
theorem dX9_isNozzle_2 : decode cX9_isNozzle 2 = .ok (.aload_n 0, 1) := by decide +kernel
theorem dX9_isNozzle_3 : decode cX9_isNozzle 3 = .ok (.getfield 7, 3) := by decide +kernel
theorem dX9_isNozzle_6 : decode cX9_isNozzle 6 = .ok (.sipush 938, 3) := by decide +kernel
theorem dX9_isNozzle_9 : decode cX9_isNozzle 9 = .ok (.iaload, 1) := by decide +kernel
theorem dX9_isNozzle_10 : decode cX9_isNozzle 10 = .ok (.iconst 1, 1) := by decide +kernel
theorem dX9_isNozzle_11 : decode cX9_isNozzle 11 = .ok (.isub, 1) := by decide +kernel
theorem dX9_isNozzle_12 : decode cX9_isNozzle 12 = .ok (.invokestatic 33, 3) := by decide +kernel
theorem dX9_isNozzle_15 : decode cX9_isNozzle 15 = .ok (.ireturn, 1) := by decide +kernel
theorem dX9_isPump_0 : decode cX9_isPump 0 = .ok (.iload_n 0, 1) := by decide +kernel
theorem dX9_isPump_1 : decode cX9_isPump 1 = .ok (.iconst 0, 1) := by decide +kernel
theorem dX9_isPump_2 : decode cX9_isPump 2 = .ok (.iconst 2, 1) := by decide +kernel
theorem dX9_isPump_3 : decode cX9_isPump 3 = .ok (.invokestatic 33, 3) := by decide +kernel
theorem dX9_isPump_6 : decode cX9_isPump 6 = .ok (.ireturn, 1) := by decide +kernel
theorem dX9_setUp_0 : decode cX9_setUp 0 = .ok (.iload_n 1, 1) := by decide +kernel
theorem dX9_setUp_1 : decode cX9_setUp 1 = .ok (.iconst 1, 1) := by decide +kernel
theorem dX9_setUp_2 : decode cX9_setUp 2 = .ok (.bipush 12, 2) := by decide +kernel
theorem dX9_setUp_4 : decode cX9_setUp 4 = .ok (.invokestatic 33, 3) := by decide +kernel
theorem dX9_setUp_7 : decode cX9_setUp 7 = .ok (.ifCond .ne 6, 3) := by decide +kernel
theorem dX9_setUp_10 : decode cX9_setUp 10 = .ok (.bipush (-2), 2) := by decide +kernel
theorem dX9_setUp_12 : decode cX9_setUp 12 = .ok (.ireturn, 1) := by decide +kernel
theorem dX9_setUp_13 : decode cX9_setUp 13 = .ok (.aload_n 0, 1) := by decide +kernel
theorem dX9_setUp_14 : decode cX9_setUp 14 = .ok (.getfield 7, 3) := by decide +kernel
theorem dX9_setUp_17 : decode cX9_setUp 17 = .ok (.sipush 938, 3) := by decide +kernel
theorem dX9_setUp_20 : decode cX9_setUp 20 = .ok (.iaload, 1) := by decide +kernel
theorem dX9_setUp_21 : decode cX9_setUp 21 = .ok (.istore_n 2, 1) := by decide +kernel
theorem dX9_setUp_22 : decode cX9_setUp 22 = .ok (.aload_n 0, 1) := by decide +kernel
theorem dX9_setUp_23 : decode cX9_setUp 23 = .ok (.iload_n 1, 1) := by decide +kernel
theorem dX9_setUp_24 : decode cX9_setUp 24 = .ok (.invokevirtual 29, 3) := by decide +kernel
theorem dX9_setUp_27 : decode cX9_setUp 27 = .ok (.iload_n 2, 1) := by decide +kernel
theorem dX9_setUp_28 : decode cX9_setUp 28 = .ok (.ireturn, 1) := by decide +kernel
theorem dX9_change_0 : decode cX9_change 0 = .ok (.aload_n 0, 1) := by decide +kernel
theorem dX9_change_1 : decode cX9_change 1 = .ok (.getfield 7, 3) := by decide +kernel
theorem dX9_change_4 : decode cX9_change 4 = .ok (.iload_n 1, 1) := by decide +kernel
theorem dX9_change_5 : decode cX9_change 5 = .ok (.iaload, 1) := by decide +kernel
theorem dX9_change_6 : decode cX9_change 6 = .ok (.istore_n 3, 1) := by decide +kernel
theorem dX9_change_7 : decode cX9_change 7 = .ok (.aload_n 0, 1) := by decide +kernel
theorem dX9_change_8 : decode cX9_change 8 = .ok (.getfield 7, 3) := by decide +kernel
theorem dX9_change_11 : decode cX9_change 11 = .ok (.iload_n 1, 1) := by decide +kernel
theorem dX9_change_12 : decode cX9_change 12 = .ok (.iload_n 2, 1) := by decide +kernel
theorem dX9_change_13 : decode cX9_change 13 = .ok (.iastore, 1) := by decide +kernel
theorem dX9_change_14 : decode cX9_change 14 = .ok (.iload_n 3, 1) := by decide +kernel
theorem dX9_change_15 : decode cX9_change 15 = .ok (.ireturn, 1) := by decide +kernel
theorem dX9_isOfNozzle_0 : decode cX9_isOfNozzle 0 = .ok (.iload_n 0, 1) := by decide +kernel
theorem dX9_isOfNozzle_1 : decode cX9_isOfNozzle 1 = .ok (.tableswitch 76 0 4 #[35, 43, 52, 60, 69], 35) := by decide +kernel
theorem dX9_isOfNozzle_36 : decode cX9_isOfNozzle 36 = .ok (.iload_n 1, 1) := by decide +kernel
theorem dX9_isOfNozzle_37 : decode cX9_isOfNozzle 37 = .ok (.iconst 1, 1) := by decide +kernel
theorem dX9_isOfNozzle_38 : decode cX9_isOfNozzle 38 = .ok (.bipush 100, 2) := by decide +kernel
theorem dX9_isOfNozzle_40 : decode cX9_isOfNozzle 40 = .ok (.invokestatic 33, 3) := by decide +kernel
theorem dX9_isOfNozzle_43 : decode cX9_isOfNozzle 43 = .ok (.ireturn, 1) := by decide +kernel
theorem dX9_isOfNozzle_44 : decode cX9_isOfNozzle 44 = .ok (.iload_n 1, 1) := by decide +kernel
theorem dX9_isOfNozzle_45 : decode cX9_isOfNozzle 45 = .ok (.iconst 1, 1) := by decide +kernel
theorem dX9_isOfNozzle_46 : decode cX9_isOfNozzle 46 = .ok (.sipush 5000, 3) := by decide +kernel
theorem dX9_isOfNozzle_49 : decode cX9_isOfNozzle 49 = .ok (.invokestatic 33, 3) := by decide +kernel
theorem dX9_isOfNozzle_52 : decode cX9_isOfNozzle 52 = .ok (.ireturn, 1) := by decide +kernel
theorem dX9_isOfNozzle_53 : decode cX9_isOfNozzle 53 = .ok (.iload_n 1, 1) := by decide +kernel
theorem dX9_isOfNozzle_54 : decode cX9_isOfNozzle 54 = .ok (.iconst 0, 1) := by decide +kernel
theorem dX9_isOfNozzle_55 : decode cX9_isOfNozzle 55 = .ok (.bipush 50, 2) := by decide +kernel
theorem dX9_isOfNozzle_57 : decode cX9_isOfNozzle 57 = .ok (.invokestatic 33, 3) := by decide +kernel
theorem dX9_isOfNozzle_60 : decode cX9_isOfNozzle 60 = .ok (.ireturn, 1) := by decide +kernel
theorem dX9_isOfNozzle_61 : decode cX9_isOfNozzle 61 = .ok (.iload_n 1, 1) := by decide +kernel
theorem dX9_isOfNozzle_62 : decode cX9_isOfNozzle 62 = .ok (.iconst 1, 1) := by decide +kernel
theorem dX9_isOfNozzle_63 : decode cX9_isOfNozzle 63 = .ok (.sipush 1000, 3) := by decide +kernel
theorem dX9_isOfNozzle_66 : decode cX9_isOfNozzle 66 = .ok (.invokestatic 33, 3) := by decide +kernel
theorem dX9_isOfNozzle_69 : decode cX9_isOfNozzle 69 = .ok (.ireturn, 1) := by decide +kernel
theorem dX9_isOfNozzle_70 : decode cX9_isOfNozzle 70 = .ok (.iload_n 1, 1) := by decide +kernel
theorem dX9_isOfNozzle_71 : decode cX9_isOfNozzle 71 = .ok (.iconst 0, 1) := by decide +kernel
theorem dX9_isOfNozzle_72 : decode cX9_isOfNozzle 72 = .ok (.iconst 2, 1) := by decide +kernel
theorem dX9_isOfNozzle_73 : decode cX9_isOfNozzle 73 = .ok (.invokestatic 33, 3) := by decide +kernel
theorem dX9_isOfNozzle_76 : decode cX9_isOfNozzle 76 = .ok (.ireturn, 1) := by decide +kernel
theorem dX9_isOfNozzle_77 : decode cX9_isOfNozzle 77 = .ok (.iload_n 0, 1) := by decide +kernel
theorem dX9_isOfNozzle_78 : decode cX9_isOfNozzle 78 = .ok (.iconst 5, 1) := by decide +kernel
theorem dX9_isOfNozzle_79 : decode cX9_isOfNozzle 79 = .ok (.if_icmp .ne 17, 3) := by decide +kernel
theorem dX9_isOfNozzle_82 : decode cX9_isOfNozzle 82 = .ok (.iload_n 1, 1) := by decide +kernel
theorem dX9_isOfNozzle_83 : decode cX9_isOfNozzle 83 = .ok (.iconst 0, 1) := by decide +kernel
theorem dX9_isOfNozzle_84 : decode cX9_isOfNozzle 84 = .ok (.bipush 100, 2) := by decide +kernel
theorem dX9_isOfNozzle_86 : decode cX9_isOfNozzle 86 = .ok (.invokestatic 33, 3) := by decide +kernel
theorem dX9_isOfNozzle_89 : decode cX9_isOfNozzle 89 = .ok (.ifCond .eq 7, 3) := by decide +kernel
theorem dX9_isOfNozzle_92 : decode cX9_isOfNozzle 92 = .ok (.iconst 1, 1) := by decide +kernel
theorem dX9_isOfNozzle_93 : decode cX9_isOfNozzle 93 = .ok (.goto 4, 3) := by decide +kernel
theorem dX9_isOfNozzle_96 : decode cX9_isOfNozzle 96 = .ok (.iconst 0, 1) := by decide +kernel
theorem dX9_isOfNozzle_97 : decode cX9_isOfNozzle 97 = .ok (.ireturn, 1) := by decide +kernel
theorem dX9_nozzle_0 : decode cX9_nozzle 0 = .ok (.aload_n 0, 1) := by decide +kernel
theorem dX9_nozzle_1 : decode cX9_nozzle 1 = .ok (.iload_n 1, 1) := by decide +kernel
theorem dX9_nozzle_2 : decode cX9_nozzle 2 = .ok (.invokevirtual 37, 3) := by decide +kernel
theorem dX9_nozzle_5 : decode cX9_nozzle 5 = .ok (.ifCond .ne 5, 3) := by decide +kernel
theorem dX9_nozzle_8 : decode cX9_nozzle 8 = .ok (.iconst (-1), 1) := by decide +kernel
theorem dX9_nozzle_9 : decode cX9_nozzle 9 = .ok (.ireturn, 1) := by decide +kernel
theorem dX9_nozzle_10 : decode cX9_nozzle 10 = .ok (.iload_n 2, 1) := by decide +kernel
theorem dX9_nozzle_11 : decode cX9_nozzle 11 = .ok (.iload_n 3, 1) := by decide +kernel
theorem dX9_nozzle_12 : decode cX9_nozzle 12 = .ok (.invokestatic 41, 3) := by decide +kernel
theorem dX9_nozzle_15 : decode cX9_nozzle 15 = .ok (.ifCond .eq 17, 3) := by decide +kernel
theorem dX9_nozzle_18 : decode cX9_nozzle 18 = .ok (.aload_n 0, 1) := by decide +kernel
theorem dX9_nozzle_19 : decode cX9_nozzle 19 = .ok (.bipush 12, 2) := by decide +kernel
theorem dX9_nozzle_21 : decode cX9_nozzle 21 = .ok (.iload_n 1, 1) := by decide +kernel
theorem dX9_nozzle_22 : decode cX9_nozzle 22 = .ok (.imul, 1) := by decide +kernel
theorem dX9_nozzle_23 : decode cX9_nozzle 23 = .ok (.iload_n 2, 1) := by decide +kernel
theorem dX9_nozzle_24 : decode cX9_nozzle 24 = .ok (.iadd, 1) := by decide +kernel
theorem dX9_nozzle_25 : decode cX9_nozzle 25 = .ok (.iload_n 3, 1) := by decide +kernel
theorem dX9_nozzle_26 : decode cX9_nozzle 26 = .ok (.invokevirtual 45, 3) := by decide +kernel
theorem dX9_nozzle_29 : decode cX9_nozzle 29 = .ok (.goto 5, 3) := by decide +kernel
theorem dX9_nozzle_32 : decode cX9_nozzle 32 = .ok (.bipush (-2), 2) := by decide +kernel
theorem dX9_nozzle_34 : decode cX9_nozzle 34 = .ok (.ireturn, 1) := by decide +kernel
theorem dX9_pump_0 : decode cX9_pump 0 = .ok (.iload_n 1, 1) := by decide +kernel
theorem dX9_pump_1 : decode cX9_pump 1 = .ok (.invokestatic 49, 3) := by decide +kernel
theorem dX9_pump_4 : decode cX9_pump 4 = .ok (.ifCond .ne 5, 3) := by decide +kernel
theorem dX9_pump_7 : decode cX9_pump 7 = .ok (.iconst (-1), 1) := by decide +kernel
theorem dX9_pump_8 : decode cX9_pump 8 = .ok (.ireturn, 1) := by decide +kernel
theorem dX9_pump_9 : decode cX9_pump 9 = .ok (.iload_n 2, 1) := by decide +kernel
theorem dX9_pump_10 : decode cX9_pump 10 = .ok (.ifCond .ne 14, 3) := by decide +kernel
theorem dX9_pump_13 : decode cX9_pump 13 = .ok (.iload_n 3, 1) := by decide +kernel
theorem dX9_pump_14 : decode cX9_pump 14 = .ok (.iconst 0, 1) := by decide +kernel
theorem dX9_pump_15 : decode cX9_pump 15 = .ok (.sipush 2000, 3) := by decide +kernel
theorem dX9_pump_18 : decode cX9_pump 18 = .ok (.invokestatic 33, 3) := by decide +kernel
theorem dX9_pump_21 : decode cX9_pump 21 = .ok (.ifCond .ne 19, 3) := by decide +kernel
theorem dX9_pump_24 : decode cX9_pump 24 = .ok (.iload_n 2, 1) := by decide +kernel
theorem dX9_pump_25 : decode cX9_pump 25 = .ok (.iconst 1, 1) := by decide +kernel
theorem dX9_pump_26 : decode cX9_pump 26 = .ok (.if_icmp .ne 18, 3) := by decide +kernel
theorem dX9_pump_29 : decode cX9_pump 29 = .ok (.iload_n 3, 1) := by decide +kernel
theorem dX9_pump_30 : decode cX9_pump 30 = .ok (.iconst 1, 1) := by decide +kernel
theorem dX9_pump_31 : decode cX9_pump 31 = .ok (.sipush 500, 3) := by decide +kernel
theorem dX9_pump_34 : decode cX9_pump 34 = .ok (.invokestatic 33, 3) := by decide +kernel
theorem dX9_pump_37 : decode cX9_pump 37 = .ok (.ifCond .eq 7, 3) := by decide +kernel
theorem dX9_pump_40 : decode cX9_pump 40 = .ok (.iconst 1, 1) := by decide +kernel
theorem dX9_pump_41 : decode cX9_pump 41 = .ok (.goto 4, 3) := by decide +kernel
theorem dX9_pump_44 : decode cX9_pump 44 = .ok (.iconst 0, 1) := by decide +kernel
theorem dX9_pump_45 : decode cX9_pump 45 = .ok (.istore 4, 2) := by decide +kernel
theorem dX9_pump_47 : decode cX9_pump 47 = .ok (.iload 4, 2) := by decide +kernel
theorem dX9_pump_49 : decode cX9_pump 49 = .ok (.ifCond .eq 20, 3) := by decide +kernel
theorem dX9_pump_52 : decode cX9_pump 52 = .ok (.aload_n 0, 1) := by decide +kernel
theorem dX9_pump_53 : decode cX9_pump 53 = .ok (.sipush 912, 3) := by decide +kernel
theorem dX9_pump_56 : decode cX9_pump 56 = .ok (.iconst 5, 1) := by decide +kernel
theorem dX9_pump_57 : decode cX9_pump 57 = .ok (.iload_n 1, 1) := by decide +kernel
theorem dX9_pump_58 : decode cX9_pump 58 = .ok (.imul, 1) := by decide +kernel
theorem dX9_pump_59 : decode cX9_pump 59 = .ok (.iadd, 1) := by decide +kernel
theorem dX9_pump_60 : decode cX9_pump 60 = .ok (.iload_n 2, 1) := by decide +kernel
theorem dX9_pump_61 : decode cX9_pump 61 = .ok (.iadd, 1) := by decide +kernel
theorem dX9_pump_62 : decode cX9_pump 62 = .ok (.iload_n 3, 1) := by decide +kernel
theorem dX9_pump_63 : decode cX9_pump 63 = .ok (.invokevirtual 45, 3) := by decide +kernel
theorem dX9_pump_66 : decode cX9_pump 66 = .ok (.goto 5, 3) := by decide +kernel
theorem dX9_pump_69 : decode cX9_pump 69 = .ok (.bipush (-2), 2) := by decide +kernel
theorem dX9_pump_71 : decode cX9_pump 71 = .ok (.ireturn, 1) := by decide +kernel
theorem dX9_isOfShow_0 : decode cX9_isOfShow 0 = .ok (.iload_n 0, 1) := by decide +kernel
theorem dX9_isOfShow_1 : decode cX9_isOfShow 1 = .ok (.tableswitch 70 0 4 #[35, 43, 43, 52, 61], 35) := by decide +kernel
theorem dX9_isOfShow_36 : decode cX9_isOfShow 36 = .ok (.iload_n 1, 1) := by decide +kernel
theorem dX9_isOfShow_37 : decode cX9_isOfShow 37 = .ok (.iconst 1, 1) := by decide +kernel
theorem dX9_isOfShow_38 : decode cX9_isOfShow 38 = .ok (.bipush 64, 2) := by decide +kernel
theorem dX9_isOfShow_40 : decode cX9_isOfShow 40 = .ok (.invokestatic 33, 3) := by decide +kernel
theorem dX9_isOfShow_43 : decode cX9_isOfShow 43 = .ok (.ireturn, 1) := by decide +kernel
theorem dX9_isOfShow_44 : decode cX9_isOfShow 44 = .ok (.iload_n 1, 1) := by decide +kernel
theorem dX9_isOfShow_45 : decode cX9_isOfShow 45 = .ok (.iconst 0, 1) := by decide +kernel
theorem dX9_isOfShow_46 : decode cX9_isOfShow 46 = .ok (.sipush 300, 3) := by decide +kernel
theorem dX9_isOfShow_49 : decode cX9_isOfShow 49 = .ok (.invokestatic 33, 3) := by decide +kernel
theorem dX9_isOfShow_52 : decode cX9_isOfShow 52 = .ok (.ireturn, 1) := by decide +kernel
theorem dX9_isOfShow_53 : decode cX9_isOfShow 53 = .ok (.iload_n 1, 1) := by decide +kernel
theorem dX9_isOfShow_54 : decode cX9_isOfShow 54 = .ok (.iconst 0, 1) := by decide +kernel
theorem dX9_isOfShow_55 : decode cX9_isOfShow 55 = .ok (.sipush 1000, 3) := by decide +kernel
theorem dX9_isOfShow_58 : decode cX9_isOfShow 58 = .ok (.invokestatic 33, 3) := by decide +kernel
theorem dX9_isOfShow_61 : decode cX9_isOfShow 61 = .ok (.ireturn, 1) := by decide +kernel
theorem dX9_isOfShow_62 : decode cX9_isOfShow 62 = .ok (.iload_n 1, 1) := by decide +kernel
theorem dX9_isOfShow_63 : decode cX9_isOfShow 63 = .ok (.iconst 0, 1) := by decide +kernel
theorem dX9_isOfShow_64 : decode cX9_isOfShow 64 = .ok (.sipush 600, 3) := by decide +kernel
theorem dX9_isOfShow_67 : decode cX9_isOfShow 67 = .ok (.invokestatic 33, 3) := by decide +kernel
theorem dX9_isOfShow_70 : decode cX9_isOfShow 70 = .ok (.ireturn, 1) := by decide +kernel
theorem dX9_isOfShow_71 : decode cX9_isOfShow 71 = .ok (.iload_n 0, 1) := by decide +kernel
theorem dX9_isOfShow_72 : decode cX9_isOfShow 72 = .ok (.iconst 5, 1) := by decide +kernel
theorem dX9_isOfShow_73 : decode cX9_isOfShow 73 = .ok (.if_icmp .ne 18, 3) := by decide +kernel
theorem dX9_isOfShow_76 : decode cX9_isOfShow 76 = .ok (.iload_n 1, 1) := by decide +kernel
theorem dX9_isOfShow_77 : decode cX9_isOfShow 77 = .ok (.iconst 0, 1) := by decide +kernel
theorem dX9_isOfShow_78 : decode cX9_isOfShow 78 = .ok (.sipush 5000, 3) := by decide +kernel
theorem dX9_isOfShow_81 : decode cX9_isOfShow 81 = .ok (.invokestatic 33, 3) := by decide +kernel
theorem dX9_isOfShow_84 : decode cX9_isOfShow 84 = .ok (.ifCond .eq 7, 3) := by decide +kernel
theorem dX9_isOfShow_87 : decode cX9_isOfShow 87 = .ok (.iconst 1, 1) := by decide +kernel
theorem dX9_isOfShow_88 : decode cX9_isOfShow 88 = .ok (.goto 4, 3) := by decide +kernel
theorem dX9_isOfShow_91 : decode cX9_isOfShow 91 = .ok (.iconst 0, 1) := by decide +kernel
theorem dX9_isOfShow_92 : decode cX9_isOfShow 92 = .ok (.ireturn, 1) := by decide +kernel
theorem dX9_set_0 : decode cX9_set 0 = .ok (.iload_n 1, 1) := by decide +kernel
theorem dX9_set_1 : decode cX9_set 1 = .ok (.iload_n 2, 1) := by decide +kernel
theorem dX9_set_2 : decode cX9_set 2 = .ok (.invokestatic 52, 3) := by decide +kernel
theorem dX9_set_5 : decode cX9_set 5 = .ok (.ifCond .eq 16, 3) := by decide +kernel
theorem dX9_set_8 : decode cX9_set 8 = .ok (.aload_n 0, 1) := by decide +kernel
theorem dX9_set_9 : decode cX9_set 9 = .ok (.sipush 927, 3) := by decide +kernel
theorem dX9_set_12 : decode cX9_set 12 = .ok (.iload_n 1, 1) := by decide +kernel
theorem dX9_set_13 : decode cX9_set 13 = .ok (.iadd, 1) := by decide +kernel
theorem dX9_set_14 : decode cX9_set 14 = .ok (.iload_n 2, 1) := by decide +kernel
theorem dX9_set_15 : decode cX9_set 15 = .ok (.invokevirtual 45, 3) := by decide +kernel
theorem dX9_set_18 : decode cX9_set 18 = .ok (.goto 5, 3) := by decide +kernel
theorem dX9_set_21 : decode cX9_set 21 = .ok (.bipush (-2), 2) := by decide +kernel
theorem dX9_set_23 : decode cX9_set 23 = .ok (.ireturn, 1) := by decide +kernel
theorem dX9_wind_0 : decode cX9_wind 0 = .ok (.iload_n 1, 1) := by decide +kernel
theorem dX9_wind_1 : decode cX9_wind 1 = .ok (.iconst 0, 1) := by decide +kernel
theorem dX9_wind_2 : decode cX9_wind 2 = .ok (.sipush 300, 3) := by decide +kernel
theorem dX9_wind_5 : decode cX9_wind 5 = .ok (.invokestatic 33, 3) := by decide +kernel
theorem dX9_wind_8 : decode cX9_wind 8 = .ok (.ifCond .eq 14, 3) := by decide +kernel
theorem dX9_wind_11 : decode cX9_wind 11 = .ok (.aload_n 0, 1) := by decide +kernel
theorem dX9_wind_12 : decode cX9_wind 12 = .ok (.sipush 933, 3) := by decide +kernel
theorem dX9_wind_15 : decode cX9_wind 15 = .ok (.iload_n 1, 1) := by decide +kernel
theorem dX9_wind_16 : decode cX9_wind 16 = .ok (.invokevirtual 45, 3) := by decide +kernel
theorem dX9_wind_19 : decode cX9_wind 19 = .ok (.goto 5, 3) := by decide +kernel
theorem dX9_wind_22 : decode cX9_wind 22 = .ok (.bipush (-2), 2) := by decide +kernel
theorem dX9_wind_24 : decode cX9_wind 24 = .ok (.ireturn, 1) := by decide +kernel
theorem dX9_ofCue_0 : decode cX9_ofCue 0 = .ok (.aload_n 0, 1) := by decide +kernel
theorem dX9_ofCue_1 : decode cX9_ofCue 1 = .ok (.getfield 7, 3) := by decide +kernel
theorem dX9_ofCue_4 : decode cX9_ofCue 4 = .ok (.sipush 941, 3) := by decide +kernel
theorem dX9_ofCue_7 : decode cX9_ofCue 7 = .ok (.iconst 3, 1) := by decide +kernel
theorem dX9_ofCue_8 : decode cX9_ofCue 8 = .ok (.iload_n 1, 1) := by decide +kernel
theorem dX9_ofCue_9 : decode cX9_ofCue 9 = .ok (.imul, 1) := by decide +kernel
theorem dX9_ofCue_10 : decode cX9_ofCue 10 = .ok (.iadd, 1) := by decide +kernel
theorem dX9_ofCue_11 : decode cX9_ofCue 11 = .ok (.iload_n 2, 1) := by decide +kernel
theorem dX9_ofCue_12 : decode cX9_ofCue 12 = .ok (.iadd, 1) := by decide +kernel
theorem dX9_ofCue_13 : decode cX9_ofCue 13 = .ok (.iaload, 1) := by decide +kernel
theorem dX9_ofCue_14 : decode cX9_ofCue 14 = .ok (.ireturn, 1) := by decide +kernel
theorem dX9_layCue_0 : decode cX9_layCue 0 = .ok (.aload_n 0, 1) := by decide +kernel
theorem dX9_layCue_1 : decode cX9_layCue 1 = .ok (.getfield 7, 3) := by decide +kernel
theorem dX9_layCue_4 : decode cX9_layCue 4 = .ok (.sipush 941, 3) := by decide +kernel
theorem dX9_layCue_7 : decode cX9_layCue 7 = .ok (.iconst 3, 1) := by decide +kernel
theorem dX9_layCue_8 : decode cX9_layCue 8 = .ok (.iload_n 1, 1) := by decide +kernel
theorem dX9_layCue_9 : decode cX9_layCue 9 = .ok (.imul, 1) := by decide +kernel
theorem dX9_layCue_10 : decode cX9_layCue 10 = .ok (.iadd, 1) := by decide +kernel
theorem dX9_layCue_11 : decode cX9_layCue 11 = .ok (.iload_n 2, 1) := by decide +kernel
theorem dX9_layCue_12 : decode cX9_layCue 12 = .ok (.iastore, 1) := by decide +kernel
theorem dX9_layCue_13 : decode cX9_layCue 13 = .ok (.aload_n 0, 1) := by decide +kernel
theorem dX9_layCue_14 : decode cX9_layCue 14 = .ok (.getfield 7, 3) := by decide +kernel
theorem dX9_layCue_17 : decode cX9_layCue 17 = .ok (.sipush 941, 3) := by decide +kernel
theorem dX9_layCue_20 : decode cX9_layCue 20 = .ok (.iconst 3, 1) := by decide +kernel
theorem dX9_layCue_21 : decode cX9_layCue 21 = .ok (.iload_n 1, 1) := by decide +kernel
theorem dX9_layCue_22 : decode cX9_layCue 22 = .ok (.imul, 1) := by decide +kernel
theorem dX9_layCue_23 : decode cX9_layCue 23 = .ok (.iadd, 1) := by decide +kernel
theorem dX9_layCue_24 : decode cX9_layCue 24 = .ok (.iconst 1, 1) := by decide +kernel
theorem dX9_layCue_25 : decode cX9_layCue 25 = .ok (.iadd, 1) := by decide +kernel
theorem dX9_layCue_26 : decode cX9_layCue 26 = .ok (.iload_n 3, 1) := by decide +kernel
theorem dX9_layCue_27 : decode cX9_layCue 27 = .ok (.iastore, 1) := by decide +kernel
theorem dX9_layCue_28 : decode cX9_layCue 28 = .ok (.aload_n 0, 1) := by decide +kernel
theorem dX9_layCue_29 : decode cX9_layCue 29 = .ok (.getfield 7, 3) := by decide +kernel
theorem dX9_layCue_32 : decode cX9_layCue 32 = .ok (.sipush 941, 3) := by decide +kernel
theorem dX9_layCue_35 : decode cX9_layCue 35 = .ok (.iconst 3, 1) := by decide +kernel
theorem dX9_layCue_36 : decode cX9_layCue 36 = .ok (.iload_n 1, 1) := by decide +kernel
theorem dX9_layCue_37 : decode cX9_layCue 37 = .ok (.imul, 1) := by decide +kernel
theorem dX9_layCue_38 : decode cX9_layCue 38 = .ok (.iadd, 1) := by decide +kernel
theorem dX9_layCue_39 : decode cX9_layCue 39 = .ok (.iconst 2, 1) := by decide +kernel
theorem dX9_layCue_40 : decode cX9_layCue 40 = .ok (.iadd, 1) := by decide +kernel
theorem dX9_layCue_41 : decode cX9_layCue 41 = .ok (.iload 4, 2) := by decide +kernel
theorem dX9_layCue_43 : decode cX9_layCue 43 = .ok (.iastore, 1) := by decide +kernel
theorem dX9_layCue_44 : decode cX9_layCue 44 = .ok (.return_, 1) := by decide +kernel
theorem dX9_insert_0 : decode cX9_insert 0 = .ok (.aload_n 0, 1) := by decide +kernel
theorem dX9_insert_1 : decode cX9_insert 1 = .ok (.getfield 7, 3) := by decide +kernel
theorem dX9_insert_4 : decode cX9_insert 4 = .ok (.sipush 940, 3) := by decide +kernel
theorem dX9_insert_7 : decode cX9_insert 7 = .ok (.iaload, 1) := by decide +kernel
theorem dX9_insert_8 : decode cX9_insert 8 = .ok (.istore 4, 2) := by decide +kernel
theorem dX9_insert_10 : decode cX9_insert 10 = .ok (.iload 4, 2) := by decide +kernel
theorem dX9_insert_12 : decode cX9_insert 12 = .ok (.ifCond .le 55, 3) := by decide +kernel
theorem dX9_insert_15 : decode cX9_insert 15 = .ok (.aload_n 0, 1) := by decide +kernel
theorem dX9_insert_16 : decode cX9_insert 16 = .ok (.iload 4, 2) := by decide +kernel
theorem dX9_insert_18 : decode cX9_insert 18 = .ok (.iconst 1, 1) := by decide +kernel
theorem dX9_insert_19 : decode cX9_insert 19 = .ok (.isub, 1) := by decide +kernel
theorem dX9_insert_20 : decode cX9_insert 20 = .ok (.iconst 0, 1) := by decide +kernel
theorem dX9_insert_21 : decode cX9_insert 21 = .ok (.invokevirtual 55, 3) := by decide +kernel
theorem dX9_insert_24 : decode cX9_insert 24 = .ok (.iload_n 1, 1) := by decide +kernel
theorem dX9_insert_25 : decode cX9_insert 25 = .ok (.if_icmp .le 42, 3) := by decide +kernel
theorem dX9_insert_28 : decode cX9_insert 28 = .ok (.aload_n 0, 1) := by decide +kernel
theorem dX9_insert_29 : decode cX9_insert 29 = .ok (.iload 4, 2) := by decide +kernel
theorem dX9_insert_31 : decode cX9_insert 31 = .ok (.aload_n 0, 1) := by decide +kernel
theorem dX9_insert_32 : decode cX9_insert 32 = .ok (.iload 4, 2) := by decide +kernel
theorem dX9_insert_34 : decode cX9_insert 34 = .ok (.iconst 1, 1) := by decide +kernel
theorem dX9_insert_35 : decode cX9_insert 35 = .ok (.isub, 1) := by decide +kernel
theorem dX9_insert_36 : decode cX9_insert 36 = .ok (.iconst 0, 1) := by decide +kernel
theorem dX9_insert_37 : decode cX9_insert 37 = .ok (.invokevirtual 55, 3) := by decide +kernel
theorem dX9_insert_40 : decode cX9_insert 40 = .ok (.aload_n 0, 1) := by decide +kernel
theorem dX9_insert_41 : decode cX9_insert 41 = .ok (.iload 4, 2) := by decide +kernel
theorem dX9_insert_43 : decode cX9_insert 43 = .ok (.iconst 1, 1) := by decide +kernel
theorem dX9_insert_44 : decode cX9_insert 44 = .ok (.isub, 1) := by decide +kernel
theorem dX9_insert_45 : decode cX9_insert 45 = .ok (.iconst 1, 1) := by decide +kernel
theorem dX9_insert_46 : decode cX9_insert 46 = .ok (.invokevirtual 55, 3) := by decide +kernel
theorem dX9_insert_49 : decode cX9_insert 49 = .ok (.aload_n 0, 1) := by decide +kernel
theorem dX9_insert_50 : decode cX9_insert 50 = .ok (.iload 4, 2) := by decide +kernel
theorem dX9_insert_52 : decode cX9_insert 52 = .ok (.iconst 1, 1) := by decide +kernel
theorem dX9_insert_53 : decode cX9_insert 53 = .ok (.isub, 1) := by decide +kernel
theorem dX9_insert_54 : decode cX9_insert 54 = .ok (.iconst 2, 1) := by decide +kernel
theorem dX9_insert_55 : decode cX9_insert 55 = .ok (.invokevirtual 55, 3) := by decide +kernel
theorem dX9_insert_58 : decode cX9_insert 58 = .ok (.invokevirtual 58, 3) := by decide +kernel
theorem dX9_insert_61 : decode cX9_insert 61 = .ok (.iinc 4 (-1), 3) := by decide +kernel
theorem dX9_insert_64 : decode cX9_insert 64 = .ok (.goto (-54), 3) := by decide +kernel
theorem dX9_insert_67 : decode cX9_insert 67 = .ok (.aload_n 0, 1) := by decide +kernel
theorem dX9_insert_68 : decode cX9_insert 68 = .ok (.iload 4, 2) := by decide +kernel
theorem dX9_insert_70 : decode cX9_insert 70 = .ok (.iload_n 1, 1) := by decide +kernel
theorem dX9_insert_71 : decode cX9_insert 71 = .ok (.iload_n 2, 1) := by decide +kernel
theorem dX9_insert_72 : decode cX9_insert 72 = .ok (.iload_n 3, 1) := by decide +kernel
theorem dX9_insert_73 : decode cX9_insert 73 = .ok (.invokevirtual 58, 3) := by decide +kernel
theorem dX9_insert_76 : decode cX9_insert 76 = .ok (.aload_n 0, 1) := by decide +kernel
theorem dX9_insert_77 : decode cX9_insert 77 = .ok (.getfield 7, 3) := by decide +kernel
theorem dX9_insert_80 : decode cX9_insert 80 = .ok (.sipush 940, 3) := by decide +kernel
theorem dX9_insert_83 : decode cX9_insert 83 = .ok (.dup2, 1) := by decide +kernel
theorem dX9_insert_84 : decode cX9_insert 84 = .ok (.iaload, 1) := by decide +kernel
theorem dX9_insert_85 : decode cX9_insert 85 = .ok (.iconst 1, 1) := by decide +kernel
theorem dX9_insert_86 : decode cX9_insert 86 = .ok (.iadd, 1) := by decide +kernel
theorem dX9_insert_87 : decode cX9_insert 87 = .ok (.iastore, 1) := by decide +kernel
theorem dX9_insert_88 : decode cX9_insert 88 = .ok (.iload 4, 2) := by decide +kernel
theorem dX9_insert_90 : decode cX9_insert 90 = .ok (.ireturn, 1) := by decide +kernel
theorem dX9_takeOut_0 : decode cX9_takeOut 0 = .ok (.aload_n 0, 1) := by decide +kernel
theorem dX9_takeOut_1 : decode cX9_takeOut 1 = .ok (.getfield 7, 3) := by decide +kernel
theorem dX9_takeOut_4 : decode cX9_takeOut 4 = .ok (.sipush 940, 3) := by decide +kernel
theorem dX9_takeOut_7 : decode cX9_takeOut 7 = .ok (.dup2, 1) := by decide +kernel
theorem dX9_takeOut_8 : decode cX9_takeOut 8 = .ok (.iaload, 1) := by decide +kernel
theorem dX9_takeOut_9 : decode cX9_takeOut 9 = .ok (.iconst 1, 1) := by decide +kernel
theorem dX9_takeOut_10 : decode cX9_takeOut 10 = .ok (.isub, 1) := by decide +kernel
theorem dX9_takeOut_11 : decode cX9_takeOut 11 = .ok (.iastore, 1) := by decide +kernel
theorem dX9_takeOut_12 : decode cX9_takeOut 12 = .ok (.iload_n 1, 1) := by decide +kernel
theorem dX9_takeOut_13 : decode cX9_takeOut 13 = .ok (.istore_n 2, 1) := by decide +kernel
theorem dX9_takeOut_14 : decode cX9_takeOut 14 = .ok (.iload_n 2, 1) := by decide +kernel
theorem dX9_takeOut_15 : decode cX9_takeOut 15 = .ok (.aload_n 0, 1) := by decide +kernel
theorem dX9_takeOut_16 : decode cX9_takeOut 16 = .ok (.getfield 7, 3) := by decide +kernel
theorem dX9_takeOut_19 : decode cX9_takeOut 19 = .ok (.sipush 940, 3) := by decide +kernel
theorem dX9_takeOut_22 : decode cX9_takeOut 22 = .ok (.iaload, 1) := by decide +kernel
theorem dX9_takeOut_23 : decode cX9_takeOut 23 = .ok (.if_icmp .ge 38, 3) := by decide +kernel
theorem dX9_takeOut_26 : decode cX9_takeOut 26 = .ok (.aload_n 0, 1) := by decide +kernel
theorem dX9_takeOut_27 : decode cX9_takeOut 27 = .ok (.iload_n 2, 1) := by decide +kernel
theorem dX9_takeOut_28 : decode cX9_takeOut 28 = .ok (.aload_n 0, 1) := by decide +kernel
theorem dX9_takeOut_29 : decode cX9_takeOut 29 = .ok (.iload_n 2, 1) := by decide +kernel
theorem dX9_takeOut_30 : decode cX9_takeOut 30 = .ok (.iconst 1, 1) := by decide +kernel
theorem dX9_takeOut_31 : decode cX9_takeOut 31 = .ok (.iadd, 1) := by decide +kernel
theorem dX9_takeOut_32 : decode cX9_takeOut 32 = .ok (.iconst 0, 1) := by decide +kernel
theorem dX9_takeOut_33 : decode cX9_takeOut 33 = .ok (.invokevirtual 55, 3) := by decide +kernel
theorem dX9_takeOut_36 : decode cX9_takeOut 36 = .ok (.aload_n 0, 1) := by decide +kernel
theorem dX9_takeOut_37 : decode cX9_takeOut 37 = .ok (.iload_n 2, 1) := by decide +kernel
theorem dX9_takeOut_38 : decode cX9_takeOut 38 = .ok (.iconst 1, 1) := by decide +kernel
theorem dX9_takeOut_39 : decode cX9_takeOut 39 = .ok (.iadd, 1) := by decide +kernel
theorem dX9_takeOut_40 : decode cX9_takeOut 40 = .ok (.iconst 1, 1) := by decide +kernel
theorem dX9_takeOut_41 : decode cX9_takeOut 41 = .ok (.invokevirtual 55, 3) := by decide +kernel
theorem dX9_takeOut_44 : decode cX9_takeOut 44 = .ok (.aload_n 0, 1) := by decide +kernel
theorem dX9_takeOut_45 : decode cX9_takeOut 45 = .ok (.iload_n 2, 1) := by decide +kernel
theorem dX9_takeOut_46 : decode cX9_takeOut 46 = .ok (.iconst 1, 1) := by decide +kernel
theorem dX9_takeOut_47 : decode cX9_takeOut 47 = .ok (.iadd, 1) := by decide +kernel
theorem dX9_takeOut_48 : decode cX9_takeOut 48 = .ok (.iconst 2, 1) := by decide +kernel
theorem dX9_takeOut_49 : decode cX9_takeOut 49 = .ok (.invokevirtual 55, 3) := by decide +kernel
theorem dX9_takeOut_52 : decode cX9_takeOut 52 = .ok (.invokevirtual 58, 3) := by decide +kernel
theorem dX9_takeOut_55 : decode cX9_takeOut 55 = .ok (.iinc 2 1, 3) := by decide +kernel
theorem dX9_takeOut_58 : decode cX9_takeOut 58 = .ok (.goto (-44), 3) := by decide +kernel
theorem dX9_takeOut_61 : decode cX9_takeOut 61 = .ok (.return_, 1) := by decide +kernel
theorem dX9_isCommand_0 : decode cX9_isCommand 0 = .ok (.iload_n 0, 1) := by decide +kernel
theorem dX9_isCommand_1 : decode cX9_isCommand 1 = .ok (.iconst 1, 1) := by decide +kernel
theorem dX9_isCommand_2 : decode cX9_isCommand 2 = .ok (.sipush 4095, 3) := by decide +kernel
theorem dX9_isCommand_5 : decode cX9_isCommand 5 = .ok (.invokestatic 33, 3) := by decide +kernel
theorem dX9_isCommand_8 : decode cX9_isCommand 8 = .ok (.ifCond .eq 18, 3) := by decide +kernel
theorem dX9_isCommand_11 : decode cX9_isCommand 11 = .ok (.iload_n 1, 1) := by decide +kernel
theorem dX9_isCommand_12 : decode cX9_isCommand 12 = .ok (.iconst 0, 1) := by decide +kernel
theorem dX9_isCommand_13 : decode cX9_isCommand 13 = .ok (.sipush 1000, 3) := by decide +kernel
theorem dX9_isCommand_16 : decode cX9_isCommand 16 = .ok (.invokestatic 33, 3) := by decide +kernel
theorem dX9_isCommand_19 : decode cX9_isCommand 19 = .ok (.ifCond .eq 7, 3) := by decide +kernel
theorem dX9_isCommand_22 : decode cX9_isCommand 22 = .ok (.iconst 1, 1) := by decide +kernel
theorem dX9_isCommand_23 : decode cX9_isCommand 23 = .ok (.goto 4, 3) := by decide +kernel
theorem dX9_isCommand_26 : decode cX9_isCommand 26 = .ok (.iconst 0, 1) := by decide +kernel
theorem dX9_isCommand_27 : decode cX9_isCommand 27 = .ok (.ireturn, 1) := by decide +kernel
theorem dX9_cue_0 : decode cX9_cue 0 = .ok (.iload_n 1, 1) := by decide +kernel
theorem dX9_cue_1 : decode cX9_cue 1 = .ok (.iconst 0, 1) := by decide +kernel
theorem dX9_cue_2 : decode cX9_cue 2 = .ok (.ldc 62, 2) := by decide +kernel
theorem dX9_cue_4 : decode cX9_cue 4 = .ok (.invokestatic 33, 3) := by decide +kernel
theorem dX9_cue_7 : decode cX9_cue 7 = .ok (.ifCond .eq 11, 3) := by decide +kernel
theorem dX9_cue_10 : decode cX9_cue 10 = .ok (.iload_n 2, 1) := by decide +kernel
theorem dX9_cue_11 : decode cX9_cue 11 = .ok (.iload_n 3, 1) := by decide +kernel
theorem dX9_cue_12 : decode cX9_cue 12 = .ok (.invokestatic 63, 3) := by decide +kernel
theorem dX9_cue_15 : decode cX9_cue 15 = .ok (.ifCond .ne 6, 3) := by decide +kernel
theorem dX9_cue_18 : decode cX9_cue 18 = .ok (.bipush (-2), 2) := by decide +kernel
theorem dX9_cue_20 : decode cX9_cue 20 = .ok (.ireturn, 1) := by decide +kernel
theorem dX9_cue_21 : decode cX9_cue 21 = .ok (.aload_n 0, 1) := by decide +kernel
theorem dX9_cue_22 : decode cX9_cue 22 = .ok (.getfield 7, 3) := by decide +kernel
theorem dX9_cue_25 : decode cX9_cue 25 = .ok (.sipush 940, 3) := by decide +kernel
theorem dX9_cue_28 : decode cX9_cue 28 = .ok (.iaload, 1) := by decide +kernel
theorem dX9_cue_29 : decode cX9_cue 29 = .ok (.bipush 60, 2) := by decide +kernel
theorem dX9_cue_31 : decode cX9_cue 31 = .ok (.if_icmp .ne 8, 3) := by decide +kernel
theorem dX9_cue_34 : decode cX9_cue 34 = .ok (.bipush (-4), 2) := by decide +kernel
theorem dX9_cue_36 : decode cX9_cue 36 = .ok (.goto 10, 3) := by decide +kernel
theorem dX9_cue_39 : decode cX9_cue 39 = .ok (.aload_n 0, 1) := by decide +kernel
theorem dX9_cue_40 : decode cX9_cue 40 = .ok (.iload_n 1, 1) := by decide +kernel
theorem dX9_cue_41 : decode cX9_cue 41 = .ok (.iload_n 2, 1) := by decide +kernel
theorem dX9_cue_42 : decode cX9_cue 42 = .ok (.iload_n 3, 1) := by decide +kernel
theorem dX9_cue_43 : decode cX9_cue 43 = .ok (.invokevirtual 66, 3) := by decide +kernel
theorem dX9_cue_46 : decode cX9_cue 46 = .ok (.ireturn, 1) := by decide +kernel
theorem dX9_isCue_0 : decode cX9_isCue 0 = .ok (.iload_n 1, 1) := by decide +kernel
theorem dX9_isCue_1 : decode cX9_isCue 1 = .ok (.iconst 0, 1) := by decide +kernel
theorem dX9_isCue_2 : decode cX9_isCue 2 = .ok (.aload_n 0, 1) := by decide +kernel
theorem dX9_isCue_3 : decode cX9_isCue 3 = .ok (.getfield 7, 3) := by decide +kernel
theorem dX9_isCue_6 : decode cX9_isCue 6 = .ok (.sipush 940, 3) := by decide +kernel
theorem dX9_isCue_9 : decode cX9_isCue 9 = .ok (.iaload, 1) := by decide +kernel
theorem dX9_isCue_10 : decode cX9_isCue 10 = .ok (.iconst 1, 1) := by decide +kernel
theorem dX9_isCue_11 : decode cX9_isCue 11 = .ok (.isub, 1) := by decide +kernel
theorem dX9_isCue_12 : decode cX9_isCue 12 = .ok (.invokestatic 33, 3) := by decide +kernel
theorem dX9_isCue_15 : decode cX9_isCue 15 = .ok (.ireturn, 1) := by decide +kernel
theorem dX9_remove_0 : decode cX9_remove 0 = .ok (.aload_n 0, 1) := by decide +kernel
theorem dX9_remove_1 : decode cX9_remove 1 = .ok (.iload_n 1, 1) := by decide +kernel
theorem dX9_remove_2 : decode cX9_remove 2 = .ok (.invokevirtual 70, 3) := by decide +kernel
theorem dX9_remove_5 : decode cX9_remove 5 = .ok (.ifCond .ne 5, 3) := by decide +kernel
theorem dX9_remove_8 : decode cX9_remove 8 = .ok (.iconst (-1), 1) := by decide +kernel
theorem dX9_remove_9 : decode cX9_remove 9 = .ok (.ireturn, 1) := by decide +kernel
theorem dX9_remove_10 : decode cX9_remove 10 = .ok (.aload_n 0, 1) := by decide +kernel
theorem dX9_remove_11 : decode cX9_remove 11 = .ok (.iload_n 1, 1) := by decide +kernel
theorem dX9_remove_12 : decode cX9_remove 12 = .ok (.invokevirtual 73, 3) := by decide +kernel
theorem dX9_remove_15 : decode cX9_remove 15 = .ok (.aload_n 0, 1) := by decide +kernel
theorem dX9_remove_16 : decode cX9_remove 16 = .ok (.getfield 7, 3) := by decide +kernel
theorem dX9_remove_19 : decode cX9_remove 19 = .ok (.sipush 940, 3) := by decide +kernel
theorem dX9_remove_22 : decode cX9_remove 22 = .ok (.iaload, 1) := by decide +kernel
theorem dX9_remove_23 : decode cX9_remove 23 = .ok (.ireturn, 1) := by decide +kernel
theorem dX9_shift_0 : decode cX9_shift 0 = .ok (.aload_n 0, 1) := by decide +kernel
theorem dX9_shift_1 : decode cX9_shift 1 = .ok (.iload_n 1, 1) := by decide +kernel
theorem dX9_shift_2 : decode cX9_shift 2 = .ok (.iconst 0, 1) := by decide +kernel
theorem dX9_shift_3 : decode cX9_shift 3 = .ok (.invokevirtual 55, 3) := by decide +kernel
theorem dX9_shift_6 : decode cX9_shift 6 = .ok (.iload_n 2, 1) := by decide +kernel
theorem dX9_shift_7 : decode cX9_shift 7 = .ok (.iadd, 1) := by decide +kernel
theorem dX9_shift_8 : decode cX9_shift 8 = .ok (.istore_n 3, 1) := by decide +kernel
theorem dX9_shift_9 : decode cX9_shift 9 = .ok (.aload_n 0, 1) := by decide +kernel
theorem dX9_shift_10 : decode cX9_shift 10 = .ok (.iload_n 1, 1) := by decide +kernel
theorem dX9_shift_11 : decode cX9_shift 11 = .ok (.iconst 1, 1) := by decide +kernel
theorem dX9_shift_12 : decode cX9_shift 12 = .ok (.invokevirtual 55, 3) := by decide +kernel
theorem dX9_shift_15 : decode cX9_shift 15 = .ok (.istore 4, 2) := by decide +kernel
theorem dX9_shift_17 : decode cX9_shift 17 = .ok (.aload_n 0, 1) := by decide +kernel
theorem dX9_shift_18 : decode cX9_shift 18 = .ok (.iload_n 1, 1) := by decide +kernel
theorem dX9_shift_19 : decode cX9_shift 19 = .ok (.iconst 2, 1) := by decide +kernel
theorem dX9_shift_20 : decode cX9_shift 20 = .ok (.invokevirtual 55, 3) := by decide +kernel
theorem dX9_shift_23 : decode cX9_shift 23 = .ok (.istore 5, 2) := by decide +kernel
theorem dX9_shift_25 : decode cX9_shift 25 = .ok (.aload_n 0, 1) := by decide +kernel
theorem dX9_shift_26 : decode cX9_shift 26 = .ok (.iload_n 1, 1) := by decide +kernel
theorem dX9_shift_27 : decode cX9_shift 27 = .ok (.invokevirtual 73, 3) := by decide +kernel
theorem dX9_shift_30 : decode cX9_shift 30 = .ok (.aload_n 0, 1) := by decide +kernel
theorem dX9_shift_31 : decode cX9_shift 31 = .ok (.iload_n 3, 1) := by decide +kernel
theorem dX9_shift_32 : decode cX9_shift 32 = .ok (.iload 4, 2) := by decide +kernel
theorem dX9_shift_34 : decode cX9_shift 34 = .ok (.iload 5, 2) := by decide +kernel
theorem dX9_shift_36 : decode cX9_shift 36 = .ok (.invokevirtual 66, 3) := by decide +kernel
theorem dX9_shift_39 : decode cX9_shift 39 = .ok (.ireturn, 1) := by decide +kernel
theorem dX9_move_0 : decode cX9_move 0 = .ok (.aload_n 0, 1) := by decide +kernel
theorem dX9_move_1 : decode cX9_move 1 = .ok (.iload_n 1, 1) := by decide +kernel
theorem dX9_move_2 : decode cX9_move 2 = .ok (.invokevirtual 70, 3) := by decide +kernel
theorem dX9_move_5 : decode cX9_move 5 = .ok (.ifCond .ne 5, 3) := by decide +kernel
theorem dX9_move_8 : decode cX9_move 8 = .ok (.iconst (-1), 1) := by decide +kernel
theorem dX9_move_9 : decode cX9_move 9 = .ok (.ireturn, 1) := by decide +kernel
theorem dX9_move_10 : decode cX9_move 10 = .ok (.iload_n 2, 1) := by decide +kernel
theorem dX9_move_11 : decode cX9_move 11 = .ok (.ldc 76, 2) := by decide +kernel
theorem dX9_move_13 : decode cX9_move 13 = .ok (.ldc 62, 2) := by decide +kernel
theorem dX9_move_15 : decode cX9_move 15 = .ok (.invokestatic 33, 3) := by decide +kernel
theorem dX9_move_18 : decode cX9_move 18 = .ok (.ifCond .eq 20, 3) := by decide +kernel
theorem dX9_move_21 : decode cX9_move 21 = .ok (.aload_n 0, 1) := by decide +kernel
theorem dX9_move_22 : decode cX9_move 22 = .ok (.iload_n 1, 1) := by decide +kernel
theorem dX9_move_23 : decode cX9_move 23 = .ok (.iconst 0, 1) := by decide +kernel
theorem dX9_move_24 : decode cX9_move 24 = .ok (.invokevirtual 55, 3) := by decide +kernel
theorem dX9_move_27 : decode cX9_move 27 = .ok (.iload_n 2, 1) := by decide +kernel
theorem dX9_move_28 : decode cX9_move 28 = .ok (.iadd, 1) := by decide +kernel
theorem dX9_move_29 : decode cX9_move 29 = .ok (.iconst 0, 1) := by decide +kernel
theorem dX9_move_30 : decode cX9_move 30 = .ok (.ldc 62, 2) := by decide +kernel
theorem dX9_move_32 : decode cX9_move 32 = .ok (.invokestatic 33, 3) := by decide +kernel
theorem dX9_move_35 : decode cX9_move 35 = .ok (.ifCond .ne 6, 3) := by decide +kernel
theorem dX9_move_38 : decode cX9_move 38 = .ok (.bipush (-2), 2) := by decide +kernel
theorem dX9_move_40 : decode cX9_move 40 = .ok (.ireturn, 1) := by decide +kernel
theorem dX9_move_41 : decode cX9_move 41 = .ok (.aload_n 0, 1) := by decide +kernel
theorem dX9_move_42 : decode cX9_move 42 = .ok (.iload_n 1, 1) := by decide +kernel
theorem dX9_move_43 : decode cX9_move 43 = .ok (.iload_n 2, 1) := by decide +kernel
theorem dX9_move_44 : decode cX9_move 44 = .ok (.invokevirtual 77, 3) := by decide +kernel
theorem dX9_move_47 : decode cX9_move 47 = .ok (.ireturn, 1) := by decide +kernel
theorem dX9_part_0 : decode cX9_part 0 = .ok (.aload_n 0, 1) := by decide +kernel
theorem dX9_part_1 : decode cX9_part 1 = .ok (.iload_n 1, 1) := by decide +kernel
theorem dX9_part_2 : decode cX9_part 2 = .ok (.invokevirtual 70, 3) := by decide +kernel
theorem dX9_part_5 : decode cX9_part 5 = .ok (.ifCond .ne 5, 3) := by decide +kernel
theorem dX9_part_8 : decode cX9_part 8 = .ok (.iconst (-1), 1) := by decide +kernel
theorem dX9_part_9 : decode cX9_part 9 = .ok (.ireturn, 1) := by decide +kernel
theorem dX9_part_10 : decode cX9_part 10 = .ok (.iload_n 2, 1) := by decide +kernel
theorem dX9_part_11 : decode cX9_part 11 = .ok (.iconst 0, 1) := by decide +kernel
theorem dX9_part_12 : decode cX9_part 12 = .ok (.iconst 2, 1) := by decide +kernel
theorem dX9_part_13 : decode cX9_part 13 = .ok (.invokestatic 33, 3) := by decide +kernel
theorem dX9_part_16 : decode cX9_part 16 = .ok (.ifCond .eq 12, 3) := by decide +kernel
theorem dX9_part_19 : decode cX9_part 19 = .ok (.aload_n 0, 1) := by decide +kernel
theorem dX9_part_20 : decode cX9_part 20 = .ok (.iload_n 1, 1) := by decide +kernel
theorem dX9_part_21 : decode cX9_part 21 = .ok (.iload_n 2, 1) := by decide +kernel
theorem dX9_part_22 : decode cX9_part 22 = .ok (.invokevirtual 55, 3) := by decide +kernel
theorem dX9_part_25 : decode cX9_part 25 = .ok (.goto 5, 3) := by decide +kernel
theorem dX9_part_28 : decode cX9_part 28 = .ok (.bipush (-2), 2) := by decide +kernel
theorem dX9_part_30 : decode cX9_part 30 = .ok (.ireturn, 1) := by decide +kernel
theorem dX9_carryOut_0 : decode cX9_carryOut 0 = .ok (.iconst 0, 1) := by decide +kernel
theorem dX9_carryOut_1 : decode cX9_carryOut 1 = .ok (.istore_n 3, 1) := by decide +kernel
theorem dX9_carryOut_2 : decode cX9_carryOut 2 = .ok (.iload_n 3, 1) := by decide +kernel
theorem dX9_carryOut_3 : decode cX9_carryOut 3 = .ok (.aload_n 0, 1) := by decide +kernel
theorem dX9_carryOut_4 : decode cX9_carryOut 4 = .ok (.getfield 7, 3) := by decide +kernel
theorem dX9_carryOut_7 : decode cX9_carryOut 7 = .ok (.sipush 938, 3) := by decide +kernel
theorem dX9_carryOut_10 : decode cX9_carryOut 10 = .ok (.iaload, 1) := by decide +kernel
theorem dX9_carryOut_11 : decode cX9_carryOut 11 = .ok (.if_icmp .ge 46, 3) := by decide +kernel
theorem dX9_carryOut_14 : decode cX9_carryOut 14 = .ok (.aload_n 0, 1) := by decide +kernel
theorem dX9_carryOut_15 : decode cX9_carryOut 15 = .ok (.getfield 7, 3) := by decide +kernel
theorem dX9_carryOut_18 : decode cX9_carryOut 18 = .ok (.bipush 12, 2) := by decide +kernel
theorem dX9_carryOut_20 : decode cX9_carryOut 20 = .ok (.iload_n 3, 1) := by decide +kernel
theorem dX9_carryOut_21 : decode cX9_carryOut 21 = .ok (.imul, 1) := by decide +kernel
theorem dX9_carryOut_22 : decode cX9_carryOut 22 = .ok (.bipush 6, 2) := by decide +kernel
theorem dX9_carryOut_24 : decode cX9_carryOut 24 = .ok (.iadd, 1) := by decide +kernel
theorem dX9_carryOut_25 : decode cX9_carryOut 25 = .ok (.iload_n 1, 1) := by decide +kernel
theorem dX9_carryOut_26 : decode cX9_carryOut 26 = .ok (.iload_n 3, 1) := by decide +kernel
theorem dX9_carryOut_27 : decode cX9_carryOut 27 = .ok (.ishr, 1) := by decide +kernel
theorem dX9_carryOut_28 : decode cX9_carryOut 28 = .ok (.iconst 1, 1) := by decide +kernel
theorem dX9_carryOut_29 : decode cX9_carryOut 29 = .ok (.iand, 1) := by decide +kernel
theorem dX9_carryOut_30 : decode cX9_carryOut 30 = .ok (.iconst 1, 1) := by decide +kernel
theorem dX9_carryOut_31 : decode cX9_carryOut 31 = .ok (.if_icmp .ne 7, 3) := by decide +kernel
theorem dX9_carryOut_34 : decode cX9_carryOut 34 = .ok (.iload_n 2, 1) := by decide +kernel
theorem dX9_carryOut_35 : decode cX9_carryOut 35 = .ok (.goto 15, 3) := by decide +kernel
theorem dX9_carryOut_38 : decode cX9_carryOut 38 = .ok (.aload_n 0, 1) := by decide +kernel
theorem dX9_carryOut_39 : decode cX9_carryOut 39 = .ok (.getfield 7, 3) := by decide +kernel
theorem dX9_carryOut_42 : decode cX9_carryOut 42 = .ok (.bipush 12, 2) := by decide +kernel
theorem dX9_carryOut_44 : decode cX9_carryOut 44 = .ok (.iload_n 3, 1) := by decide +kernel
theorem dX9_carryOut_45 : decode cX9_carryOut 45 = .ok (.imul, 1) := by decide +kernel
theorem dX9_carryOut_46 : decode cX9_carryOut 46 = .ok (.bipush 6, 2) := by decide +kernel
theorem dX9_carryOut_48 : decode cX9_carryOut 48 = .ok (.iadd, 1) := by decide +kernel
theorem dX9_carryOut_49 : decode cX9_carryOut 49 = .ok (.iaload, 1) := by decide +kernel
theorem dX9_carryOut_50 : decode cX9_carryOut 50 = .ok (.iastore, 1) := by decide +kernel
theorem dX9_carryOut_51 : decode cX9_carryOut 51 = .ok (.iinc 3 1, 3) := by decide +kernel
theorem dX9_carryOut_54 : decode cX9_carryOut 54 = .ok (.goto (-52), 3) := by decide +kernel
theorem dX9_carryOut_57 : decode cX9_carryOut 57 = .ok (.return_, 1) := by decide +kernel
theorem dX9_toward_0 : decode cX9_toward 0 = .ok (.iload_n 0, 1) := by decide +kernel
theorem dX9_toward_1 : decode cX9_toward 1 = .ok (.iload_n 1, 1) := by decide +kernel
theorem dX9_toward_2 : decode cX9_toward 2 = .ok (.if_icmp .ge 20, 3) := by decide +kernel
theorem dX9_toward_5 : decode cX9_toward 5 = .ok (.iload_n 0, 1) := by decide +kernel
theorem dX9_toward_6 : decode cX9_toward 6 = .ok (.iload_n 2, 1) := by decide +kernel
theorem dX9_toward_7 : decode cX9_toward 7 = .ok (.iadd, 1) := by decide +kernel
theorem dX9_toward_8 : decode cX9_toward 8 = .ok (.iload_n 1, 1) := by decide +kernel
theorem dX9_toward_9 : decode cX9_toward 9 = .ok (.if_icmp .ge 9, 3) := by decide +kernel
theorem dX9_toward_12 : decode cX9_toward 12 = .ok (.iload_n 0, 1) := by decide +kernel
theorem dX9_toward_13 : decode cX9_toward 13 = .ok (.iload_n 2, 1) := by decide +kernel
theorem dX9_toward_14 : decode cX9_toward 14 = .ok (.iadd, 1) := by decide +kernel
theorem dX9_toward_15 : decode cX9_toward 15 = .ok (.goto 21, 3) := by decide +kernel
theorem dX9_toward_18 : decode cX9_toward 18 = .ok (.iload_n 1, 1) := by decide +kernel
theorem dX9_toward_19 : decode cX9_toward 19 = .ok (.goto 17, 3) := by decide +kernel
theorem dX9_toward_22 : decode cX9_toward 22 = .ok (.iload_n 0, 1) := by decide +kernel
theorem dX9_toward_23 : decode cX9_toward 23 = .ok (.iload_n 2, 1) := by decide +kernel
theorem dX9_toward_24 : decode cX9_toward 24 = .ok (.isub, 1) := by decide +kernel
theorem dX9_toward_25 : decode cX9_toward 25 = .ok (.iload_n 1, 1) := by decide +kernel
theorem dX9_toward_26 : decode cX9_toward 26 = .ok (.if_icmp .le 9, 3) := by decide +kernel
theorem dX9_toward_29 : decode cX9_toward 29 = .ok (.iload_n 0, 1) := by decide +kernel
theorem dX9_toward_30 : decode cX9_toward 30 = .ok (.iload_n 2, 1) := by decide +kernel
theorem dX9_toward_31 : decode cX9_toward 31 = .ok (.isub, 1) := by decide +kernel
theorem dX9_toward_32 : decode cX9_toward 32 = .ok (.goto 4, 3) := by decide +kernel
theorem dX9_toward_35 : decode cX9_toward 35 = .ok (.iload_n 1, 1) := by decide +kernel
theorem dX9_toward_36 : decode cX9_toward 36 = .ok (.ireturn, 1) := by decide +kernel
theorem dX9_stepWind_0 : decode cX9_stepWind 0 = .ok (.sipush 1024, 3) := by decide +kernel
theorem dX9_stepWind_3 : decode cX9_stepWind 3 = .ok (.aload_n 0, 1) := by decide +kernel
theorem dX9_stepWind_4 : decode cX9_stepWind 4 = .ok (.getfield 7, 3) := by decide +kernel
theorem dX9_stepWind_7 : decode cX9_stepWind 7 = .ok (.sipush 933, 3) := by decide +kernel
theorem dX9_stepWind_10 : decode cX9_stepWind 10 = .ok (.iaload, 1) := by decide +kernel
theorem dX9_stepWind_11 : decode cX9_stepWind 11 = .ok (.imul, 1) := by decide +kernel
theorem dX9_stepWind_12 : decode cX9_stepWind 12 = .ok (.aload_n 0, 1) := by decide +kernel
theorem dX9_stepWind_13 : decode cX9_stepWind 13 = .ok (.getfield 7, 3) := by decide +kernel
theorem dX9_stepWind_16 : decode cX9_stepWind 16 = .ok (.sipush 934, 3) := by decide +kernel
theorem dX9_stepWind_19 : decode cX9_stepWind 19 = .ok (.iaload, 1) := by decide +kernel
theorem dX9_stepWind_20 : decode cX9_stepWind 20 = .ok (.isub, 1) := by decide +kernel
theorem dX9_stepWind_21 : decode cX9_stepWind 21 = .ok (.istore_n 1, 1) := by decide +kernel
theorem dX9_stepWind_22 : decode cX9_stepWind 22 = .ok (.iload_n 1, 1) := by decide +kernel
theorem dX9_stepWind_23 : decode cX9_stepWind 23 = .ok (.aload_n 0, 1) := by decide +kernel
theorem dX9_stepWind_24 : decode cX9_stepWind 24 = .ok (.getfield 7, 3) := by decide +kernel
theorem dX9_stepWind_27 : decode cX9_stepWind 27 = .ok (.sipush 927, 3) := by decide +kernel
theorem dX9_stepWind_30 : decode cX9_stepWind 30 = .ok (.iaload, 1) := by decide +kernel
theorem dX9_stepWind_31 : decode cX9_stepWind 31 = .ok (.idiv, 1) := by decide +kernel
theorem dX9_stepWind_32 : decode cX9_stepWind 32 = .ok (.iload_n 1, 1) := by decide +kernel
theorem dX9_stepWind_33 : decode cX9_stepWind 33 = .ok (.ifCond .ge 20, 3) := by decide +kernel
theorem dX9_stepWind_36 : decode cX9_stepWind 36 = .ok (.iload_n 1, 1) := by decide +kernel
theorem dX9_stepWind_37 : decode cX9_stepWind 37 = .ok (.aload_n 0, 1) := by decide +kernel
theorem dX9_stepWind_38 : decode cX9_stepWind 38 = .ok (.getfield 7, 3) := by decide +kernel
theorem dX9_stepWind_41 : decode cX9_stepWind 41 = .ok (.sipush 927, 3) := by decide +kernel
theorem dX9_stepWind_44 : decode cX9_stepWind 44 = .ok (.iaload, 1) := by decide +kernel
theorem dX9_stepWind_45 : decode cX9_stepWind 45 = .ok (.irem, 1) := by decide +kernel
theorem dX9_stepWind_46 : decode cX9_stepWind 46 = .ok (.ifCond .eq 7, 3) := by decide +kernel
theorem dX9_stepWind_49 : decode cX9_stepWind 49 = .ok (.iconst 1, 1) := by decide +kernel
theorem dX9_stepWind_50 : decode cX9_stepWind 50 = .ok (.goto 4, 3) := by decide +kernel
theorem dX9_stepWind_53 : decode cX9_stepWind 53 = .ok (.iconst 0, 1) := by decide +kernel
theorem dX9_stepWind_54 : decode cX9_stepWind 54 = .ok (.isub, 1) := by decide +kernel
theorem dX9_stepWind_55 : decode cX9_stepWind 55 = .ok (.istore_n 2, 1) := by decide +kernel
theorem dX9_stepWind_56 : decode cX9_stepWind 56 = .ok (.aload_n 0, 1) := by decide +kernel
theorem dX9_stepWind_57 : decode cX9_stepWind 57 = .ok (.getfield 7, 3) := by decide +kernel
theorem dX9_stepWind_60 : decode cX9_stepWind 60 = .ok (.sipush 934, 3) := by decide +kernel
theorem dX9_stepWind_63 : decode cX9_stepWind 63 = .ok (.dup2, 1) := by decide +kernel
theorem dX9_stepWind_64 : decode cX9_stepWind 64 = .ok (.iaload, 1) := by decide +kernel
theorem dX9_stepWind_65 : decode cX9_stepWind 65 = .ok (.iload_n 2, 1) := by decide +kernel
theorem dX9_stepWind_66 : decode cX9_stepWind 66 = .ok (.iadd, 1) := by decide +kernel
theorem dX9_stepWind_67 : decode cX9_stepWind 67 = .ok (.iastore, 1) := by decide +kernel
theorem dX9_stepWind_68 : decode cX9_stepWind 68 = .ok (.aload_n 0, 1) := by decide +kernel
theorem dX9_stepWind_69 : decode cX9_stepWind 69 = .ok (.getfield 7, 3) := by decide +kernel
theorem dX9_stepWind_72 : decode cX9_stepWind 72 = .ok (.sipush 934, 3) := by decide +kernel
theorem dX9_stepWind_75 : decode cX9_stepWind 75 = .ok (.iaload, 1) := by decide +kernel
theorem dX9_stepWind_76 : decode cX9_stepWind 76 = .ok (.sipush 1024, 3) := by decide +kernel
theorem dX9_stepWind_79 : decode cX9_stepWind 79 = .ok (.idiv, 1) := by decide +kernel
theorem dX9_stepWind_80 : decode cX9_stepWind 80 = .ok (.istore_n 3, 1) := by decide +kernel
theorem dX9_stepWind_81 : decode cX9_stepWind 81 = .ok (.aload_n 0, 1) := by decide +kernel
theorem dX9_stepWind_82 : decode cX9_stepWind 82 = .ok (.getfield 7, 3) := by decide +kernel
theorem dX9_stepWind_85 : decode cX9_stepWind 85 = .ok (.sipush 935, 3) := by decide +kernel
theorem dX9_stepWind_88 : decode cX9_stepWind 88 = .ok (.iaload, 1) := by decide +kernel
theorem dX9_stepWind_89 : decode cX9_stepWind 89 = .ok (.iconst 2, 1) := by decide +kernel
theorem dX9_stepWind_90 : decode cX9_stepWind 90 = .ok (.if_icmp .ne 18, 3) := by decide +kernel
theorem dX9_stepWind_93 : decode cX9_stepWind 93 = .ok (.iload_n 3, 1) := by decide +kernel
theorem dX9_stepWind_94 : decode cX9_stepWind 94 = .ok (.aload_n 0, 1) := by decide +kernel
theorem dX9_stepWind_95 : decode cX9_stepWind 95 = .ok (.getfield 7, 3) := by decide +kernel
theorem dX9_stepWind_98 : decode cX9_stepWind 98 = .ok (.sipush 929, 3) := by decide +kernel
theorem dX9_stepWind_101 : decode cX9_stepWind 101 = .ok (.iaload, 1) := by decide +kernel
theorem dX9_stepWind_102 : decode cX9_stepWind 102 = .ok (.bipush 10, 2) := by decide +kernel
theorem dX9_stepWind_104 : decode cX9_stepWind 104 = .ok (.isub, 1) := by decide +kernel
theorem dX9_stepWind_105 : decode cX9_stepWind 105 = .ok (.if_icmp .lt 30, 3) := by decide +kernel
theorem dX9_stepWind_108 : decode cX9_stepWind 108 = .ok (.aload_n 0, 1) := by decide +kernel
theorem dX9_stepWind_109 : decode cX9_stepWind 109 = .ok (.getfield 7, 3) := by decide +kernel
theorem dX9_stepWind_112 : decode cX9_stepWind 112 = .ok (.sipush 935, 3) := by decide +kernel
theorem dX9_stepWind_115 : decode cX9_stepWind 115 = .ok (.iaload, 1) := by decide +kernel
theorem dX9_stepWind_116 : decode cX9_stepWind 116 = .ok (.iconst 1, 1) := by decide +kernel
theorem dX9_stepWind_117 : decode cX9_stepWind 117 = .ok (.if_icmp .ne 22, 3) := by decide +kernel
theorem dX9_stepWind_120 : decode cX9_stepWind 120 = .ok (.iload_n 3, 1) := by decide +kernel
theorem dX9_stepWind_121 : decode cX9_stepWind 121 = .ok (.aload_n 0, 1) := by decide +kernel
theorem dX9_stepWind_122 : decode cX9_stepWind 122 = .ok (.getfield 7, 3) := by decide +kernel
theorem dX9_stepWind_125 : decode cX9_stepWind 125 = .ok (.sipush 928, 3) := by decide +kernel
theorem dX9_stepWind_128 : decode cX9_stepWind 128 = .ok (.iaload, 1) := by decide +kernel
theorem dX9_stepWind_129 : decode cX9_stepWind 129 = .ok (.bipush 10, 2) := by decide +kernel
theorem dX9_stepWind_131 : decode cX9_stepWind 131 = .ok (.isub, 1) := by decide +kernel
theorem dX9_stepWind_132 : decode cX9_stepWind 132 = .ok (.if_icmp .ge 7, 3) := by decide +kernel
theorem dX9_stepWind_135 : decode cX9_stepWind 135 = .ok (.iconst 1, 1) := by decide +kernel
theorem dX9_stepWind_136 : decode cX9_stepWind 136 = .ok (.goto 4, 3) := by decide +kernel
theorem dX9_stepWind_139 : decode cX9_stepWind 139 = .ok (.iconst 0, 1) := by decide +kernel
theorem dX9_stepWind_140 : decode cX9_stepWind 140 = .ok (.istore 4, 2) := by decide +kernel
theorem dX9_stepWind_142 : decode cX9_stepWind 142 = .ok (.iload_n 3, 1) := by decide +kernel
theorem dX9_stepWind_143 : decode cX9_stepWind 143 = .ok (.aload_n 0, 1) := by decide +kernel
theorem dX9_stepWind_144 : decode cX9_stepWind 144 = .ok (.getfield 7, 3) := by decide +kernel
theorem dX9_stepWind_147 : decode cX9_stepWind 147 = .ok (.sipush 929, 3) := by decide +kernel
theorem dX9_stepWind_150 : decode cX9_stepWind 150 = .ok (.iaload, 1) := by decide +kernel
theorem dX9_stepWind_151 : decode cX9_stepWind 151 = .ok (.if_icmp .ge 26, 3) := by decide +kernel
theorem dX9_stepWind_154 : decode cX9_stepWind 154 = .ok (.iload_n 3, 1) := by decide +kernel
theorem dX9_stepWind_155 : decode cX9_stepWind 155 = .ok (.aload_n 0, 1) := by decide +kernel
theorem dX9_stepWind_156 : decode cX9_stepWind 156 = .ok (.getfield 7, 3) := by decide +kernel
theorem dX9_stepWind_159 : decode cX9_stepWind 159 = .ok (.sipush 928, 3) := by decide +kernel
theorem dX9_stepWind_162 : decode cX9_stepWind 162 = .ok (.iaload, 1) := by decide +kernel
theorem dX9_stepWind_163 : decode cX9_stepWind 163 = .ok (.if_icmp .lt 51, 3) := by decide +kernel
theorem dX9_stepWind_166 : decode cX9_stepWind 166 = .ok (.aload_n 0, 1) := by decide +kernel
theorem dX9_stepWind_167 : decode cX9_stepWind 167 = .ok (.getfield 7, 3) := by decide +kernel
theorem dX9_stepWind_170 : decode cX9_stepWind 170 = .ok (.sipush 935, 3) := by decide +kernel
theorem dX9_stepWind_173 : decode cX9_stepWind 173 = .ok (.iaload, 1) := by decide +kernel
theorem dX9_stepWind_174 : decode cX9_stepWind 174 = .ok (.ifCond .ne 40, 3) := by decide +kernel
theorem dX9_stepWind_177 : decode cX9_stepWind 177 = .ok (.aload_n 0, 1) := by decide +kernel
theorem dX9_stepWind_178 : decode cX9_stepWind 178 = .ok (.getfield 7, 3) := by decide +kernel
theorem dX9_stepWind_181 : decode cX9_stepWind 181 = .ok (.sipush 935, 3) := by decide +kernel
theorem dX9_stepWind_184 : decode cX9_stepWind 184 = .ok (.iload_n 3, 1) := by decide +kernel
theorem dX9_stepWind_185 : decode cX9_stepWind 185 = .ok (.aload_n 0, 1) := by decide +kernel
theorem dX9_stepWind_186 : decode cX9_stepWind 186 = .ok (.getfield 7, 3) := by decide +kernel
theorem dX9_stepWind_189 : decode cX9_stepWind 189 = .ok (.sipush 929, 3) := by decide +kernel
theorem dX9_stepWind_192 : decode cX9_stepWind 192 = .ok (.iaload, 1) := by decide +kernel
theorem dX9_stepWind_193 : decode cX9_stepWind 193 = .ok (.if_icmp .lt 7, 3) := by decide +kernel
theorem dX9_stepWind_196 : decode cX9_stepWind 196 = .ok (.iconst 2, 1) := by decide +kernel
theorem dX9_stepWind_197 : decode cX9_stepWind 197 = .ok (.goto 4, 3) := by decide +kernel
theorem dX9_stepWind_200 : decode cX9_stepWind 200 = .ok (.iconst 1, 1) := by decide +kernel
theorem dX9_stepWind_201 : decode cX9_stepWind 201 = .ok (.iastore, 1) := by decide +kernel
theorem dX9_stepWind_202 : decode cX9_stepWind 202 = .ok (.aload_n 0, 1) := by decide +kernel
theorem dX9_stepWind_203 : decode cX9_stepWind 203 = .ok (.getfield 7, 3) := by decide +kernel
theorem dX9_stepWind_206 : decode cX9_stepWind 206 = .ok (.sipush 936, 3) := by decide +kernel
theorem dX9_stepWind_209 : decode cX9_stepWind 209 = .ok (.iconst 0, 1) := by decide +kernel
theorem dX9_stepWind_210 : decode cX9_stepWind 210 = .ok (.iastore, 1) := by decide +kernel
theorem dX9_stepWind_211 : decode cX9_stepWind 211 = .ok (.goto 72, 3) := by decide +kernel
theorem dX9_stepWind_214 : decode cX9_stepWind 214 = .ok (.iload 4, 2) := by decide +kernel
theorem dX9_stepWind_216 : decode cX9_stepWind 216 = .ok (.ifCond .eq 58, 3) := by decide +kernel
theorem dX9_stepWind_219 : decode cX9_stepWind 219 = .ok (.aload_n 0, 1) := by decide +kernel
theorem dX9_stepWind_220 : decode cX9_stepWind 220 = .ok (.getfield 7, 3) := by decide +kernel
theorem dX9_stepWind_223 : decode cX9_stepWind 223 = .ok (.sipush 936, 3) := by decide +kernel
theorem dX9_stepWind_226 : decode cX9_stepWind 226 = .ok (.dup2, 1) := by decide +kernel
theorem dX9_stepWind_227 : decode cX9_stepWind 227 = .ok (.iaload, 1) := by decide +kernel
theorem dX9_stepWind_228 : decode cX9_stepWind 228 = .ok (.iconst 1, 1) := by decide +kernel
theorem dX9_stepWind_229 : decode cX9_stepWind 229 = .ok (.iadd, 1) := by decide +kernel
theorem dX9_stepWind_230 : decode cX9_stepWind 230 = .ok (.iastore, 1) := by decide +kernel
theorem dX9_stepWind_231 : decode cX9_stepWind 231 = .ok (.aload_n 0, 1) := by decide +kernel
theorem dX9_stepWind_232 : decode cX9_stepWind 232 = .ok (.getfield 7, 3) := by decide +kernel
theorem dX9_stepWind_235 : decode cX9_stepWind 235 = .ok (.sipush 936, 3) := by decide +kernel
theorem dX9_stepWind_238 : decode cX9_stepWind 238 = .ok (.iaload, 1) := by decide +kernel
theorem dX9_stepWind_239 : decode cX9_stepWind 239 = .ok (.aload_n 0, 1) := by decide +kernel
theorem dX9_stepWind_240 : decode cX9_stepWind 240 = .ok (.getfield 7, 3) := by decide +kernel
theorem dX9_stepWind_243 : decode cX9_stepWind 243 = .ok (.sipush 931, 3) := by decide +kernel
theorem dX9_stepWind_246 : decode cX9_stepWind 246 = .ok (.iaload, 1) := by decide +kernel
theorem dX9_stepWind_247 : decode cX9_stepWind 247 = .ok (.if_icmp .lt 36, 3) := by decide +kernel
theorem dX9_stepWind_250 : decode cX9_stepWind 250 = .ok (.aload_n 0, 1) := by decide +kernel
theorem dX9_stepWind_251 : decode cX9_stepWind 251 = .ok (.getfield 7, 3) := by decide +kernel
theorem dX9_stepWind_254 : decode cX9_stepWind 254 = .ok (.sipush 935, 3) := by decide +kernel
theorem dX9_stepWind_257 : decode cX9_stepWind 257 = .ok (.dup2, 1) := by decide +kernel
theorem dX9_stepWind_258 : decode cX9_stepWind 258 = .ok (.iaload, 1) := by decide +kernel
theorem dX9_stepWind_259 : decode cX9_stepWind 259 = .ok (.iconst 1, 1) := by decide +kernel
theorem dX9_stepWind_260 : decode cX9_stepWind 260 = .ok (.isub, 1) := by decide +kernel
theorem dX9_stepWind_261 : decode cX9_stepWind 261 = .ok (.iastore, 1) := by decide +kernel
theorem dX9_stepWind_262 : decode cX9_stepWind 262 = .ok (.aload_n 0, 1) := by decide +kernel
theorem dX9_stepWind_263 : decode cX9_stepWind 263 = .ok (.getfield 7, 3) := by decide +kernel
theorem dX9_stepWind_266 : decode cX9_stepWind 266 = .ok (.sipush 936, 3) := by decide +kernel
theorem dX9_stepWind_269 : decode cX9_stepWind 269 = .ok (.iconst 0, 1) := by decide +kernel
theorem dX9_stepWind_270 : decode cX9_stepWind 270 = .ok (.iastore, 1) := by decide +kernel
theorem dX9_stepWind_271 : decode cX9_stepWind 271 = .ok (.goto 12, 3) := by decide +kernel
theorem dX9_stepWind_274 : decode cX9_stepWind 274 = .ok (.aload_n 0, 1) := by decide +kernel
theorem dX9_stepWind_275 : decode cX9_stepWind 275 = .ok (.getfield 7, 3) := by decide +kernel
theorem dX9_stepWind_278 : decode cX9_stepWind 278 = .ok (.sipush 936, 3) := by decide +kernel
theorem dX9_stepWind_281 : decode cX9_stepWind 281 = .ok (.iconst 0, 1) := by decide +kernel
theorem dX9_stepWind_282 : decode cX9_stepWind 282 = .ok (.iastore, 1) := by decide +kernel
theorem dX9_stepWind_283 : decode cX9_stepWind 283 = .ok (.return_, 1) := by decide +kernel
theorem dX9_goal_0 : decode cX9_goal 0 = .ok (.aload_n 0, 1) := by decide +kernel
theorem dX9_goal_1 : decode cX9_goal 1 = .ok (.getfield 7, 3) := by decide +kernel
theorem dX9_goal_4 : decode cX9_goal 4 = .ok (.sipush 937, 3) := by decide +kernel
theorem dX9_goal_7 : decode cX9_goal 7 = .ok (.iaload, 1) := by decide +kernel
theorem dX9_goal_8 : decode cX9_goal 8 = .ok (.aload_n 0, 1) := by decide +kernel
theorem dX9_goal_9 : decode cX9_goal 9 = .ok (.getfield 7, 3) := by decide +kernel
theorem dX9_goal_12 : decode cX9_goal 12 = .ok (.bipush 12, 2) := by decide +kernel
theorem dX9_goal_14 : decode cX9_goal 14 = .ok (.iload_n 1, 1) := by decide +kernel
theorem dX9_goal_15 : decode cX9_goal 15 = .ok (.imul, 1) := by decide +kernel
theorem dX9_goal_16 : decode cX9_goal 16 = .ok (.iconst 2, 1) := by decide +kernel
theorem dX9_goal_17 : decode cX9_goal 17 = .ok (.iadd, 1) := by decide +kernel
theorem dX9_goal_18 : decode cX9_goal 18 = .ok (.iaload, 1) := by decide +kernel
theorem dX9_goal_19 : decode cX9_goal 19 = .ok (.isub, 1) := by decide +kernel
theorem dX9_goal_20 : decode cX9_goal 20 = .ok (.istore_n 2, 1) := by decide +kernel
theorem dX9_goal_21 : decode cX9_goal 21 = .ok (.iload_n 2, 1) := by decide +kernel
theorem dX9_goal_22 : decode cX9_goal 22 = .ok (.ifCond .ge 7, 3) := by decide +kernel
theorem dX9_goal_25 : decode cX9_goal 25 = .ok (.iconst 0, 1) := by decide +kernel
theorem dX9_goal_26 : decode cX9_goal 26 = .ok (.goto 21, 3) := by decide +kernel
theorem dX9_goal_29 : decode cX9_goal 29 = .ok (.aload_n 0, 1) := by decide +kernel
theorem dX9_goal_30 : decode cX9_goal 30 = .ok (.getfield 7, 3) := by decide +kernel
theorem dX9_goal_33 : decode cX9_goal 33 = .ok (.sipush 144, 3) := by decide +kernel
theorem dX9_goal_36 : decode cX9_goal 36 = .ok (.bipush 64, 2) := by decide +kernel
theorem dX9_goal_38 : decode cX9_goal 38 = .ok (.iload_n 1, 1) := by decide +kernel
theorem dX9_goal_39 : decode cX9_goal 39 = .ok (.imul, 1) := by decide +kernel
theorem dX9_goal_40 : decode cX9_goal 40 = .ok (.iadd, 1) := by decide +kernel
theorem dX9_goal_41 : decode cX9_goal 41 = .ok (.iload_n 2, 1) := by decide +kernel
theorem dX9_goal_42 : decode cX9_goal 42 = .ok (.bipush 64, 2) := by decide +kernel
theorem dX9_goal_44 : decode cX9_goal 44 = .ok (.irem, 1) := by decide +kernel
theorem dX9_goal_45 : decode cX9_goal 45 = .ok (.iadd, 1) := by decide +kernel
theorem dX9_goal_46 : decode cX9_goal 46 = .ok (.iaload, 1) := by decide +kernel
theorem dX9_goal_47 : decode cX9_goal 47 = .ok (.istore_n 3, 1) := by decide +kernel
theorem dX9_goal_48 : decode cX9_goal 48 = .ok (.aload_n 0, 1) := by decide +kernel
theorem dX9_goal_49 : decode cX9_goal 49 = .ok (.getfield 7, 3) := by decide +kernel
theorem dX9_goal_52 : decode cX9_goal 52 = .ok (.sipush 935, 3) := by decide +kernel
theorem dX9_goal_55 : decode cX9_goal 55 = .ok (.iaload, 1) := by decide +kernel
theorem dX9_goal_56 : decode cX9_goal 56 = .ok (.iconst 2, 1) := by decide +kernel
theorem dX9_goal_57 : decode cX9_goal 57 = .ok (.if_icmp .ne 7, 3) := by decide +kernel
theorem dX9_goal_60 : decode cX9_goal 60 = .ok (.iconst 0, 1) := by decide +kernel
theorem dX9_goal_61 : decode cX9_goal 61 = .ok (.goto 39, 3) := by decide +kernel
theorem dX9_goal_64 : decode cX9_goal 64 = .ok (.aload_n 0, 1) := by decide +kernel
theorem dX9_goal_65 : decode cX9_goal 65 = .ok (.getfield 7, 3) := by decide +kernel
theorem dX9_goal_68 : decode cX9_goal 68 = .ok (.sipush 935, 3) := by decide +kernel
theorem dX9_goal_71 : decode cX9_goal 71 = .ok (.iaload, 1) := by decide +kernel
theorem dX9_goal_72 : decode cX9_goal 72 = .ok (.iconst 1, 1) := by decide +kernel
theorem dX9_goal_73 : decode cX9_goal 73 = .ok (.if_icmp .ne 26, 3) := by decide +kernel
theorem dX9_goal_76 : decode cX9_goal 76 = .ok (.iload_n 3, 1) := by decide +kernel
theorem dX9_goal_77 : decode cX9_goal 77 = .ok (.aload_n 0, 1) := by decide +kernel
theorem dX9_goal_78 : decode cX9_goal 78 = .ok (.getfield 7, 3) := by decide +kernel
theorem dX9_goal_81 : decode cX9_goal 81 = .ok (.sipush 930, 3) := by decide +kernel
theorem dX9_goal_84 : decode cX9_goal 84 = .ok (.iaload, 1) := by decide +kernel
theorem dX9_goal_85 : decode cX9_goal 85 = .ok (.if_icmp .le 14, 3) := by decide +kernel
theorem dX9_goal_88 : decode cX9_goal 88 = .ok (.aload_n 0, 1) := by decide +kernel
theorem dX9_goal_89 : decode cX9_goal 89 = .ok (.getfield 7, 3) := by decide +kernel
theorem dX9_goal_92 : decode cX9_goal 92 = .ok (.sipush 930, 3) := by decide +kernel
theorem dX9_goal_95 : decode cX9_goal 95 = .ok (.iaload, 1) := by decide +kernel
theorem dX9_goal_96 : decode cX9_goal 96 = .ok (.goto 4, 3) := by decide +kernel
theorem dX9_goal_99 : decode cX9_goal 99 = .ok (.iload_n 3, 1) := by decide +kernel
theorem dX9_goal_100 : decode cX9_goal 100 = .ok (.ireturn, 1) := by decide +kernel
theorem dX9_stepPump_0 : decode cX9_stepPump 0 = .ok (.sipush 912, 3) := by decide +kernel
theorem dX9_stepPump_3 : decode cX9_stepPump 3 = .ok (.iconst 5, 1) := by decide +kernel
theorem dX9_stepPump_4 : decode cX9_stepPump 4 = .ok (.iload_n 1, 1) := by decide +kernel
theorem dX9_stepPump_5 : decode cX9_stepPump 5 = .ok (.imul, 1) := by decide +kernel
theorem dX9_stepPump_6 : decode cX9_stepPump 6 = .ok (.iadd, 1) := by decide +kernel
theorem dX9_stepPump_7 : decode cX9_stepPump 7 = .ok (.istore_n 2, 1) := by decide +kernel
theorem dX9_stepPump_8 : decode cX9_stepPump 8 = .ok (.iconst 0, 1) := by decide +kernel
theorem dX9_stepPump_9 : decode cX9_stepPump 9 = .ok (.istore_n 3, 1) := by decide +kernel
theorem dX9_stepPump_10 : decode cX9_stepPump 10 = .ok (.iconst 0, 1) := by decide +kernel
theorem dX9_stepPump_11 : decode cX9_stepPump 11 = .ok (.istore 4, 2) := by decide +kernel
theorem dX9_stepPump_13 : decode cX9_stepPump 13 = .ok (.iload 4, 2) := by decide +kernel
theorem dX9_stepPump_15 : decode cX9_stepPump 15 = .ok (.aload_n 0, 1) := by decide +kernel
theorem dX9_stepPump_16 : decode cX9_stepPump 16 = .ok (.getfield 7, 3) := by decide +kernel
theorem dX9_stepPump_19 : decode cX9_stepPump 19 = .ok (.sipush 938, 3) := by decide +kernel
theorem dX9_stepPump_22 : decode cX9_stepPump 22 = .ok (.iaload, 1) := by decide +kernel
theorem dX9_stepPump_23 : decode cX9_stepPump 23 = .ok (.if_icmp .ge 58, 3) := by decide +kernel
theorem dX9_stepPump_26 : decode cX9_stepPump 26 = .ok (.iload_n 3, 1) := by decide +kernel
theorem dX9_stepPump_27 : decode cX9_stepPump 27 = .ok (.aload_n 0, 1) := by decide +kernel
theorem dX9_stepPump_28 : decode cX9_stepPump 28 = .ok (.getfield 7, 3) := by decide +kernel
theorem dX9_stepPump_31 : decode cX9_stepPump 31 = .ok (.bipush 12, 2) := by decide +kernel
theorem dX9_stepPump_33 : decode cX9_stepPump 33 = .ok (.iload 4, 2) := by decide +kernel
theorem dX9_stepPump_35 : decode cX9_stepPump 35 = .ok (.imul, 1) := by decide +kernel
theorem dX9_stepPump_36 : decode cX9_stepPump 36 = .ok (.iconst 4, 1) := by decide +kernel
theorem dX9_stepPump_37 : decode cX9_stepPump 37 = .ok (.iadd, 1) := by decide +kernel
theorem dX9_stepPump_38 : decode cX9_stepPump 38 = .ok (.iaload, 1) := by decide +kernel
theorem dX9_stepPump_39 : decode cX9_stepPump 39 = .ok (.iload_n 1, 1) := by decide +kernel
theorem dX9_stepPump_40 : decode cX9_stepPump 40 = .ok (.if_icmp .ne 32, 3) := by decide +kernel
theorem dX9_stepPump_43 : decode cX9_stepPump 43 = .ok (.aload_n 0, 1) := by decide +kernel
theorem dX9_stepPump_44 : decode cX9_stepPump 44 = .ok (.getfield 7, 3) := by decide +kernel
theorem dX9_stepPump_47 : decode cX9_stepPump 47 = .ok (.bipush 12, 2) := by decide +kernel
theorem dX9_stepPump_49 : decode cX9_stepPump 49 = .ok (.iload 4, 2) := by decide +kernel
theorem dX9_stepPump_51 : decode cX9_stepPump 51 = .ok (.imul, 1) := by decide +kernel
theorem dX9_stepPump_52 : decode cX9_stepPump 52 = .ok (.bipush 7, 2) := by decide +kernel
theorem dX9_stepPump_54 : decode cX9_stepPump 54 = .ok (.iadd, 1) := by decide +kernel
theorem dX9_stepPump_55 : decode cX9_stepPump 55 = .ok (.iaload, 1) := by decide +kernel
theorem dX9_stepPump_56 : decode cX9_stepPump 56 = .ok (.aload_n 0, 1) := by decide +kernel
theorem dX9_stepPump_57 : decode cX9_stepPump 57 = .ok (.getfield 7, 3) := by decide +kernel
theorem dX9_stepPump_60 : decode cX9_stepPump 60 = .ok (.bipush 12, 2) := by decide +kernel
theorem dX9_stepPump_62 : decode cX9_stepPump 62 = .ok (.iload 4, 2) := by decide +kernel
theorem dX9_stepPump_64 : decode cX9_stepPump 64 = .ok (.imul, 1) := by decide +kernel
theorem dX9_stepPump_65 : decode cX9_stepPump 65 = .ok (.iconst 0, 1) := by decide +kernel
theorem dX9_stepPump_66 : decode cX9_stepPump 66 = .ok (.iadd, 1) := by decide +kernel
theorem dX9_stepPump_67 : decode cX9_stepPump 67 = .ok (.iaload, 1) := by decide +kernel
theorem dX9_stepPump_68 : decode cX9_stepPump 68 = .ok (.imul, 1) := by decide +kernel
theorem dX9_stepPump_69 : decode cX9_stepPump 69 = .ok (.goto 4, 3) := by decide +kernel
theorem dX9_stepPump_72 : decode cX9_stepPump 72 = .ok (.iconst 0, 1) := by decide +kernel
theorem dX9_stepPump_73 : decode cX9_stepPump 73 = .ok (.iadd, 1) := by decide +kernel
theorem dX9_stepPump_74 : decode cX9_stepPump 74 = .ok (.istore_n 3, 1) := by decide +kernel
theorem dX9_stepPump_75 : decode cX9_stepPump 75 = .ok (.iinc 4 1, 3) := by decide +kernel
theorem dX9_stepPump_78 : decode cX9_stepPump 78 = .ok (.goto (-65), 3) := by decide +kernel
theorem dX9_stepPump_81 : decode cX9_stepPump 81 = .ok (.sipush 1000, 3) := by decide +kernel
theorem dX9_stepPump_84 : decode cX9_stepPump 84 = .ok (.aload_n 0, 1) := by decide +kernel
theorem dX9_stepPump_85 : decode cX9_stepPump 85 = .ok (.getfield 7, 3) := by decide +kernel
theorem dX9_stepPump_88 : decode cX9_stepPump 88 = .ok (.iload_n 2, 1) := by decide +kernel
theorem dX9_stepPump_89 : decode cX9_stepPump 89 = .ok (.iconst 0, 1) := by decide +kernel
theorem dX9_stepPump_90 : decode cX9_stepPump 90 = .ok (.iadd, 1) := by decide +kernel
theorem dX9_stepPump_91 : decode cX9_stepPump 91 = .ok (.iaload, 1) := by decide +kernel
theorem dX9_stepPump_92 : decode cX9_stepPump 92 = .ok (.imul, 1) := by decide +kernel
theorem dX9_stepPump_93 : decode cX9_stepPump 93 = .ok (.istore 4, 2) := by decide +kernel
theorem dX9_stepPump_95 : decode cX9_stepPump 95 = .ok (.aload_n 0, 1) := by decide +kernel
theorem dX9_stepPump_96 : decode cX9_stepPump 96 = .ok (.getfield 7, 3) := by decide +kernel
theorem dX9_stepPump_99 : decode cX9_stepPump 99 = .ok (.iload_n 2, 1) := by decide +kernel
theorem dX9_stepPump_100 : decode cX9_stepPump 100 = .ok (.iconst 3, 1) := by decide +kernel
theorem dX9_stepPump_101 : decode cX9_stepPump 101 = .ok (.iadd, 1) := by decide +kernel
theorem dX9_stepPump_102 : decode cX9_stepPump 102 = .ok (.iload_n 3, 1) := by decide +kernel
theorem dX9_stepPump_103 : decode cX9_stepPump 103 = .ok (.iastore, 1) := by decide +kernel
theorem dX9_stepPump_104 : decode cX9_stepPump 104 = .ok (.aload_n 0, 1) := by decide +kernel
theorem dX9_stepPump_105 : decode cX9_stepPump 105 = .ok (.getfield 7, 3) := by decide +kernel
theorem dX9_stepPump_108 : decode cX9_stepPump 108 = .ok (.iload_n 2, 1) := by decide +kernel
theorem dX9_stepPump_109 : decode cX9_stepPump 109 = .ok (.iconst 2, 1) := by decide +kernel
theorem dX9_stepPump_110 : decode cX9_stepPump 110 = .ok (.iadd, 1) := by decide +kernel
theorem dX9_stepPump_111 : decode cX9_stepPump 111 = .ok (.aload_n 0, 1) := by decide +kernel
theorem dX9_stepPump_112 : decode cX9_stepPump 112 = .ok (.getfield 7, 3) := by decide +kernel
theorem dX9_stepPump_115 : decode cX9_stepPump 115 = .ok (.iload_n 2, 1) := by decide +kernel
theorem dX9_stepPump_116 : decode cX9_stepPump 116 = .ok (.iconst 2, 1) := by decide +kernel
theorem dX9_stepPump_117 : decode cX9_stepPump 117 = .ok (.iadd, 1) := by decide +kernel
theorem dX9_stepPump_118 : decode cX9_stepPump 118 = .ok (.iaload, 1) := by decide +kernel
theorem dX9_stepPump_119 : decode cX9_stepPump 119 = .ok (.iload_n 3, 1) := by decide +kernel
theorem dX9_stepPump_120 : decode cX9_stepPump 120 = .ok (.iload 4, 2) := by decide +kernel
theorem dX9_stepPump_122 : decode cX9_stepPump 122 = .ok (.if_icmp .ge 7, 3) := by decide +kernel
theorem dX9_stepPump_125 : decode cX9_stepPump 125 = .ok (.iload_n 3, 1) := by decide +kernel
theorem dX9_stepPump_126 : decode cX9_stepPump 126 = .ok (.goto 5, 3) := by decide +kernel
theorem dX9_stepPump_129 : decode cX9_stepPump 129 = .ok (.iload 4, 2) := by decide +kernel
theorem dX9_stepPump_131 : decode cX9_stepPump 131 = .ok (.sipush 1000, 3) := by decide +kernel
theorem dX9_stepPump_134 : decode cX9_stepPump 134 = .ok (.aload_n 0, 1) := by decide +kernel
theorem dX9_stepPump_135 : decode cX9_stepPump 135 = .ok (.getfield 7, 3) := by decide +kernel
theorem dX9_stepPump_138 : decode cX9_stepPump 138 = .ok (.iload_n 2, 1) := by decide +kernel
theorem dX9_stepPump_139 : decode cX9_stepPump 139 = .ok (.iconst 1, 1) := by decide +kernel
theorem dX9_stepPump_140 : decode cX9_stepPump 140 = .ok (.iadd, 1) := by decide +kernel
theorem dX9_stepPump_141 : decode cX9_stepPump 141 = .ok (.iaload, 1) := by decide +kernel
theorem dX9_stepPump_142 : decode cX9_stepPump 142 = .ok (.imul, 1) := by decide +kernel
theorem dX9_stepPump_143 : decode cX9_stepPump 143 = .ok (.invokestatic 80, 3) := by decide +kernel
theorem dX9_stepPump_146 : decode cX9_stepPump 146 = .ok (.iastore, 1) := by decide +kernel
theorem dX9_stepPump_147 : decode cX9_stepPump 147 = .ok (.aload_n 0, 1) := by decide +kernel
theorem dX9_stepPump_148 : decode cX9_stepPump 148 = .ok (.getfield 7, 3) := by decide +kernel
theorem dX9_stepPump_151 : decode cX9_stepPump 151 = .ok (.iload_n 2, 1) := by decide +kernel
theorem dX9_stepPump_152 : decode cX9_stepPump 152 = .ok (.iconst 4, 1) := by decide +kernel
theorem dX9_stepPump_153 : decode cX9_stepPump 153 = .ok (.iadd, 1) := by decide +kernel
theorem dX9_stepPump_154 : decode cX9_stepPump 154 = .ok (.dup2, 1) := by decide +kernel
theorem dX9_stepPump_155 : decode cX9_stepPump 155 = .ok (.iaload, 1) := by decide +kernel
theorem dX9_stepPump_156 : decode cX9_stepPump 156 = .ok (.iload_n 3, 1) := by decide +kernel
theorem dX9_stepPump_157 : decode cX9_stepPump 157 = .ok (.aload_n 0, 1) := by decide +kernel
theorem dX9_stepPump_158 : decode cX9_stepPump 158 = .ok (.getfield 7, 3) := by decide +kernel
theorem dX9_stepPump_161 : decode cX9_stepPump 161 = .ok (.iload_n 2, 1) := by decide +kernel
theorem dX9_stepPump_162 : decode cX9_stepPump 162 = .ok (.iconst 2, 1) := by decide +kernel
theorem dX9_stepPump_163 : decode cX9_stepPump 163 = .ok (.iadd, 1) := by decide +kernel
theorem dX9_stepPump_164 : decode cX9_stepPump 164 = .ok (.iaload, 1) := by decide +kernel
theorem dX9_stepPump_165 : decode cX9_stepPump 165 = .ok (.if_icmp .le 7, 3) := by decide +kernel
theorem dX9_stepPump_168 : decode cX9_stepPump 168 = .ok (.iconst 1, 1) := by decide +kernel
theorem dX9_stepPump_169 : decode cX9_stepPump 169 = .ok (.goto 4, 3) := by decide +kernel
theorem dX9_stepPump_172 : decode cX9_stepPump 172 = .ok (.iconst 0, 1) := by decide +kernel
theorem dX9_stepPump_173 : decode cX9_stepPump 173 = .ok (.iadd, 1) := by decide +kernel
theorem dX9_stepPump_174 : decode cX9_stepPump 174 = .ok (.iastore, 1) := by decide +kernel
theorem dX9_stepPump_175 : decode cX9_stepPump 175 = .ok (.return_, 1) := by decide +kernel
theorem dX9_stepNozzle_0 : decode cX9_stepNozzle 0 = .ok (.bipush 12, 2) := by decide +kernel
theorem dX9_stepNozzle_2 : decode cX9_stepNozzle 2 = .ok (.iload_n 1, 1) := by decide +kernel
theorem dX9_stepNozzle_3 : decode cX9_stepNozzle 3 = .ok (.imul, 1) := by decide +kernel
theorem dX9_stepNozzle_4 : decode cX9_stepNozzle 4 = .ok (.istore_n 2, 1) := by decide +kernel
theorem dX9_stepNozzle_5 : decode cX9_stepNozzle 5 = .ok (.sipush 912, 3) := by decide +kernel
theorem dX9_stepNozzle_8 : decode cX9_stepNozzle 8 = .ok (.iconst 5, 1) := by decide +kernel
theorem dX9_stepNozzle_9 : decode cX9_stepNozzle 9 = .ok (.aload_n 0, 1) := by decide +kernel
theorem dX9_stepNozzle_10 : decode cX9_stepNozzle 10 = .ok (.getfield 7, 3) := by decide +kernel
theorem dX9_stepNozzle_13 : decode cX9_stepNozzle 13 = .ok (.iload_n 2, 1) := by decide +kernel
theorem dX9_stepNozzle_14 : decode cX9_stepNozzle 14 = .ok (.iconst 4, 1) := by decide +kernel
theorem dX9_stepNozzle_15 : decode cX9_stepNozzle 15 = .ok (.iadd, 1) := by decide +kernel
theorem dX9_stepNozzle_16 : decode cX9_stepNozzle 16 = .ok (.iaload, 1) := by decide +kernel
theorem dX9_stepNozzle_17 : decode cX9_stepNozzle 17 = .ok (.imul, 1) := by decide +kernel
theorem dX9_stepNozzle_18 : decode cX9_stepNozzle 18 = .ok (.iadd, 1) := by decide +kernel
theorem dX9_stepNozzle_19 : decode cX9_stepNozzle 19 = .ok (.istore_n 3, 1) := by decide +kernel
theorem dX9_stepNozzle_20 : decode cX9_stepNozzle 20 = .ok (.aload_n 0, 1) := by decide +kernel
theorem dX9_stepNozzle_21 : decode cX9_stepNozzle 21 = .ok (.getfield 7, 3) := by decide +kernel
theorem dX9_stepNozzle_24 : decode cX9_stepNozzle 24 = .ok (.iload_n 2, 1) := by decide +kernel
theorem dX9_stepNozzle_25 : decode cX9_stepNozzle 25 = .ok (.bipush 7, 2) := by decide +kernel
theorem dX9_stepNozzle_27 : decode cX9_stepNozzle 27 = .ok (.iadd, 1) := by decide +kernel
theorem dX9_stepNozzle_28 : decode cX9_stepNozzle 28 = .ok (.iaload, 1) := by decide +kernel
theorem dX9_stepNozzle_29 : decode cX9_stepNozzle 29 = .ok (.aload_n 0, 1) := by decide +kernel
theorem dX9_stepNozzle_30 : decode cX9_stepNozzle 30 = .ok (.getfield 7, 3) := by decide +kernel
theorem dX9_stepNozzle_33 : decode cX9_stepNozzle 33 = .ok (.iload_n 2, 1) := by decide +kernel
theorem dX9_stepNozzle_34 : decode cX9_stepNozzle 34 = .ok (.iconst 0, 1) := by decide +kernel
theorem dX9_stepNozzle_35 : decode cX9_stepNozzle 35 = .ok (.iadd, 1) := by decide +kernel
theorem dX9_stepNozzle_36 : decode cX9_stepNozzle 36 = .ok (.iaload, 1) := by decide +kernel
theorem dX9_stepNozzle_37 : decode cX9_stepNozzle 37 = .ok (.imul, 1) := by decide +kernel
theorem dX9_stepNozzle_38 : decode cX9_stepNozzle 38 = .ok (.i2l, 1) := by decide +kernel
theorem dX9_stepNozzle_39 : decode cX9_stepNozzle 39 = .ok (.lstore 4, 2) := by decide +kernel
theorem dX9_stepNozzle_41 : decode cX9_stepNozzle 41 = .ok (.aload_n 0, 1) := by decide +kernel
theorem dX9_stepNozzle_42 : decode cX9_stepNozzle 42 = .ok (.getfield 7, 3) := by decide +kernel
theorem dX9_stepNozzle_45 : decode cX9_stepNozzle 45 = .ok (.iload_n 3, 1) := by decide +kernel
theorem dX9_stepNozzle_46 : decode cX9_stepNozzle 46 = .ok (.iconst 3, 1) := by decide +kernel
theorem dX9_stepNozzle_47 : decode cX9_stepNozzle 47 = .ok (.iadd, 1) := by decide +kernel
theorem dX9_stepNozzle_48 : decode cX9_stepNozzle 48 = .ok (.iaload, 1) := by decide +kernel
theorem dX9_stepNozzle_49 : decode cX9_stepNozzle 49 = .ok (.aload_n 0, 1) := by decide +kernel
theorem dX9_stepNozzle_50 : decode cX9_stepNozzle 50 = .ok (.getfield 7, 3) := by decide +kernel
theorem dX9_stepNozzle_53 : decode cX9_stepNozzle 53 = .ok (.iload_n 3, 1) := by decide +kernel
theorem dX9_stepNozzle_54 : decode cX9_stepNozzle 54 = .ok (.iconst 2, 1) := by decide +kernel
theorem dX9_stepNozzle_55 : decode cX9_stepNozzle 55 = .ok (.iadd, 1) := by decide +kernel
theorem dX9_stepNozzle_56 : decode cX9_stepNozzle 56 = .ok (.iaload, 1) := by decide +kernel
theorem dX9_stepNozzle_57 : decode cX9_stepNozzle 57 = .ok (.if_icmp .gt 7, 3) := by decide +kernel
theorem dX9_stepNozzle_60 : decode cX9_stepNozzle 60 = .ok (.iconst 1, 1) := by decide +kernel
theorem dX9_stepNozzle_61 : decode cX9_stepNozzle 61 = .ok (.goto 4, 3) := by decide +kernel
theorem dX9_stepNozzle_64 : decode cX9_stepNozzle 64 = .ok (.iconst 0, 1) := by decide +kernel
theorem dX9_stepNozzle_65 : decode cX9_stepNozzle 65 = .ok (.istore 6, 2) := by decide +kernel
theorem dX9_stepNozzle_67 : decode cX9_stepNozzle 67 = .ok (.aload_n 0, 1) := by decide +kernel
theorem dX9_stepNozzle_68 : decode cX9_stepNozzle 68 = .ok (.getfield 7, 3) := by decide +kernel
theorem dX9_stepNozzle_71 : decode cX9_stepNozzle 71 = .ok (.iload_n 2, 1) := by decide +kernel
theorem dX9_stepNozzle_72 : decode cX9_stepNozzle 72 = .ok (.bipush 8, 2) := by decide +kernel
theorem dX9_stepNozzle_74 : decode cX9_stepNozzle 74 = .ok (.iadd, 1) := by decide +kernel
theorem dX9_stepNozzle_75 : decode cX9_stepNozzle 75 = .ok (.iload 6, 2) := by decide +kernel
theorem dX9_stepNozzle_77 : decode cX9_stepNozzle 77 = .ok (.ifCond .eq 8, 3) := by decide +kernel
theorem dX9_stepNozzle_80 : decode cX9_stepNozzle 80 = .ok (.lload 4, 2) := by decide +kernel
theorem dX9_stepNozzle_82 : decode cX9_stepNozzle 82 = .ok (.goto 25, 3) := by decide +kernel
theorem dX9_stepNozzle_85 : decode cX9_stepNozzle 85 = .ok (.lload 4, 2) := by decide +kernel
theorem dX9_stepNozzle_87 : decode cX9_stepNozzle 87 = .ok (.aload_n 0, 1) := by decide +kernel
theorem dX9_stepNozzle_88 : decode cX9_stepNozzle 88 = .ok (.getfield 7, 3) := by decide +kernel
theorem dX9_stepNozzle_91 : decode cX9_stepNozzle 91 = .ok (.iload_n 3, 1) := by decide +kernel
theorem dX9_stepNozzle_92 : decode cX9_stepNozzle 92 = .ok (.iconst 2, 1) := by decide +kernel
theorem dX9_stepNozzle_93 : decode cX9_stepNozzle 93 = .ok (.iadd, 1) := by decide +kernel
theorem dX9_stepNozzle_94 : decode cX9_stepNozzle 94 = .ok (.iaload, 1) := by decide +kernel
theorem dX9_stepNozzle_95 : decode cX9_stepNozzle 95 = .ok (.i2l, 1) := by decide +kernel
theorem dX9_stepNozzle_96 : decode cX9_stepNozzle 96 = .ok (.lmul, 1) := by decide +kernel
theorem dX9_stepNozzle_97 : decode cX9_stepNozzle 97 = .ok (.aload_n 0, 1) := by decide +kernel
theorem dX9_stepNozzle_98 : decode cX9_stepNozzle 98 = .ok (.getfield 7, 3) := by decide +kernel
theorem dX9_stepNozzle_101 : decode cX9_stepNozzle 101 = .ok (.iload_n 3, 1) := by decide +kernel
theorem dX9_stepNozzle_102 : decode cX9_stepNozzle 102 = .ok (.iconst 3, 1) := by decide +kernel
theorem dX9_stepNozzle_103 : decode cX9_stepNozzle 103 = .ok (.iadd, 1) := by decide +kernel
theorem dX9_stepNozzle_104 : decode cX9_stepNozzle 104 = .ok (.iaload, 1) := by decide +kernel
theorem dX9_stepNozzle_105 : decode cX9_stepNozzle 105 = .ok (.i2l, 1) := by decide +kernel
theorem dX9_stepNozzle_106 : decode cX9_stepNozzle 106 = .ok (.ldiv, 1) := by decide +kernel
theorem dX9_stepNozzle_107 : decode cX9_stepNozzle 107 = .ok (.l2i, 1) := by decide +kernel
theorem dX9_stepNozzle_108 : decode cX9_stepNozzle 108 = .ok (.iastore, 1) := by decide +kernel
theorem dX9_stepNozzle_109 : decode cX9_stepNozzle 109 = .ok (.aload_n 0, 1) := by decide +kernel
theorem dX9_stepNozzle_110 : decode cX9_stepNozzle 110 = .ok (.getfield 7, 3) := by decide +kernel
theorem dX9_stepNozzle_113 : decode cX9_stepNozzle 113 = .ok (.iload_n 2, 1) := by decide +kernel
theorem dX9_stepNozzle_114 : decode cX9_stepNozzle 114 = .ok (.bipush 8, 2) := by decide +kernel
theorem dX9_stepNozzle_116 : decode cX9_stepNozzle 116 = .ok (.iadd, 1) := by decide +kernel
theorem dX9_stepNozzle_117 : decode cX9_stepNozzle 117 = .ok (.iaload, 1) := by decide +kernel
theorem dX9_stepNozzle_118 : decode cX9_stepNozzle 118 = .ok (.aload_n 0, 1) := by decide +kernel
theorem dX9_stepNozzle_119 : decode cX9_stepNozzle 119 = .ok (.getfield 7, 3) := by decide +kernel
theorem dX9_stepNozzle_122 : decode cX9_stepNozzle 122 = .ok (.iload_n 2, 1) := by decide +kernel
theorem dX9_stepNozzle_123 : decode cX9_stepNozzle 123 = .ok (.iconst 0, 1) := by decide +kernel
theorem dX9_stepNozzle_124 : decode cX9_stepNozzle 124 = .ok (.iadd, 1) := by decide +kernel
theorem dX9_stepNozzle_125 : decode cX9_stepNozzle 125 = .ok (.iaload, 1) := by decide +kernel
theorem dX9_stepNozzle_126 : decode cX9_stepNozzle 126 = .ok (.idiv, 1) := by decide +kernel
theorem dX9_stepNozzle_127 : decode cX9_stepNozzle 127 = .ok (.i2l, 1) := by decide +kernel
theorem dX9_stepNozzle_128 : decode cX9_stepNozzle 128 = .ok (.lstore 7, 2) := by decide +kernel
theorem dX9_stepNozzle_130 : decode cX9_stepNozzle 130 = .ok (.aload_n 0, 1) := by decide +kernel
theorem dX9_stepNozzle_131 : decode cX9_stepNozzle 131 = .ok (.getfield 7, 3) := by decide +kernel
theorem dX9_stepNozzle_134 : decode cX9_stepNozzle 134 = .ok (.iload_n 2, 1) := by decide +kernel
theorem dX9_stepNozzle_135 : decode cX9_stepNozzle 135 = .ok (.bipush 9, 2) := by decide +kernel
theorem dX9_stepNozzle_137 : decode cX9_stepNozzle 137 = .ok (.iadd, 1) := by decide +kernel
theorem dX9_stepNozzle_138 : decode cX9_stepNozzle 138 = .ok (.aload_n 0, 1) := by decide +kernel
theorem dX9_stepNozzle_139 : decode cX9_stepNozzle 139 = .ok (.getfield 7, 3) := by decide +kernel
theorem dX9_stepNozzle_142 : decode cX9_stepNozzle 142 = .ok (.iload_n 2, 1) := by decide +kernel
theorem dX9_stepNozzle_143 : decode cX9_stepNozzle 143 = .ok (.iconst 1, 1) := by decide +kernel
theorem dX9_stepNozzle_144 : decode cX9_stepNozzle 144 = .ok (.iadd, 1) := by decide +kernel
theorem dX9_stepNozzle_145 : decode cX9_stepNozzle 145 = .ok (.iaload, 1) := by decide +kernel
theorem dX9_stepNozzle_146 : decode cX9_stepNozzle 146 = .ok (.i2l, 1) := by decide +kernel
theorem dX9_stepNozzle_147 : decode cX9_stepNozzle 147 = .ok (.lload 7, 2) := by decide +kernel
theorem dX9_stepNozzle_149 : decode cX9_stepNozzle 149 = .ok (.lmul, 1) := by decide +kernel
theorem dX9_stepNozzle_150 : decode cX9_stepNozzle 150 = .ok (.lload 7, 2) := by decide +kernel
theorem dX9_stepNozzle_152 : decode cX9_stepNozzle 152 = .ok (.lmul, 1) := by decide +kernel
theorem dX9_stepNozzle_153 : decode cX9_stepNozzle 153 = .ok (.ldc2_w 83, 3) := by decide +kernel
theorem dX9_stepNozzle_156 : decode cX9_stepNozzle 156 = .ok (.ldiv, 1) := by decide +kernel
theorem dX9_stepNozzle_157 : decode cX9_stepNozzle 157 = .ok (.l2i, 1) := by decide +kernel
theorem dX9_stepNozzle_158 : decode cX9_stepNozzle 158 = .ok (.iastore, 1) := by decide +kernel
theorem dX9_stepNozzle_159 : decode cX9_stepNozzle 159 = .ok (.aload_n 0, 1) := by decide +kernel
theorem dX9_stepNozzle_160 : decode cX9_stepNozzle 160 = .ok (.getfield 7, 3) := by decide +kernel
theorem dX9_stepNozzle_163 : decode cX9_stepNozzle 163 = .ok (.iload_n 2, 1) := by decide +kernel
theorem dX9_stepNozzle_164 : decode cX9_stepNozzle 164 = .ok (.bipush 10, 2) := by decide +kernel
theorem dX9_stepNozzle_166 : decode cX9_stepNozzle 166 = .ok (.iadd, 1) := by decide +kernel
theorem dX9_stepNozzle_167 : decode cX9_stepNozzle 167 = .ok (.aload_n 0, 1) := by decide +kernel
theorem dX9_stepNozzle_168 : decode cX9_stepNozzle 168 = .ok (.getfield 7, 3) := by decide +kernel
theorem dX9_stepNozzle_171 : decode cX9_stepNozzle 171 = .ok (.iload_n 2, 1) := by decide +kernel
theorem dX9_stepNozzle_172 : decode cX9_stepNozzle 172 = .ok (.bipush 9, 2) := by decide +kernel
theorem dX9_stepNozzle_174 : decode cX9_stepNozzle 174 = .ok (.iadd, 1) := by decide +kernel
theorem dX9_stepNozzle_175 : decode cX9_stepNozzle 175 = .ok (.iaload, 1) := by decide +kernel
theorem dX9_stepNozzle_176 : decode cX9_stepNozzle 176 = .ok (.aload_n 0, 1) := by decide +kernel
theorem dX9_stepNozzle_177 : decode cX9_stepNozzle 177 = .ok (.getfield 7, 3) := by decide +kernel
theorem dX9_stepNozzle_180 : decode cX9_stepNozzle 180 = .ok (.sipush 934, 3) := by decide +kernel
theorem dX9_stepNozzle_183 : decode cX9_stepNozzle 183 = .ok (.iaload, 1) := by decide +kernel
theorem dX9_stepNozzle_184 : decode cX9_stepNozzle 184 = .ok (.sipush 1024, 3) := by decide +kernel
theorem dX9_stepNozzle_187 : decode cX9_stepNozzle 187 = .ok (.idiv, 1) := by decide +kernel
theorem dX9_stepNozzle_188 : decode cX9_stepNozzle 188 = .ok (.imul, 1) := by decide +kernel
theorem dX9_stepNozzle_189 : decode cX9_stepNozzle 189 = .ok (.aload_n 0, 1) := by decide +kernel
theorem dX9_stepNozzle_190 : decode cX9_stepNozzle 190 = .ok (.getfield 7, 3) := by decide +kernel
theorem dX9_stepNozzle_193 : decode cX9_stepNozzle 193 = .ok (.iload_n 2, 1) := by decide +kernel
theorem dX9_stepNozzle_194 : decode cX9_stepNozzle 194 = .ok (.iconst 5, 1) := by decide +kernel
theorem dX9_stepNozzle_195 : decode cX9_stepNozzle 195 = .ok (.iadd, 1) := by decide +kernel
theorem dX9_stepNozzle_196 : decode cX9_stepNozzle 196 = .ok (.iaload, 1) := by decide +kernel
theorem dX9_stepNozzle_197 : decode cX9_stepNozzle 197 = .ok (.imul, 1) := by decide +kernel
theorem dX9_stepNozzle_198 : decode cX9_stepNozzle 198 = .ok (.ldc 62, 2) := by decide +kernel
theorem dX9_stepNozzle_200 : decode cX9_stepNozzle 200 = .ok (.idiv, 1) := by decide +kernel
theorem dX9_stepNozzle_201 : decode cX9_stepNozzle 201 = .ok (.iastore, 1) := by decide +kernel
theorem dX9_stepNozzle_202 : decode cX9_stepNozzle 202 = .ok (.aload_n 0, 1) := by decide +kernel
theorem dX9_stepNozzle_203 : decode cX9_stepNozzle 203 = .ok (.getfield 7, 3) := by decide +kernel
theorem dX9_stepNozzle_206 : decode cX9_stepNozzle 206 = .ok (.iload_n 2, 1) := by decide +kernel
theorem dX9_stepNozzle_207 : decode cX9_stepNozzle 207 = .ok (.bipush 11, 2) := by decide +kernel
theorem dX9_stepNozzle_209 : decode cX9_stepNozzle 209 = .ok (.iadd, 1) := by decide +kernel
theorem dX9_stepNozzle_210 : decode cX9_stepNozzle 210 = .ok (.aload_n 0, 1) := by decide +kernel
theorem dX9_stepNozzle_211 : decode cX9_stepNozzle 211 = .ok (.getfield 7, 3) := by decide +kernel
theorem dX9_stepNozzle_214 : decode cX9_stepNozzle 214 = .ok (.iload_n 2, 1) := by decide +kernel
theorem dX9_stepNozzle_215 : decode cX9_stepNozzle 215 = .ok (.bipush 9, 2) := by decide +kernel
theorem dX9_stepNozzle_217 : decode cX9_stepNozzle 217 = .ok (.iadd, 1) := by decide +kernel
theorem dX9_stepNozzle_218 : decode cX9_stepNozzle 218 = .ok (.iaload, 1) := by decide +kernel
theorem dX9_stepNozzle_219 : decode cX9_stepNozzle 219 = .ok (.aload_n 0, 1) := by decide +kernel
theorem dX9_stepNozzle_220 : decode cX9_stepNozzle 220 = .ok (.getfield 7, 3) := by decide +kernel
theorem dX9_stepNozzle_223 : decode cX9_stepNozzle 223 = .ok (.iload_n 2, 1) := by decide +kernel
theorem dX9_stepNozzle_224 : decode cX9_stepNozzle 224 = .ok (.bipush 11, 2) := by decide +kernel
theorem dX9_stepNozzle_226 : decode cX9_stepNozzle 226 = .ok (.iadd, 1) := by decide +kernel
theorem dX9_stepNozzle_227 : decode cX9_stepNozzle 227 = .ok (.iaload, 1) := by decide +kernel
theorem dX9_stepNozzle_228 : decode cX9_stepNozzle 228 = .ok (.if_icmp .le 15, 3) := by decide +kernel
theorem dX9_stepNozzle_231 : decode cX9_stepNozzle 231 = .ok (.aload_n 0, 1) := by decide +kernel
theorem dX9_stepNozzle_232 : decode cX9_stepNozzle 232 = .ok (.getfield 7, 3) := by decide +kernel
theorem dX9_stepNozzle_235 : decode cX9_stepNozzle 235 = .ok (.iload_n 2, 1) := by decide +kernel
theorem dX9_stepNozzle_236 : decode cX9_stepNozzle 236 = .ok (.bipush 9, 2) := by decide +kernel
theorem dX9_stepNozzle_238 : decode cX9_stepNozzle 238 = .ok (.iadd, 1) := by decide +kernel
theorem dX9_stepNozzle_239 : decode cX9_stepNozzle 239 = .ok (.iaload, 1) := by decide +kernel
theorem dX9_stepNozzle_240 : decode cX9_stepNozzle 240 = .ok (.goto 12, 3) := by decide +kernel
theorem dX9_stepNozzle_243 : decode cX9_stepNozzle 243 = .ok (.aload_n 0, 1) := by decide +kernel
theorem dX9_stepNozzle_244 : decode cX9_stepNozzle 244 = .ok (.getfield 7, 3) := by decide +kernel
theorem dX9_stepNozzle_247 : decode cX9_stepNozzle 247 = .ok (.iload_n 2, 1) := by decide +kernel
theorem dX9_stepNozzle_248 : decode cX9_stepNozzle 248 = .ok (.bipush 11, 2) := by decide +kernel
theorem dX9_stepNozzle_250 : decode cX9_stepNozzle 250 = .ok (.iadd, 1) := by decide +kernel
theorem dX9_stepNozzle_251 : decode cX9_stepNozzle 251 = .ok (.iaload, 1) := by decide +kernel
theorem dX9_stepNozzle_252 : decode cX9_stepNozzle 252 = .ok (.iastore, 1) := by decide +kernel
theorem dX9_stepNozzle_253 : decode cX9_stepNozzle 253 = .ok (.aload_n 0, 1) := by decide +kernel
theorem dX9_stepNozzle_254 : decode cX9_stepNozzle 254 = .ok (.getfield 7, 3) := by decide +kernel
theorem dX9_stepNozzle_257 : decode cX9_stepNozzle 257 = .ok (.iload_n 2, 1) := by decide +kernel
theorem dX9_stepNozzle_258 : decode cX9_stepNozzle 258 = .ok (.bipush 10, 2) := by decide +kernel
theorem dX9_stepNozzle_260 : decode cX9_stepNozzle 260 = .ok (.iadd, 1) := by decide +kernel
theorem dX9_stepNozzle_261 : decode cX9_stepNozzle 261 = .ok (.iaload, 1) := by decide +kernel
theorem dX9_stepNozzle_262 : decode cX9_stepNozzle 262 = .ok (.aload_n 0, 1) := by decide +kernel
theorem dX9_stepNozzle_263 : decode cX9_stepNozzle 263 = .ok (.getfield 7, 3) := by decide +kernel
theorem dX9_stepNozzle_266 : decode cX9_stepNozzle 266 = .ok (.sipush 932, 3) := by decide +kernel
theorem dX9_stepNozzle_269 : decode cX9_stepNozzle 269 = .ok (.iaload, 1) := by decide +kernel
theorem dX9_stepNozzle_270 : decode cX9_stepNozzle 270 = .ok (.if_icmp .le 7, 3) := by decide +kernel
theorem dX9_stepNozzle_273 : decode cX9_stepNozzle 273 = .ok (.iconst 1, 1) := by decide +kernel
theorem dX9_stepNozzle_274 : decode cX9_stepNozzle 274 = .ok (.goto 4, 3) := by decide +kernel
theorem dX9_stepNozzle_277 : decode cX9_stepNozzle 277 = .ok (.iconst 0, 1) := by decide +kernel
theorem dX9_stepNozzle_278 : decode cX9_stepNozzle 278 = .ok (.ireturn, 1) := by decide +kernel
theorem dX9_makeTick_0 : decode cX9_makeTick 0 = .ok (.iconst 0, 1) := by decide +kernel
theorem dX9_makeTick_1 : decode cX9_makeTick 1 = .ok (.istore_n 1, 1) := by decide +kernel
theorem dX9_makeTick_2 : decode cX9_makeTick 2 = .ok (.iload_n 1, 1) := by decide +kernel
theorem dX9_makeTick_3 : decode cX9_makeTick 3 = .ok (.aload_n 0, 1) := by decide +kernel
theorem dX9_makeTick_4 : decode cX9_makeTick 4 = .ok (.getfield 7, 3) := by decide +kernel
theorem dX9_makeTick_7 : decode cX9_makeTick 7 = .ok (.sipush 940, 3) := by decide +kernel
theorem dX9_makeTick_10 : decode cX9_makeTick 10 = .ok (.iaload, 1) := by decide +kernel
