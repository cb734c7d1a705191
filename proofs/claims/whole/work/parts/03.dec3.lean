theorem dX9_makeTick_11 : decode cX9_makeTick 11 = .ok (.if_icmp .ge 42, 3) := by decide +kernel
theorem dX9_makeTick_14 : decode cX9_makeTick 14 = .ok (.aload_n 0, 1) := by decide +kernel
theorem dX9_makeTick_15 : decode cX9_makeTick 15 = .ok (.iload_n 1, 1) := by decide +kernel
theorem dX9_makeTick_16 : decode cX9_makeTick 16 = .ok (.iconst 0, 1) := by decide +kernel
theorem dX9_makeTick_17 : decode cX9_makeTick 17 = .ok (.invokevirtual 55, 3) := by decide +kernel
theorem dX9_makeTick_20 : decode cX9_makeTick 20 = .ok (.aload_n 0, 1) := by decide +kernel
theorem dX9_makeTick_21 : decode cX9_makeTick 21 = .ok (.getfield 7, 3) := by decide +kernel
theorem dX9_makeTick_24 : decode cX9_makeTick 24 = .ok (.sipush 937, 3) := by decide +kernel
theorem dX9_makeTick_27 : decode cX9_makeTick 27 = .ok (.iaload, 1) := by decide +kernel
theorem dX9_makeTick_28 : decode cX9_makeTick 28 = .ok (.if_icmp .ne 19, 3) := by decide +kernel
theorem dX9_makeTick_31 : decode cX9_makeTick 31 = .ok (.aload_n 0, 1) := by decide +kernel
theorem dX9_makeTick_32 : decode cX9_makeTick 32 = .ok (.aload_n 0, 1) := by decide +kernel
theorem dX9_makeTick_33 : decode cX9_makeTick 33 = .ok (.iload_n 1, 1) := by decide +kernel
theorem dX9_makeTick_34 : decode cX9_makeTick 34 = .ok (.iconst 1, 1) := by decide +kernel
theorem dX9_makeTick_35 : decode cX9_makeTick 35 = .ok (.invokevirtual 55, 3) := by decide +kernel
theorem dX9_makeTick_38 : decode cX9_makeTick 38 = .ok (.aload_n 0, 1) := by decide +kernel
theorem dX9_makeTick_39 : decode cX9_makeTick 39 = .ok (.iload_n 1, 1) := by decide +kernel
theorem dX9_makeTick_40 : decode cX9_makeTick 40 = .ok (.iconst 2, 1) := by decide +kernel
theorem dX9_makeTick_41 : decode cX9_makeTick 41 = .ok (.invokevirtual 55, 3) := by decide +kernel
theorem dX9_makeTick_44 : decode cX9_makeTick 44 = .ok (.invokevirtual 85, 3) := by decide +kernel
theorem dX9_makeTick_47 : decode cX9_makeTick 47 = .ok (.iinc 1 1, 3) := by decide +kernel
theorem dX9_makeTick_50 : decode cX9_makeTick 50 = .ok (.goto (-48), 3) := by decide +kernel
theorem dX9_makeTick_53 : decode cX9_makeTick 53 = .ok (.aload_n 0, 1) := by decide +kernel
theorem dX9_makeTick_54 : decode cX9_makeTick 54 = .ok (.invokevirtual 89, 3) := by decide +kernel
theorem dX9_makeTick_57 : decode cX9_makeTick 57 = .ok (.iconst 0, 1) := by decide +kernel
theorem dX9_makeTick_58 : decode cX9_makeTick 58 = .ok (.istore_n 1, 1) := by decide +kernel
theorem dX9_makeTick_59 : decode cX9_makeTick 59 = .ok (.iload_n 1, 1) := by decide +kernel
theorem dX9_makeTick_60 : decode cX9_makeTick 60 = .ok (.aload_n 0, 1) := by decide +kernel
theorem dX9_makeTick_61 : decode cX9_makeTick 61 = .ok (.getfield 7, 3) := by decide +kernel
theorem dX9_makeTick_64 : decode cX9_makeTick 64 = .ok (.sipush 938, 3) := by decide +kernel
theorem dX9_makeTick_67 : decode cX9_makeTick 67 = .ok (.iaload, 1) := by decide +kernel
theorem dX9_makeTick_68 : decode cX9_makeTick 68 = .ok (.if_icmp .ge 89, 3) := by decide +kernel
theorem dX9_makeTick_71 : decode cX9_makeTick 71 = .ok (.aload_n 0, 1) := by decide +kernel
theorem dX9_makeTick_72 : decode cX9_makeTick 72 = .ok (.getfield 7, 3) := by decide +kernel
theorem dX9_makeTick_75 : decode cX9_makeTick 75 = .ok (.sipush 144, 3) := by decide +kernel
theorem dX9_makeTick_78 : decode cX9_makeTick 78 = .ok (.bipush 64, 2) := by decide +kernel
theorem dX9_makeTick_80 : decode cX9_makeTick 80 = .ok (.iload_n 1, 1) := by decide +kernel
theorem dX9_makeTick_81 : decode cX9_makeTick 81 = .ok (.imul, 1) := by decide +kernel
theorem dX9_makeTick_82 : decode cX9_makeTick 82 = .ok (.iadd, 1) := by decide +kernel
theorem dX9_makeTick_83 : decode cX9_makeTick 83 = .ok (.aload_n 0, 1) := by decide +kernel
theorem dX9_makeTick_84 : decode cX9_makeTick 84 = .ok (.getfield 7, 3) := by decide +kernel
theorem dX9_makeTick_87 : decode cX9_makeTick 87 = .ok (.sipush 937, 3) := by decide +kernel
theorem dX9_makeTick_90 : decode cX9_makeTick 90 = .ok (.iaload, 1) := by decide +kernel
theorem dX9_makeTick_91 : decode cX9_makeTick 91 = .ok (.bipush 64, 2) := by decide +kernel
theorem dX9_makeTick_93 : decode cX9_makeTick 93 = .ok (.irem, 1) := by decide +kernel
theorem dX9_makeTick_94 : decode cX9_makeTick 94 = .ok (.iadd, 1) := by decide +kernel
theorem dX9_makeTick_95 : decode cX9_makeTick 95 = .ok (.aload_n 0, 1) := by decide +kernel
theorem dX9_makeTick_96 : decode cX9_makeTick 96 = .ok (.getfield 7, 3) := by decide +kernel
theorem dX9_makeTick_99 : decode cX9_makeTick 99 = .ok (.bipush 12, 2) := by decide +kernel
theorem dX9_makeTick_101 : decode cX9_makeTick 101 = .ok (.iload_n 1, 1) := by decide +kernel
theorem dX9_makeTick_102 : decode cX9_makeTick 102 = .ok (.imul, 1) := by decide +kernel
theorem dX9_makeTick_103 : decode cX9_makeTick 103 = .ok (.bipush 6, 2) := by decide +kernel
theorem dX9_makeTick_105 : decode cX9_makeTick 105 = .ok (.iadd, 1) := by decide +kernel
theorem dX9_makeTick_106 : decode cX9_makeTick 106 = .ok (.iaload, 1) := by decide +kernel
theorem dX9_makeTick_107 : decode cX9_makeTick 107 = .ok (.iastore, 1) := by decide +kernel
theorem dX9_makeTick_108 : decode cX9_makeTick 108 = .ok (.aload_n 0, 1) := by decide +kernel
theorem dX9_makeTick_109 : decode cX9_makeTick 109 = .ok (.getfield 7, 3) := by decide +kernel
theorem dX9_makeTick_112 : decode cX9_makeTick 112 = .ok (.bipush 12, 2) := by decide +kernel
theorem dX9_makeTick_114 : decode cX9_makeTick 114 = .ok (.iload_n 1, 1) := by decide +kernel
theorem dX9_makeTick_115 : decode cX9_makeTick 115 = .ok (.imul, 1) := by decide +kernel
theorem dX9_makeTick_116 : decode cX9_makeTick 116 = .ok (.bipush 7, 2) := by decide +kernel
theorem dX9_makeTick_118 : decode cX9_makeTick 118 = .ok (.iadd, 1) := by decide +kernel
theorem dX9_makeTick_119 : decode cX9_makeTick 119 = .ok (.aload_n 0, 1) := by decide +kernel
theorem dX9_makeTick_120 : decode cX9_makeTick 120 = .ok (.getfield 7, 3) := by decide +kernel
theorem dX9_makeTick_123 : decode cX9_makeTick 123 = .ok (.bipush 12, 2) := by decide +kernel
theorem dX9_makeTick_125 : decode cX9_makeTick 125 = .ok (.iload_n 1, 1) := by decide +kernel
theorem dX9_makeTick_126 : decode cX9_makeTick 126 = .ok (.imul, 1) := by decide +kernel
theorem dX9_makeTick_127 : decode cX9_makeTick 127 = .ok (.bipush 7, 2) := by decide +kernel
theorem dX9_makeTick_129 : decode cX9_makeTick 129 = .ok (.iadd, 1) := by decide +kernel
theorem dX9_makeTick_130 : decode cX9_makeTick 130 = .ok (.iaload, 1) := by decide +kernel
theorem dX9_makeTick_131 : decode cX9_makeTick 131 = .ok (.aload_n 0, 1) := by decide +kernel
theorem dX9_makeTick_132 : decode cX9_makeTick 132 = .ok (.iload_n 1, 1) := by decide +kernel
theorem dX9_makeTick_133 : decode cX9_makeTick 133 = .ok (.invokevirtual 92, 3) := by decide +kernel
theorem dX9_makeTick_136 : decode cX9_makeTick 136 = .ok (.aload_n 0, 1) := by decide +kernel
theorem dX9_makeTick_137 : decode cX9_makeTick 137 = .ok (.getfield 7, 3) := by decide +kernel
theorem dX9_makeTick_140 : decode cX9_makeTick 140 = .ok (.bipush 12, 2) := by decide +kernel
theorem dX9_makeTick_142 : decode cX9_makeTick 142 = .ok (.iload_n 1, 1) := by decide +kernel
theorem dX9_makeTick_143 : decode cX9_makeTick 143 = .ok (.imul, 1) := by decide +kernel
theorem dX9_makeTick_144 : decode cX9_makeTick 144 = .ok (.iconst 3, 1) := by decide +kernel
theorem dX9_makeTick_145 : decode cX9_makeTick 145 = .ok (.iadd, 1) := by decide +kernel
theorem dX9_makeTick_146 : decode cX9_makeTick 146 = .ok (.iaload, 1) := by decide +kernel
theorem dX9_makeTick_147 : decode cX9_makeTick 147 = .ok (.invokestatic 80, 3) := by decide +kernel
theorem dX9_makeTick_150 : decode cX9_makeTick 150 = .ok (.iastore, 1) := by decide +kernel
theorem dX9_makeTick_151 : decode cX9_makeTick 151 = .ok (.iinc 1 1, 3) := by decide +kernel
theorem dX9_makeTick_154 : decode cX9_makeTick 154 = .ok (.goto (-95), 3) := by decide +kernel
theorem dX9_makeTick_157 : decode cX9_makeTick 157 = .ok (.iconst 0, 1) := by decide +kernel
theorem dX9_makeTick_158 : decode cX9_makeTick 158 = .ok (.istore_n 1, 1) := by decide +kernel
theorem dX9_makeTick_159 : decode cX9_makeTick 159 = .ok (.iload_n 1, 1) := by decide +kernel
theorem dX9_makeTick_160 : decode cX9_makeTick 160 = .ok (.iconst 3, 1) := by decide +kernel
theorem dX9_makeTick_161 : decode cX9_makeTick 161 = .ok (.if_icmp .ge 14, 3) := by decide +kernel
theorem dX9_makeTick_164 : decode cX9_makeTick 164 = .ok (.aload_n 0, 1) := by decide +kernel
theorem dX9_makeTick_165 : decode cX9_makeTick 165 = .ok (.iload_n 1, 1) := by decide +kernel
theorem dX9_makeTick_166 : decode cX9_makeTick 166 = .ok (.invokevirtual 96, 3) := by decide +kernel
theorem dX9_makeTick_169 : decode cX9_makeTick 169 = .ok (.iinc 1 1, 3) := by decide +kernel
theorem dX9_makeTick_172 : decode cX9_makeTick 172 = .ok (.goto (-13), 3) := by decide +kernel
theorem dX9_makeTick_175 : decode cX9_makeTick 175 = .ok (.iconst 0, 1) := by decide +kernel
theorem dX9_makeTick_176 : decode cX9_makeTick 176 = .ok (.istore_n 1, 1) := by decide +kernel
theorem dX9_makeTick_177 : decode cX9_makeTick 177 = .ok (.iconst 0, 1) := by decide +kernel
theorem dX9_makeTick_178 : decode cX9_makeTick 178 = .ok (.istore_n 2, 1) := by decide +kernel
theorem dX9_makeTick_179 : decode cX9_makeTick 179 = .ok (.iload_n 2, 1) := by decide +kernel
theorem dX9_makeTick_180 : decode cX9_makeTick 180 = .ok (.aload_n 0, 1) := by decide +kernel
theorem dX9_makeTick_181 : decode cX9_makeTick 181 = .ok (.getfield 7, 3) := by decide +kernel
theorem dX9_makeTick_184 : decode cX9_makeTick 184 = .ok (.sipush 938, 3) := by decide +kernel
theorem dX9_makeTick_187 : decode cX9_makeTick 187 = .ok (.iaload, 1) := by decide +kernel
theorem dX9_makeTick_188 : decode cX9_makeTick 188 = .ok (.if_icmp .ge 27, 3) := by decide +kernel
theorem dX9_makeTick_191 : decode cX9_makeTick 191 = .ok (.aload_n 0, 1) := by decide +kernel
theorem dX9_makeTick_192 : decode cX9_makeTick 192 = .ok (.iload_n 2, 1) := by decide +kernel
theorem dX9_makeTick_193 : decode cX9_makeTick 193 = .ok (.invokevirtual 99, 3) := by decide +kernel
theorem dX9_makeTick_196 : decode cX9_makeTick 196 = .ok (.ifCond .ne 7, 3) := by decide +kernel
theorem dX9_makeTick_199 : decode cX9_makeTick 199 = .ok (.iload_n 1, 1) := by decide +kernel
theorem dX9_makeTick_200 : decode cX9_makeTick 200 = .ok (.ifCond .eq 7, 3) := by decide +kernel
theorem dX9_makeTick_203 : decode cX9_makeTick 203 = .ok (.iconst 1, 1) := by decide +kernel
theorem dX9_makeTick_204 : decode cX9_makeTick 204 = .ok (.goto 4, 3) := by decide +kernel
theorem dX9_makeTick_207 : decode cX9_makeTick 207 = .ok (.iconst 0, 1) := by decide +kernel
theorem dX9_makeTick_208 : decode cX9_makeTick 208 = .ok (.istore_n 1, 1) := by decide +kernel
theorem dX9_makeTick_209 : decode cX9_makeTick 209 = .ok (.iinc 2 1, 3) := by decide +kernel
theorem dX9_makeTick_212 : decode cX9_makeTick 212 = .ok (.goto (-33), 3) := by decide +kernel
theorem dX9_makeTick_215 : decode cX9_makeTick 215 = .ok (.aload_n 0, 1) := by decide +kernel
theorem dX9_makeTick_216 : decode cX9_makeTick 216 = .ok (.getfield 7, 3) := by decide +kernel
theorem dX9_makeTick_219 : decode cX9_makeTick 219 = .ok (.sipush 939, 3) := by decide +kernel
theorem dX9_makeTick_222 : decode cX9_makeTick 222 = .ok (.dup2, 1) := by decide +kernel
theorem dX9_makeTick_223 : decode cX9_makeTick 223 = .ok (.iaload, 1) := by decide +kernel
theorem dX9_makeTick_224 : decode cX9_makeTick 224 = .ok (.iload_n 1, 1) := by decide +kernel
theorem dX9_makeTick_225 : decode cX9_makeTick 225 = .ok (.ifCond .eq 7, 3) := by decide +kernel
theorem dX9_makeTick_228 : decode cX9_makeTick 228 = .ok (.iconst 1, 1) := by decide +kernel
theorem dX9_makeTick_229 : decode cX9_makeTick 229 = .ok (.goto 4, 3) := by decide +kernel
theorem dX9_makeTick_232 : decode cX9_makeTick 232 = .ok (.iconst 0, 1) := by decide +kernel
theorem dX9_makeTick_233 : decode cX9_makeTick 233 = .ok (.iadd, 1) := by decide +kernel
theorem dX9_makeTick_234 : decode cX9_makeTick 234 = .ok (.iastore, 1) := by decide +kernel
theorem dX9_makeTick_235 : decode cX9_makeTick 235 = .ok (.aload_n 0, 1) := by decide +kernel
theorem dX9_makeTick_236 : decode cX9_makeTick 236 = .ok (.getfield 7, 3) := by decide +kernel
theorem dX9_makeTick_239 : decode cX9_makeTick 239 = .ok (.sipush 937, 3) := by decide +kernel
theorem dX9_makeTick_242 : decode cX9_makeTick 242 = .ok (.dup2, 1) := by decide +kernel
theorem dX9_makeTick_243 : decode cX9_makeTick 243 = .ok (.iaload, 1) := by decide +kernel
theorem dX9_makeTick_244 : decode cX9_makeTick 244 = .ok (.iconst 1, 1) := by decide +kernel
theorem dX9_makeTick_245 : decode cX9_makeTick 245 = .ok (.iadd, 1) := by decide +kernel
theorem dX9_makeTick_246 : decode cX9_makeTick 246 = .ok (.iastore, 1) := by decide +kernel
theorem dX9_makeTick_247 : decode cX9_makeTick 247 = .ok (.return_, 1) := by decide +kernel
theorem dX9_command_0 : decode cX9_command 0 = .ok (.iload_n 1, 1) := by decide +kernel
theorem dX9_command_1 : decode cX9_command 1 = .ok (.iload_n 2, 1) := by decide +kernel
theorem dX9_command_2 : decode cX9_command 2 = .ok (.invokestatic 63, 3) := by decide +kernel
theorem dX9_command_5 : decode cX9_command 5 = .ok (.ifCond .ne 6, 3) := by decide +kernel
theorem dX9_command_8 : decode cX9_command 8 = .ok (.bipush (-2), 2) := by decide +kernel
theorem dX9_command_10 : decode cX9_command 10 = .ok (.ireturn, 1) := by decide +kernel
theorem dX9_command_11 : decode cX9_command 11 = .ok (.aload_n 0, 1) := by decide +kernel
theorem dX9_command_12 : decode cX9_command 12 = .ok (.iload_n 1, 1) := by decide +kernel
theorem dX9_command_13 : decode cX9_command 13 = .ok (.iload_n 2, 1) := by decide +kernel
theorem dX9_command_14 : decode cX9_command 14 = .ok (.invokevirtual 85, 3) := by decide +kernel
theorem dX9_command_17 : decode cX9_command 17 = .ok (.aload_n 0, 1) := by decide +kernel
theorem dX9_command_18 : decode cX9_command 18 = .ok (.getfield 7, 3) := by decide +kernel
theorem dX9_command_21 : decode cX9_command 21 = .ok (.sipush 937, 3) := by decide +kernel
theorem dX9_command_24 : decode cX9_command 24 = .ok (.iaload, 1) := by decide +kernel
theorem dX9_command_25 : decode cX9_command 25 = .ok (.ireturn, 1) := by decide +kernel
theorem dX9_tick_0 : decode cX9_tick 0 = .ok (.iload_n 1, 1) := by decide +kernel
theorem dX9_tick_1 : decode cX9_tick 1 = .ok (.iconst 1, 1) := by decide +kernel
theorem dX9_tick_2 : decode cX9_tick 2 = .ok (.sipush 2000, 3) := by decide +kernel
theorem dX9_tick_5 : decode cX9_tick 5 = .ok (.invokestatic 33, 3) := by decide +kernel
theorem dX9_tick_8 : decode cX9_tick 8 = .ok (.ifCond .ne 6, 3) := by decide +kernel
theorem dX9_tick_11 : decode cX9_tick 11 = .ok (.bipush (-2), 2) := by decide +kernel
theorem dX9_tick_13 : decode cX9_tick 13 = .ok (.ireturn, 1) := by decide +kernel
theorem dX9_tick_14 : decode cX9_tick 14 = .ok (.aload_n 0, 1) := by decide +kernel
theorem dX9_tick_15 : decode cX9_tick 15 = .ok (.getfield 7, 3) := by decide +kernel
theorem dX9_tick_18 : decode cX9_tick 18 = .ok (.sipush 937, 3) := by decide +kernel
theorem dX9_tick_21 : decode cX9_tick 21 = .ok (.iaload, 1) := by decide +kernel
theorem dX9_tick_22 : decode cX9_tick 22 = .ok (.iload_n 1, 1) := by decide +kernel
theorem dX9_tick_23 : decode cX9_tick 23 = .ok (.iadd, 1) := by decide +kernel
theorem dX9_tick_24 : decode cX9_tick 24 = .ok (.ldc 102, 2) := by decide +kernel
theorem dX9_tick_26 : decode cX9_tick 26 = .ok (.if_icmp .le 6, 3) := by decide +kernel
theorem dX9_tick_29 : decode cX9_tick 29 = .ok (.bipush (-5), 2) := by decide +kernel
theorem dX9_tick_31 : decode cX9_tick 31 = .ok (.ireturn, 1) := by decide +kernel
theorem dX9_tick_32 : decode cX9_tick 32 = .ok (.iconst 0, 1) := by decide +kernel
theorem dX9_tick_33 : decode cX9_tick 33 = .ok (.istore_n 2, 1) := by decide +kernel
theorem dX9_tick_34 : decode cX9_tick 34 = .ok (.iload_n 2, 1) := by decide +kernel
theorem dX9_tick_35 : decode cX9_tick 35 = .ok (.iload_n 1, 1) := by decide +kernel
theorem dX9_tick_36 : decode cX9_tick 36 = .ok (.if_icmp .ge 13, 3) := by decide +kernel
theorem dX9_tick_39 : decode cX9_tick 39 = .ok (.aload_n 0, 1) := by decide +kernel
theorem dX9_tick_40 : decode cX9_tick 40 = .ok (.invokevirtual 103, 3) := by decide +kernel
theorem dX9_tick_43 : decode cX9_tick 43 = .ok (.iinc 2 1, 3) := by decide +kernel
theorem dX9_tick_46 : decode cX9_tick 46 = .ok (.goto (-12), 3) := by decide +kernel
theorem dX9_tick_49 : decode cX9_tick 49 = .ok (.aload_n 0, 1) := by decide +kernel
theorem dX9_tick_50 : decode cX9_tick 50 = .ok (.getfield 7, 3) := by decide +kernel
theorem dX9_tick_53 : decode cX9_tick 53 = .ok (.sipush 937, 3) := by decide +kernel
theorem dX9_tick_56 : decode cX9_tick 56 = .ok (.iaload, 1) := by decide +kernel
theorem dX9_tick_57 : decode cX9_tick 57 = .ok (.ireturn, 1) := by decide +kernel
theorem dX9_rewind_0 : decode cX9_rewind 0 = .ok (.aload_n 0, 1) := by decide +kernel
theorem dX9_rewind_1 : decode cX9_rewind 1 = .ok (.getfield 7, 3) := by decide +kernel
theorem dX9_rewind_4 : decode cX9_rewind 4 = .ok (.sipush 937, 3) := by decide +kernel
theorem dX9_rewind_7 : decode cX9_rewind 7 = .ok (.iaload, 1) := by decide +kernel
theorem dX9_rewind_8 : decode cX9_rewind 8 = .ok (.istore_n 1, 1) := by decide +kernel
theorem dX9_rewind_9 : decode cX9_rewind 9 = .ok (.iconst 0, 1) := by decide +kernel
theorem dX9_rewind_10 : decode cX9_rewind 10 = .ok (.istore_n 2, 1) := by decide +kernel
theorem dX9_rewind_11 : decode cX9_rewind 11 = .ok (.iload_n 2, 1) := by decide +kernel
theorem dX9_rewind_12 : decode cX9_rewind 12 = .ok (.bipush 12, 2) := by decide +kernel
theorem dX9_rewind_14 : decode cX9_rewind 14 = .ok (.if_icmp .ge 36, 3) := by decide +kernel
theorem dX9_rewind_17 : decode cX9_rewind 17 = .ok (.bipush 6, 2) := by decide +kernel
theorem dX9_rewind_19 : decode cX9_rewind 19 = .ok (.istore_n 3, 1) := by decide +kernel
theorem dX9_rewind_20 : decode cX9_rewind 20 = .ok (.iload_n 3, 1) := by decide +kernel
theorem dX9_rewind_21 : decode cX9_rewind 21 = .ok (.bipush 11, 2) := by decide +kernel
theorem dX9_rewind_23 : decode cX9_rewind 23 = .ok (.if_icmp .gt 21, 3) := by decide +kernel
theorem dX9_rewind_26 : decode cX9_rewind 26 = .ok (.aload_n 0, 1) := by decide +kernel
theorem dX9_rewind_27 : decode cX9_rewind 27 = .ok (.getfield 7, 3) := by decide +kernel
theorem dX9_rewind_30 : decode cX9_rewind 30 = .ok (.bipush 12, 2) := by decide +kernel
theorem dX9_rewind_32 : decode cX9_rewind 32 = .ok (.iload_n 2, 1) := by decide +kernel
theorem dX9_rewind_33 : decode cX9_rewind 33 = .ok (.imul, 1) := by decide +kernel
theorem dX9_rewind_34 : decode cX9_rewind 34 = .ok (.iload_n 3, 1) := by decide +kernel
theorem dX9_rewind_35 : decode cX9_rewind 35 = .ok (.iadd, 1) := by decide +kernel
theorem dX9_rewind_36 : decode cX9_rewind 36 = .ok (.iconst 0, 1) := by decide +kernel
theorem dX9_rewind_37 : decode cX9_rewind 37 = .ok (.iastore, 1) := by decide +kernel
theorem dX9_rewind_38 : decode cX9_rewind 38 = .ok (.iinc 3 1, 3) := by decide +kernel
theorem dX9_rewind_41 : decode cX9_rewind 41 = .ok (.goto (-21), 3) := by decide +kernel
theorem dX9_rewind_44 : decode cX9_rewind 44 = .ok (.iinc 2 1, 3) := by decide +kernel
theorem dX9_rewind_47 : decode cX9_rewind 47 = .ok (.goto (-36), 3) := by decide +kernel
theorem dX9_rewind_50 : decode cX9_rewind 50 = .ok (.iconst 0, 1) := by decide +kernel
theorem dX9_rewind_51 : decode cX9_rewind 51 = .ok (.istore_n 2, 1) := by decide +kernel
theorem dX9_rewind_52 : decode cX9_rewind 52 = .ok (.iload_n 2, 1) := by decide +kernel
theorem dX9_rewind_53 : decode cX9_rewind 53 = .ok (.iconst 3, 1) := by decide +kernel
theorem dX9_rewind_54 : decode cX9_rewind 54 = .ok (.if_icmp .ge 37, 3) := by decide +kernel
theorem dX9_rewind_57 : decode cX9_rewind 57 = .ok (.iconst 2, 1) := by decide +kernel
theorem dX9_rewind_58 : decode cX9_rewind 58 = .ok (.istore_n 3, 1) := by decide +kernel
theorem dX9_rewind_59 : decode cX9_rewind 59 = .ok (.iload_n 3, 1) := by decide +kernel
theorem dX9_rewind_60 : decode cX9_rewind 60 = .ok (.iconst 4, 1) := by decide +kernel
theorem dX9_rewind_61 : decode cX9_rewind 61 = .ok (.if_icmp .gt 24, 3) := by decide +kernel
theorem dX9_rewind_64 : decode cX9_rewind 64 = .ok (.aload_n 0, 1) := by decide +kernel
theorem dX9_rewind_65 : decode cX9_rewind 65 = .ok (.getfield 7, 3) := by decide +kernel
theorem dX9_rewind_68 : decode cX9_rewind 68 = .ok (.sipush 912, 3) := by decide +kernel
theorem dX9_rewind_71 : decode cX9_rewind 71 = .ok (.iconst 5, 1) := by decide +kernel
theorem dX9_rewind_72 : decode cX9_rewind 72 = .ok (.iload_n 2, 1) := by decide +kernel
theorem dX9_rewind_73 : decode cX9_rewind 73 = .ok (.imul, 1) := by decide +kernel
theorem dX9_rewind_74 : decode cX9_rewind 74 = .ok (.iadd, 1) := by decide +kernel
theorem dX9_rewind_75 : decode cX9_rewind 75 = .ok (.iload_n 3, 1) := by decide +kernel
theorem dX9_rewind_76 : decode cX9_rewind 76 = .ok (.iadd, 1) := by decide +kernel
theorem dX9_rewind_77 : decode cX9_rewind 77 = .ok (.iconst 0, 1) := by decide +kernel
theorem dX9_rewind_78 : decode cX9_rewind 78 = .ok (.iastore, 1) := by decide +kernel
theorem dX9_rewind_79 : decode cX9_rewind 79 = .ok (.iinc 3 1, 3) := by decide +kernel
theorem dX9_rewind_82 : decode cX9_rewind 82 = .ok (.goto (-23), 3) := by decide +kernel
theorem dX9_rewind_85 : decode cX9_rewind 85 = .ok (.iinc 2 1, 3) := by decide +kernel
theorem dX9_rewind_88 : decode cX9_rewind 88 = .ok (.goto (-36), 3) := by decide +kernel
theorem dX9_rewind_91 : decode cX9_rewind 91 = .ok (.aload_n 0, 1) := by decide +kernel
theorem dX9_rewind_92 : decode cX9_rewind 92 = .ok (.getfield 7, 3) := by decide +kernel
theorem dX9_rewind_95 : decode cX9_rewind 95 = .ok (.sipush 934, 3) := by decide +kernel
theorem dX9_rewind_98 : decode cX9_rewind 98 = .ok (.iconst 0, 1) := by decide +kernel
theorem dX9_rewind_99 : decode cX9_rewind 99 = .ok (.iastore, 1) := by decide +kernel
theorem dX9_rewind_100 : decode cX9_rewind 100 = .ok (.aload_n 0, 1) := by decide +kernel
theorem dX9_rewind_101 : decode cX9_rewind 101 = .ok (.getfield 7, 3) := by decide +kernel
theorem dX9_rewind_104 : decode cX9_rewind 104 = .ok (.sipush 935, 3) := by decide +kernel
theorem dX9_rewind_107 : decode cX9_rewind 107 = .ok (.iconst 0, 1) := by decide +kernel
theorem dX9_rewind_108 : decode cX9_rewind 108 = .ok (.iastore, 1) := by decide +kernel
theorem dX9_rewind_109 : decode cX9_rewind 109 = .ok (.aload_n 0, 1) := by decide +kernel
theorem dX9_rewind_110 : decode cX9_rewind 110 = .ok (.getfield 7, 3) := by decide +kernel
theorem dX9_rewind_113 : decode cX9_rewind 113 = .ok (.sipush 936, 3) := by decide +kernel
theorem dX9_rewind_116 : decode cX9_rewind 116 = .ok (.iconst 0, 1) := by decide +kernel
theorem dX9_rewind_117 : decode cX9_rewind 117 = .ok (.iastore, 1) := by decide +kernel
theorem dX9_rewind_118 : decode cX9_rewind 118 = .ok (.aload_n 0, 1) := by decide +kernel
theorem dX9_rewind_119 : decode cX9_rewind 119 = .ok (.getfield 7, 3) := by decide +kernel
theorem dX9_rewind_122 : decode cX9_rewind 122 = .ok (.sipush 937, 3) := by decide +kernel
theorem dX9_rewind_125 : decode cX9_rewind 125 = .ok (.iconst 0, 1) := by decide +kernel
theorem dX9_rewind_126 : decode cX9_rewind 126 = .ok (.iastore, 1) := by decide +kernel
theorem dX9_rewind_127 : decode cX9_rewind 127 = .ok (.aload_n 0, 1) := by decide +kernel
theorem dX9_rewind_128 : decode cX9_rewind 128 = .ok (.getfield 7, 3) := by decide +kernel
theorem dX9_rewind_131 : decode cX9_rewind 131 = .ok (.sipush 939, 3) := by decide +kernel
theorem dX9_rewind_134 : decode cX9_rewind 134 = .ok (.iconst 0, 1) := by decide +kernel
theorem dX9_rewind_135 : decode cX9_rewind 135 = .ok (.iastore, 1) := by decide +kernel
theorem dX9_rewind_136 : decode cX9_rewind 136 = .ok (.iload_n 1, 1) := by decide +kernel
theorem dX9_rewind_137 : decode cX9_rewind 137 = .ok (.ireturn, 1) := by decide +kernel
theorem dX9_spray_0 : decode cX9_spray 0 = .ok (.aload_n 0, 1) := by decide +kernel
theorem dX9_spray_1 : decode cX9_spray 1 = .ok (.iload_n 1, 1) := by decide +kernel
theorem dX9_spray_2 : decode cX9_spray 2 = .ok (.invokevirtual 37, 3) := by decide +kernel
theorem dX9_spray_5 : decode cX9_spray 5 = .ok (.ifCond .ne 5, 3) := by decide +kernel
theorem dX9_spray_8 : decode cX9_spray 8 = .ok (.iconst (-1), 1) := by decide +kernel
theorem dX9_spray_9 : decode cX9_spray 9 = .ok (.ireturn, 1) := by decide +kernel
theorem dX9_spray_10 : decode cX9_spray 10 = .ok (.iload_n 2, 1) := by decide +kernel
theorem dX9_spray_11 : decode cX9_spray 11 = .ok (.iconst 0, 1) := by decide +kernel
theorem dX9_spray_12 : decode cX9_spray 12 = .ok (.bipush 11, 2) := by decide +kernel
theorem dX9_spray_14 : decode cX9_spray 14 = .ok (.invokestatic 33, 3) := by decide +kernel
theorem dX9_spray_17 : decode cX9_spray 17 = .ok (.ifCond .eq 17, 3) := by decide +kernel
theorem dX9_spray_20 : decode cX9_spray 20 = .ok (.aload_n 0, 1) := by decide +kernel
theorem dX9_spray_21 : decode cX9_spray 21 = .ok (.getfield 7, 3) := by decide +kernel
theorem dX9_spray_24 : decode cX9_spray 24 = .ok (.bipush 12, 2) := by decide +kernel
theorem dX9_spray_26 : decode cX9_spray 26 = .ok (.iload_n 1, 1) := by decide +kernel
theorem dX9_spray_27 : decode cX9_spray 27 = .ok (.imul, 1) := by decide +kernel
theorem dX9_spray_28 : decode cX9_spray 28 = .ok (.iload_n 2, 1) := by decide +kernel
theorem dX9_spray_29 : decode cX9_spray 29 = .ok (.iadd, 1) := by decide +kernel
theorem dX9_spray_30 : decode cX9_spray 30 = .ok (.iaload, 1) := by decide +kernel
theorem dX9_spray_31 : decode cX9_spray 31 = .ok (.goto 5, 3) := by decide +kernel
theorem dX9_spray_34 : decode cX9_spray 34 = .ok (.bipush (-2), 2) := by decide +kernel
theorem dX9_spray_36 : decode cX9_spray 36 = .ok (.ireturn, 1) := by decide +kernel
theorem dX9_pressure_0 : decode cX9_pressure 0 = .ok (.iload_n 1, 1) := by decide +kernel
theorem dX9_pressure_1 : decode cX9_pressure 1 = .ok (.invokestatic 49, 3) := by decide +kernel
theorem dX9_pressure_4 : decode cX9_pressure 4 = .ok (.ifCond .ne 5, 3) := by decide +kernel
theorem dX9_pressure_7 : decode cX9_pressure 7 = .ok (.iconst (-1), 1) := by decide +kernel
theorem dX9_pressure_8 : decode cX9_pressure 8 = .ok (.ireturn, 1) := by decide +kernel
theorem dX9_pressure_9 : decode cX9_pressure 9 = .ok (.iload_n 2, 1) := by decide +kernel
theorem dX9_pressure_10 : decode cX9_pressure 10 = .ok (.iconst 0, 1) := by decide +kernel
theorem dX9_pressure_11 : decode cX9_pressure 11 = .ok (.iconst 4, 1) := by decide +kernel
theorem dX9_pressure_12 : decode cX9_pressure 12 = .ok (.invokestatic 33, 3) := by decide +kernel
theorem dX9_pressure_15 : decode cX9_pressure 15 = .ok (.ifCond .eq 20, 3) := by decide +kernel
theorem dX9_pressure_18 : decode cX9_pressure 18 = .ok (.aload_n 0, 1) := by decide +kernel
theorem dX9_pressure_19 : decode cX9_pressure 19 = .ok (.getfield 7, 3) := by decide +kernel
theorem dX9_pressure_22 : decode cX9_pressure 22 = .ok (.sipush 912, 3) := by decide +kernel
theorem dX9_pressure_25 : decode cX9_pressure 25 = .ok (.iconst 5, 1) := by decide +kernel
theorem dX9_pressure_26 : decode cX9_pressure 26 = .ok (.iload_n 1, 1) := by decide +kernel
theorem dX9_pressure_27 : decode cX9_pressure 27 = .ok (.imul, 1) := by decide +kernel
theorem dX9_pressure_28 : decode cX9_pressure 28 = .ok (.iadd, 1) := by decide +kernel
theorem dX9_pressure_29 : decode cX9_pressure 29 = .ok (.iload_n 2, 1) := by decide +kernel
theorem dX9_pressure_30 : decode cX9_pressure 30 = .ok (.iadd, 1) := by decide +kernel
theorem dX9_pressure_31 : decode cX9_pressure 31 = .ok (.iaload, 1) := by decide +kernel
theorem dX9_pressure_32 : decode cX9_pressure 32 = .ok (.goto 5, 3) := by decide +kernel
theorem dX9_pressure_35 : decode cX9_pressure 35 = .ok (.bipush (-2), 2) := by decide +kernel
theorem dX9_pressure_37 : decode cX9_pressure 37 = .ok (.ireturn, 1) := by decide +kernel
theorem dX9_load_0 : decode cX9_load 0 = .ok (.iload_n 1, 1) := by decide +kernel
theorem dX9_load_1 : decode cX9_load 1 = .ok (.invokestatic 49, 3) := by decide +kernel
theorem dX9_load_4 : decode cX9_load 4 = .ok (.ifCond .ne 6, 3) := by decide +kernel
theorem dX9_load_7 : decode cX9_load 7 = .ok (.ldc 106, 2) := by decide +kernel
theorem dX9_load_9 : decode cX9_load 9 = .ok (.freturn, 1) := by decide +kernel
theorem dX9_load_10 : decode cX9_load 10 = .ok (.sipush 912, 3) := by decide +kernel
theorem dX9_load_13 : decode cX9_load 13 = .ok (.iconst 5, 1) := by decide +kernel
theorem dX9_load_14 : decode cX9_load 14 = .ok (.iload_n 1, 1) := by decide +kernel
theorem dX9_load_15 : decode cX9_load 15 = .ok (.imul, 1) := by decide +kernel
theorem dX9_load_16 : decode cX9_load 16 = .ok (.iadd, 1) := by decide +kernel
theorem dX9_load_17 : decode cX9_load 17 = .ok (.istore_n 2, 1) := by decide +kernel
theorem dX9_load_18 : decode cX9_load 18 = .ok (.aload_n 0, 1) := by decide +kernel
theorem dX9_load_19 : decode cX9_load 19 = .ok (.getfield 7, 3) := by decide +kernel
theorem dX9_load_22 : decode cX9_load 22 = .ok (.iload_n 2, 1) := by decide +kernel
theorem dX9_load_23 : decode cX9_load 23 = .ok (.iconst 0, 1) := by decide +kernel
theorem dX9_load_24 : decode cX9_load 24 = .ok (.iadd, 1) := by decide +kernel
theorem dX9_load_25 : decode cX9_load 25 = .ok (.iaload, 1) := by decide +kernel
theorem dX9_load_26 : decode cX9_load 26 = .ok (.ifCond .ne 7, 3) := by decide +kernel
theorem dX9_load_29 : decode cX9_load 29 = .ok (.fconst 0, 1) := by decide +kernel
theorem dX9_load_30 : decode cX9_load 30 = .ok (.goto 26, 3) := by decide +kernel
theorem dX9_load_33 : decode cX9_load 33 = .ok (.aload_n 0, 1) := by decide +kernel
theorem dX9_load_34 : decode cX9_load 34 = .ok (.getfield 7, 3) := by decide +kernel
theorem dX9_load_37 : decode cX9_load 37 = .ok (.iload_n 2, 1) := by decide +kernel
theorem dX9_load_38 : decode cX9_load 38 = .ok (.iconst 2, 1) := by decide +kernel
theorem dX9_load_39 : decode cX9_load 39 = .ok (.iadd, 1) := by decide +kernel
theorem dX9_load_40 : decode cX9_load 40 = .ok (.iaload, 1) := by decide +kernel
theorem dX9_load_41 : decode cX9_load 41 = .ok (.i2f, 1) := by decide +kernel
theorem dX9_load_42 : decode cX9_load 42 = .ok (.sipush 1000, 3) := by decide +kernel
theorem dX9_load_45 : decode cX9_load 45 = .ok (.aload_n 0, 1) := by decide +kernel
theorem dX9_load_46 : decode cX9_load 46 = .ok (.getfield 7, 3) := by decide +kernel
theorem dX9_load_49 : decode cX9_load 49 = .ok (.iload_n 2, 1) := by decide +kernel
theorem dX9_load_50 : decode cX9_load 50 = .ok (.iconst 0, 1) := by decide +kernel
theorem dX9_load_51 : decode cX9_load 51 = .ok (.iadd, 1) := by decide +kernel
theorem dX9_load_52 : decode cX9_load 52 = .ok (.iaload, 1) := by decide +kernel
theorem dX9_load_53 : decode cX9_load 53 = .ok (.imul, 1) := by decide +kernel
theorem dX9_load_54 : decode cX9_load 54 = .ok (.i2f, 1) := by decide +kernel
theorem dX9_load_55 : decode cX9_load 55 = .ok (.fdiv, 1) := by decide +kernel
theorem dX9_load_56 : decode cX9_load 56 = .ok (.freturn, 1) := by decide +kernel
theorem dX9_meanHeight_0 : decode cX9_meanHeight 0 = .ok (.iconst 0, 1) := by decide +kernel
theorem dX9_meanHeight_1 : decode cX9_meanHeight 1 = .ok (.istore_n 1, 1) := by decide +kernel
theorem dX9_meanHeight_2 : decode cX9_meanHeight 2 = .ok (.iconst 0, 1) := by decide +kernel
theorem dX9_meanHeight_3 : decode cX9_meanHeight 3 = .ok (.istore_n 2, 1) := by decide +kernel
theorem dX9_meanHeight_4 : decode cX9_meanHeight 4 = .ok (.iload_n 2, 1) := by decide +kernel
theorem dX9_meanHeight_5 : decode cX9_meanHeight 5 = .ok (.aload_n 0, 1) := by decide +kernel
theorem dX9_meanHeight_6 : decode cX9_meanHeight 6 = .ok (.getfield 7, 3) := by decide +kernel
theorem dX9_meanHeight_9 : decode cX9_meanHeight 9 = .ok (.sipush 938, 3) := by decide +kernel
theorem dX9_meanHeight_12 : decode cX9_meanHeight 12 = .ok (.iaload, 1) := by decide +kernel
theorem dX9_meanHeight_13 : decode cX9_meanHeight 13 = .ok (.if_icmp .ge 24, 3) := by decide +kernel
theorem dX9_meanHeight_16 : decode cX9_meanHeight 16 = .ok (.iload_n 1, 1) := by decide +kernel
theorem dX9_meanHeight_17 : decode cX9_meanHeight 17 = .ok (.aload_n 0, 1) := by decide +kernel
theorem dX9_meanHeight_18 : decode cX9_meanHeight 18 = .ok (.getfield 7, 3) := by decide +kernel
theorem dX9_meanHeight_21 : decode cX9_meanHeight 21 = .ok (.bipush 12, 2) := by decide +kernel
theorem dX9_meanHeight_23 : decode cX9_meanHeight 23 = .ok (.iload_n 2, 1) := by decide +kernel
theorem dX9_meanHeight_24 : decode cX9_meanHeight 24 = .ok (.imul, 1) := by decide +kernel
theorem dX9_meanHeight_25 : decode cX9_meanHeight 25 = .ok (.bipush 9, 2) := by decide +kernel
theorem dX9_meanHeight_27 : decode cX9_meanHeight 27 = .ok (.iadd, 1) := by decide +kernel
theorem dX9_meanHeight_28 : decode cX9_meanHeight 28 = .ok (.iaload, 1) := by decide +kernel
theorem dX9_meanHeight_29 : decode cX9_meanHeight 29 = .ok (.iadd, 1) := by decide +kernel
theorem dX9_meanHeight_30 : decode cX9_meanHeight 30 = .ok (.istore_n 1, 1) := by decide +kernel
theorem dX9_meanHeight_31 : decode cX9_meanHeight 31 = .ok (.iinc 2 1, 3) := by decide +kernel
theorem dX9_meanHeight_34 : decode cX9_meanHeight 34 = .ok (.goto (-30), 3) := by decide +kernel
theorem dX9_meanHeight_37 : decode cX9_meanHeight 37 = .ok (.iload_n 1, 1) := by decide +kernel
theorem dX9_meanHeight_38 : decode cX9_meanHeight 38 = .ok (.i2d, 1) := by decide +kernel
theorem dX9_meanHeight_39 : decode cX9_meanHeight 39 = .ok (.aload_n 0, 1) := by decide +kernel
theorem dX9_meanHeight_40 : decode cX9_meanHeight 40 = .ok (.getfield 7, 3) := by decide +kernel
theorem dX9_meanHeight_43 : decode cX9_meanHeight 43 = .ok (.sipush 938, 3) := by decide +kernel
theorem dX9_meanHeight_46 : decode cX9_meanHeight 46 = .ok (.iaload, 1) := by decide +kernel
theorem dX9_meanHeight_47 : decode cX9_meanHeight 47 = .ok (.i2d, 1) := by decide +kernel
theorem dX9_meanHeight_48 : decode cX9_meanHeight 48 = .ok (.ddiv, 1) := by decide +kernel
theorem dX9_meanHeight_49 : decode cX9_meanHeight 49 = .ok (.dreturn, 1) := by decide +kernel
theorem dX9_nextCue_0 : decode cX9_nextCue 0 = .ok (.iconst 0, 1) := by decide +kernel
theorem dX9_nextCue_1 : decode cX9_nextCue 1 = .ok (.istore_n 1, 1) := by decide +kernel
theorem dX9_nextCue_2 : decode cX9_nextCue 2 = .ok (.iload_n 1, 1) := by decide +kernel
theorem dX9_nextCue_3 : decode cX9_nextCue 3 = .ok (.aload_n 0, 1) := by decide +kernel
theorem dX9_nextCue_4 : decode cX9_nextCue 4 = .ok (.getfield 7, 3) := by decide +kernel
theorem dX9_nextCue_7 : decode cX9_nextCue 7 = .ok (.sipush 940, 3) := by decide +kernel
theorem dX9_nextCue_10 : decode cX9_nextCue 10 = .ok (.iaload, 1) := by decide +kernel
theorem dX9_nextCue_11 : decode cX9_nextCue 11 = .ok (.if_icmp .ge 28, 3) := by decide +kernel
theorem dX9_nextCue_14 : decode cX9_nextCue 14 = .ok (.aload_n 0, 1) := by decide +kernel
theorem dX9_nextCue_15 : decode cX9_nextCue 15 = .ok (.iload_n 1, 1) := by decide +kernel
theorem dX9_nextCue_16 : decode cX9_nextCue 16 = .ok (.iconst 0, 1) := by decide +kernel
theorem dX9_nextCue_17 : decode cX9_nextCue 17 = .ok (.invokevirtual 55, 3) := by decide +kernel
theorem dX9_nextCue_20 : decode cX9_nextCue 20 = .ok (.aload_n 0, 1) := by decide +kernel
theorem dX9_nextCue_21 : decode cX9_nextCue 21 = .ok (.getfield 7, 3) := by decide +kernel
theorem dX9_nextCue_24 : decode cX9_nextCue 24 = .ok (.sipush 937, 3) := by decide +kernel
theorem dX9_nextCue_27 : decode cX9_nextCue 27 = .ok (.iaload, 1) := by decide +kernel
theorem dX9_nextCue_28 : decode cX9_nextCue 28 = .ok (.if_icmp .lt 5, 3) := by decide +kernel
theorem dX9_nextCue_31 : decode cX9_nextCue 31 = .ok (.iload_n 1, 1) := by decide +kernel
theorem dX9_nextCue_32 : decode cX9_nextCue 32 = .ok (.ireturn, 1) := by decide +kernel
theorem dX9_nextCue_33 : decode cX9_nextCue 33 = .ok (.iinc 1 1, 3) := by decide +kernel
theorem dX9_nextCue_36 : decode cX9_nextCue 36 = .ok (.goto (-34), 3) := by decide +kernel
theorem dX9_nextCue_39 : decode cX9_nextCue 39 = .ok (.bipush (-6), 2) := by decide +kernel
theorem dX9_nextCue_41 : decode cX9_nextCue 41 = .ok (.ireturn, 1) := by decide +kernel
theorem dX9_state_0 : decode cX9_state 0 = .ok (.iload_n 1, 1) := by decide +kernel
theorem dX9_state_1 : decode cX9_state 1 = .ok (.bipush 10, 2) := by decide +kernel
theorem dX9_state_3 : decode cX9_state 3 = .ok (.bipush 15, 2) := by decide +kernel
theorem dX9_state_5 : decode cX9_state 5 = .ok (.invokestatic 33, 3) := by decide +kernel
theorem dX9_state_8 : decode cX9_state 8 = .ok (.ifCond .eq 17, 3) := by decide +kernel
theorem dX9_state_11 : decode cX9_state 11 = .ok (.aload_n 0, 1) := by decide +kernel
theorem dX9_state_12 : decode cX9_state 12 = .ok (.getfield 7, 3) := by decide +kernel
theorem dX9_state_15 : decode cX9_state 15 = .ok (.sipush 927, 3) := by decide +kernel
theorem dX9_state_18 : decode cX9_state 18 = .ok (.iload_n 1, 1) := by decide +kernel
theorem dX9_state_19 : decode cX9_state 19 = .ok (.iadd, 1) := by decide +kernel
theorem dX9_state_20 : decode cX9_state 20 = .ok (.bipush 10, 2) := by decide +kernel
theorem dX9_state_22 : decode cX9_state 22 = .ok (.isub, 1) := by decide +kernel
theorem dX9_state_23 : decode cX9_state 23 = .ok (.iaload, 1) := by decide +kernel
theorem dX9_state_24 : decode cX9_state 24 = .ok (.ireturn, 1) := by decide +kernel
theorem dX9_state_25 : decode cX9_state 25 = .ok (.iload_n 1, 1) := by decide +kernel
theorem dX9_state_26 : decode cX9_state 26 = .ok (.tableswitch 140 0 9 #[54, 63, 72, 81, 90, 103, 112, 121, 130, 135], 54) := by decide +kernel
theorem dX9_state_80 : decode cX9_state 80 = .ok (.aload_n 0, 1) := by decide +kernel
theorem dX9_state_81 : decode cX9_state 81 = .ok (.getfield 7, 3) := by decide +kernel
theorem dX9_state_84 : decode cX9_state 84 = .ok (.sipush 937, 3) := by decide +kernel
theorem dX9_state_87 : decode cX9_state 87 = .ok (.iaload, 1) := by decide +kernel
theorem dX9_state_88 : decode cX9_state 88 = .ok (.ireturn, 1) := by decide +kernel
theorem dX9_state_89 : decode cX9_state 89 = .ok (.aload_n 0, 1) := by decide +kernel
theorem dX9_state_90 : decode cX9_state 90 = .ok (.getfield 7, 3) := by decide +kernel
theorem dX9_state_93 : decode cX9_state 93 = .ok (.sipush 938, 3) := by decide +kernel
theorem dX9_state_96 : decode cX9_state 96 = .ok (.iaload, 1) := by decide +kernel
theorem dX9_state_97 : decode cX9_state 97 = .ok (.ireturn, 1) := by decide +kernel
theorem dX9_state_98 : decode cX9_state 98 = .ok (.aload_n 0, 1) := by decide +kernel
theorem dX9_state_99 : decode cX9_state 99 = .ok (.getfield 7, 3) := by decide +kernel
theorem dX9_state_102 : decode cX9_state 102 = .ok (.sipush 940, 3) := by decide +kernel
theorem dX9_state_105 : decode cX9_state 105 = .ok (.iaload, 1) := by decide +kernel
theorem dX9_state_106 : decode cX9_state 106 = .ok (.ireturn, 1) := by decide +kernel
theorem dX9_state_107 : decode cX9_state 107 = .ok (.aload_n 0, 1) := by decide +kernel
theorem dX9_state_108 : decode cX9_state 108 = .ok (.getfield 7, 3) := by decide +kernel
theorem dX9_state_111 : decode cX9_state 111 = .ok (.sipush 933, 3) := by decide +kernel
theorem dX9_state_114 : decode cX9_state 114 = .ok (.iaload, 1) := by decide +kernel
theorem dX9_state_115 : decode cX9_state 115 = .ok (.ireturn, 1) := by decide +kernel
theorem dX9_state_116 : decode cX9_state 116 = .ok (.aload_n 0, 1) := by decide +kernel
theorem dX9_state_117 : decode cX9_state 117 = .ok (.getfield 7, 3) := by decide +kernel
theorem dX9_state_120 : decode cX9_state 120 = .ok (.sipush 934, 3) := by decide +kernel
theorem dX9_state_123 : decode cX9_state 123 = .ok (.iaload, 1) := by decide +kernel
theorem dX9_state_124 : decode cX9_state 124 = .ok (.sipush 1024, 3) := by decide +kernel
theorem dX9_state_127 : decode cX9_state 127 = .ok (.idiv, 1) := by decide +kernel
theorem dX9_state_128 : decode cX9_state 128 = .ok (.ireturn, 1) := by decide +kernel
theorem dX9_state_129 : decode cX9_state 129 = .ok (.aload_n 0, 1) := by decide +kernel
theorem dX9_state_130 : decode cX9_state 130 = .ok (.getfield 7, 3) := by decide +kernel
theorem dX9_state_133 : decode cX9_state 133 = .ok (.sipush 935, 3) := by decide +kernel
theorem dX9_state_136 : decode cX9_state 136 = .ok (.iaload, 1) := by decide +kernel
theorem dX9_state_137 : decode cX9_state 137 = .ok (.ireturn, 1) := by decide +kernel
theorem dX9_state_138 : decode cX9_state 138 = .ok (.aload_n 0, 1) := by decide +kernel
theorem dX9_state_139 : decode cX9_state 139 = .ok (.getfield 7, 3) := by decide +kernel
theorem dX9_state_142 : decode cX9_state 142 = .ok (.sipush 936, 3) := by decide +kernel
theorem dX9_state_145 : decode cX9_state 145 = .ok (.iaload, 1) := by decide +kernel
theorem dX9_state_146 : decode cX9_state 146 = .ok (.ireturn, 1) := by decide +kernel
theorem dX9_state_147 : decode cX9_state 147 = .ok (.aload_n 0, 1) := by decide +kernel
theorem dX9_state_148 : decode cX9_state 148 = .ok (.getfield 7, 3) := by decide +kernel
theorem dX9_state_151 : decode cX9_state 151 = .ok (.sipush 939, 3) := by decide +kernel
theorem dX9_state_154 : decode cX9_state 154 = .ok (.iaload, 1) := by decide +kernel
theorem dX9_state_155 : decode cX9_state 155 = .ok (.ireturn, 1) := by decide +kernel
theorem dX9_state_156 : decode cX9_state 156 = .ok (.aload_n 0, 1) := by decide +kernel
theorem dX9_state_157 : decode cX9_state 157 = .ok (.invokevirtual 107, 3) := by decide +kernel
theorem dX9_state_160 : decode cX9_state 160 = .ok (.ireturn, 1) := by decide +kernel
theorem dX9_state_161 : decode cX9_state 161 = .ok (.aload_n 0, 1) := by decide +kernel
theorem dX9_state_162 : decode cX9_state 162 = .ok (.getfield 111, 3) := by decide +kernel
theorem dX9_state_165 : decode cX9_state 165 = .ok (.ireturn, 1) := by decide +kernel
theorem dX9_state_166 : decode cX9_state 166 = .ok (.bipush (-2), 2) := by decide +kernel
theorem dX9_state_168 : decode cX9_state 168 = .ok (.ireturn, 1) := by decide +kernel
theorem dX9_greatestNow_0 : decode cX9_greatestNow 0 = .ok (.iconst 0, 1) := by decide +kernel
theorem dX9_greatestNow_1 : decode cX9_greatestNow 1 = .ok (.istore_n 1, 1) := by decide +kernel
theorem dX9_greatestNow_2 : decode cX9_greatestNow 2 = .ok (.iconst 0, 1) := by decide +kernel
theorem dX9_greatestNow_3 : decode cX9_greatestNow 3 = .ok (.istore_n 2, 1) := by decide +kernel
theorem dX9_greatestNow_4 : decode cX9_greatestNow 4 = .ok (.iload_n 2, 1) := by decide +kernel
theorem dX9_greatestNow_5 : decode cX9_greatestNow 5 = .ok (.aload_n 0, 1) := by decide +kernel
theorem dX9_greatestNow_6 : decode cX9_greatestNow 6 = .ok (.getfield 7, 3) := by decide +kernel
theorem dX9_greatestNow_9 : decode cX9_greatestNow 9 = .ok (.sipush 938, 3) := by decide +kernel
theorem dX9_greatestNow_12 : decode cX9_greatestNow 12 = .ok (.iaload, 1) := by decide +kernel
theorem dX9_greatestNow_13 : decode cX9_greatestNow 13 = .ok (.if_icmp .ge 42, 3) := by decide +kernel
theorem dX9_greatestNow_16 : decode cX9_greatestNow 16 = .ok (.aload_n 0, 1) := by decide +kernel
theorem dX9_greatestNow_17 : decode cX9_greatestNow 17 = .ok (.getfield 7, 3) := by decide +kernel
theorem dX9_greatestNow_20 : decode cX9_greatestNow 20 = .ok (.bipush 12, 2) := by decide +kernel
theorem dX9_greatestNow_22 : decode cX9_greatestNow 22 = .ok (.iload_n 2, 1) := by decide +kernel
theorem dX9_greatestNow_23 : decode cX9_greatestNow 23 = .ok (.imul, 1) := by decide +kernel
theorem dX9_greatestNow_24 : decode cX9_greatestNow 24 = .ok (.bipush 9, 2) := by decide +kernel
theorem dX9_greatestNow_26 : decode cX9_greatestNow 26 = .ok (.iadd, 1) := by decide +kernel
theorem dX9_greatestNow_27 : decode cX9_greatestNow 27 = .ok (.iaload, 1) := by decide +kernel
theorem dX9_greatestNow_28 : decode cX9_greatestNow 28 = .ok (.iload_n 1, 1) := by decide +kernel
theorem dX9_greatestNow_29 : decode cX9_greatestNow 29 = .ok (.if_icmp .le 18, 3) := by decide +kernel
theorem dX9_greatestNow_32 : decode cX9_greatestNow 32 = .ok (.aload_n 0, 1) := by decide +kernel
theorem dX9_greatestNow_33 : decode cX9_greatestNow 33 = .ok (.getfield 7, 3) := by decide +kernel
theorem dX9_greatestNow_36 : decode cX9_greatestNow 36 = .ok (.bipush 12, 2) := by decide +kernel
theorem dX9_greatestNow_38 : decode cX9_greatestNow 38 = .ok (.iload_n 2, 1) := by decide +kernel
theorem dX9_greatestNow_39 : decode cX9_greatestNow 39 = .ok (.imul, 1) := by decide +kernel
theorem dX9_greatestNow_40 : decode cX9_greatestNow 40 = .ok (.bipush 9, 2) := by decide +kernel
theorem dX9_greatestNow_42 : decode cX9_greatestNow 42 = .ok (.iadd, 1) := by decide +kernel
theorem dX9_greatestNow_43 : decode cX9_greatestNow 43 = .ok (.iaload, 1) := by decide +kernel
theorem dX9_greatestNow_44 : decode cX9_greatestNow 44 = .ok (.goto 4, 3) := by decide +kernel
theorem dX9_greatestNow_47 : decode cX9_greatestNow 47 = .ok (.iload_n 1, 1) := by decide +kernel
theorem dX9_greatestNow_48 : decode cX9_greatestNow 48 = .ok (.istore_n 1, 1) := by decide +kernel
theorem dX9_greatestNow_49 : decode cX9_greatestNow 49 = .ok (.iinc 2 1, 3) := by decide +kernel
theorem dX9_greatestNow_52 : decode cX9_greatestNow 52 = .ok (.goto (-48), 3) := by decide +kernel
theorem dX9_greatestNow_55 : decode cX9_greatestNow 55 = .ok (.iload_n 1, 1) := by decide +kernel
theorem dX9_greatestNow_56 : decode cX9_greatestNow 56 = .ok (.ireturn, 1) := by decide +kernel
theorem dX9_ahead_0 : decode cX9_ahead 0 = .ok (.iload_n 1, 1) := by decide +kernel
theorem dX9_ahead_1 : decode cX9_ahead 1 = .ok (.iconst 1, 1) := by decide +kernel
theorem dX9_ahead_2 : decode cX9_ahead 2 = .ok (.sipush 1000, 3) := by decide +kernel
theorem dX9_ahead_5 : decode cX9_ahead 5 = .ok (.invokestatic 33, 3) := by decide +kernel
theorem dX9_ahead_8 : decode cX9_ahead 8 = .ok (.ifCond .eq 12, 3) := by decide +kernel
theorem dX9_ahead_11 : decode cX9_ahead 11 = .ok (.iload_n 3, 1) := by decide +kernel
theorem dX9_ahead_12 : decode cX9_ahead 12 = .ok (.iconst 0, 1) := by decide +kernel
theorem dX9_ahead_13 : decode cX9_ahead 13 = .ok (.iconst 4, 1) := by decide +kernel
theorem dX9_ahead_14 : decode cX9_ahead 14 = .ok (.invokestatic 33, 3) := by decide +kernel
theorem dX9_ahead_17 : decode cX9_ahead 17 = .ok (.ifCond .ne 6, 3) := by decide +kernel
theorem dX9_ahead_20 : decode cX9_ahead 20 = .ok (.bipush (-2), 2) := by decide +kernel
theorem dX9_ahead_22 : decode cX9_ahead 22 = .ok (.ireturn, 1) := by decide +kernel
theorem dX9_ahead_23 : decode cX9_ahead 23 = .ok (.iload_n 3, 1) := by decide +kernel
theorem dX9_ahead_24 : decode cX9_ahead 24 = .ok (.iconst 3, 1) := by decide +kernel
theorem dX9_ahead_25 : decode cX9_ahead 25 = .ok (.if_icmp .ge 12, 3) := by decide +kernel
theorem dX9_ahead_28 : decode cX9_ahead 28 = .ok (.iload_n 2, 1) := by decide +kernel
theorem dX9_ahead_29 : decode cX9_ahead 29 = .ok (.invokestatic 49, 3) := by decide +kernel
theorem dX9_ahead_32 : decode cX9_ahead 32 = .ok (.ifCond .ne 5, 3) := by decide +kernel
theorem dX9_ahead_35 : decode cX9_ahead 35 = .ok (.iconst (-1), 1) := by decide +kernel
theorem dX9_ahead_36 : decode cX9_ahead 36 = .ok (.ireturn, 1) := by decide +kernel
theorem dX9_ahead_37 : decode cX9_ahead 37 = .ok (.aload_n 0, 1) := by decide +kernel
theorem dX9_ahead_38 : decode cX9_ahead 38 = .ok (.invokevirtual 115, 3) := by decide +kernel
theorem dX9_ahead_41 : decode cX9_ahead 41 = .ok (.sipush 912, 3) := by decide +kernel
theorem dX9_ahead_44 : decode cX9_ahead 44 = .ok (.iconst 5, 1) := by decide +kernel
theorem dX9_ahead_45 : decode cX9_ahead 45 = .ok (.iload_n 3, 1) := by decide +kernel
theorem dX9_ahead_46 : decode cX9_ahead 46 = .ok (.iconst 3, 1) := by decide +kernel
theorem dX9_ahead_47 : decode cX9_ahead 47 = .ok (.if_icmp .ge 7, 3) := by decide +kernel
theorem dX9_ahead_50 : decode cX9_ahead 50 = .ok (.iload_n 2, 1) := by decide +kernel
theorem dX9_ahead_51 : decode cX9_ahead 51 = .ok (.goto 4, 3) := by decide +kernel
theorem dX9_ahead_54 : decode cX9_ahead 54 = .ok (.iconst 0, 1) := by decide +kernel
theorem dX9_ahead_55 : decode cX9_ahead 55 = .ok (.imul, 1) := by decide +kernel
theorem dX9_ahead_56 : decode cX9_ahead 56 = .ok (.iadd, 1) := by decide +kernel
theorem dX9_ahead_57 : decode cX9_ahead 57 = .ok (.istore 4, 2) := by decide +kernel
theorem dX9_ahead_59 : decode cX9_ahead 59 = .ok (.iconst 0, 1) := by decide +kernel
theorem dX9_ahead_60 : decode cX9_ahead 60 = .ok (.istore 5, 2) := by decide +kernel
theorem dX9_ahead_62 : decode cX9_ahead 62 = .ok (.iconst 0, 1) := by decide +kernel
theorem dX9_ahead_63 : decode cX9_ahead 63 = .ok (.istore 6, 2) := by decide +kernel
theorem dX9_ahead_65 : decode cX9_ahead 65 = .ok (.bipush (-6), 2) := by decide +kernel
theorem dX9_ahead_67 : decode cX9_ahead 67 = .ok (.istore 7, 2) := by decide +kernel
theorem dX9_ahead_69 : decode cX9_ahead 69 = .ok (.iconst 0, 1) := by decide +kernel
theorem dX9_ahead_70 : decode cX9_ahead 70 = .ok (.istore 8, 2) := by decide +kernel
theorem dX9_ahead_72 : decode cX9_ahead 72 = .ok (.iconst 0, 1) := by decide +kernel
theorem dX9_ahead_73 : decode cX9_ahead 73 = .ok (.istore 9, 2) := by decide +kernel
theorem dX9_ahead_75 : decode cX9_ahead 75 = .ok (.iload 9, 2) := by decide +kernel
theorem dX9_ahead_77 : decode cX9_ahead 77 = .ok (.iload_n 1, 1) := by decide +kernel
theorem dX9_ahead_78 : decode cX9_ahead 78 = .ok (.if_icmp .ge 121, 3) := by decide +kernel
theorem dX9_ahead_81 : decode cX9_ahead 81 = .ok (.aload_n 0, 1) := by decide +kernel
theorem dX9_ahead_82 : decode cX9_ahead 82 = .ok (.getfield 7, 3) := by decide +kernel
theorem dX9_ahead_85 : decode cX9_ahead 85 = .ok (.iload 4, 2) := by decide +kernel
theorem dX9_ahead_87 : decode cX9_ahead 87 = .ok (.iconst 4, 1) := by decide +kernel
theorem dX9_ahead_88 : decode cX9_ahead 88 = .ok (.iadd, 1) := by decide +kernel
theorem dX9_ahead_89 : decode cX9_ahead 89 = .ok (.iaload, 1) := by decide +kernel
theorem dX9_ahead_90 : decode cX9_ahead 90 = .ok (.istore 10, 2) := by decide +kernel
theorem dX9_ahead_92 : decode cX9_ahead 92 = .ok (.aload_n 0, 1) := by decide +kernel
theorem dX9_ahead_93 : decode cX9_ahead 93 = .ok (.invokevirtual 103, 3) := by decide +kernel
theorem dX9_ahead_96 : decode cX9_ahead 96 = .ok (.aload_n 0, 1) := by decide +kernel
theorem dX9_ahead_97 : decode cX9_ahead 97 = .ok (.getfield 7, 3) := by decide +kernel
theorem dX9_ahead_100 : decode cX9_ahead 100 = .ok (.iload 4, 2) := by decide +kernel
theorem dX9_ahead_102 : decode cX9_ahead 102 = .ok (.iconst 3, 1) := by decide +kernel
theorem dX9_ahead_103 : decode cX9_ahead 103 = .ok (.iadd, 1) := by decide +kernel
theorem dX9_ahead_104 : decode cX9_ahead 104 = .ok (.iaload, 1) := by decide +kernel
theorem dX9_ahead_105 : decode cX9_ahead 105 = .ok (.iload 5, 2) := by decide +kernel
theorem dX9_ahead_107 : decode cX9_ahead 107 = .ok (.if_icmp .le 15, 3) := by decide +kernel
theorem dX9_ahead_110 : decode cX9_ahead 110 = .ok (.aload_n 0, 1) := by decide +kernel
theorem dX9_ahead_111 : decode cX9_ahead 111 = .ok (.getfield 7, 3) := by decide +kernel
theorem dX9_ahead_114 : decode cX9_ahead 114 = .ok (.iload 4, 2) := by decide +kernel
theorem dX9_ahead_116 : decode cX9_ahead 116 = .ok (.iconst 3, 1) := by decide +kernel
theorem dX9_ahead_117 : decode cX9_ahead 117 = .ok (.iadd, 1) := by decide +kernel
theorem dX9_ahead_118 : decode cX9_ahead 118 = .ok (.iaload, 1) := by decide +kernel
theorem dX9_ahead_119 : decode cX9_ahead 119 = .ok (.goto 5, 3) := by decide +kernel
theorem dX9_ahead_122 : decode cX9_ahead 122 = .ok (.iload 5, 2) := by decide +kernel
theorem dX9_ahead_124 : decode cX9_ahead 124 = .ok (.istore 5, 2) := by decide +kernel
theorem dX9_ahead_126 : decode cX9_ahead 126 = .ok (.iload 6, 2) := by decide +kernel
theorem dX9_ahead_128 : decode cX9_ahead 128 = .ok (.aload_n 0, 1) := by decide +kernel
theorem dX9_ahead_129 : decode cX9_ahead 129 = .ok (.getfield 7, 3) := by decide +kernel
theorem dX9_ahead_132 : decode cX9_ahead 132 = .ok (.iload 4, 2) := by decide +kernel
theorem dX9_ahead_134 : decode cX9_ahead 134 = .ok (.iconst 4, 1) := by decide +kernel
theorem dX9_ahead_135 : decode cX9_ahead 135 = .ok (.iadd, 1) := by decide +kernel
theorem dX9_ahead_136 : decode cX9_ahead 136 = .ok (.iaload, 1) := by decide +kernel
theorem dX9_ahead_137 : decode cX9_ahead 137 = .ok (.iload 10, 2) := by decide +kernel
theorem dX9_ahead_139 : decode cX9_ahead 139 = .ok (.isub, 1) := by decide +kernel
theorem dX9_ahead_140 : decode cX9_ahead 140 = .ok (.iadd, 1) := by decide +kernel
theorem dX9_ahead_141 : decode cX9_ahead 141 = .ok (.istore 6, 2) := by decide +kernel
theorem dX9_ahead_143 : decode cX9_ahead 143 = .ok (.iload 7, 2) := by decide +kernel
theorem dX9_ahead_145 : decode cX9_ahead 145 = .ok (.ifCond .ge 22, 3) := by decide +kernel
theorem dX9_ahead_148 : decode cX9_ahead 148 = .ok (.aload_n 0, 1) := by decide +kernel
theorem dX9_ahead_149 : decode cX9_ahead 149 = .ok (.getfield 7, 3) := by decide +kernel
theorem dX9_ahead_152 : decode cX9_ahead 152 = .ok (.iload 4, 2) := by decide +kernel
theorem dX9_ahead_154 : decode cX9_ahead 154 = .ok (.iconst 4, 1) := by decide +kernel
theorem dX9_ahead_155 : decode cX9_ahead 155 = .ok (.iadd, 1) := by decide +kernel
theorem dX9_ahead_156 : decode cX9_ahead 156 = .ok (.iaload, 1) := by decide +kernel
theorem dX9_ahead_157 : decode cX9_ahead 157 = .ok (.iload 10, 2) := by decide +kernel
theorem dX9_ahead_159 : decode cX9_ahead 159 = .ok (.if_icmp .le 8, 3) := by decide +kernel
theorem dX9_ahead_162 : decode cX9_ahead 162 = .ok (.iload 9, 2) := by decide +kernel
theorem dX9_ahead_164 : decode cX9_ahead 164 = .ok (.goto 5, 3) := by decide +kernel
theorem dX9_ahead_167 : decode cX9_ahead 167 = .ok (.iload 7, 2) := by decide +kernel
theorem dX9_ahead_169 : decode cX9_ahead 169 = .ok (.istore 7, 2) := by decide +kernel
theorem dX9_ahead_171 : decode cX9_ahead 171 = .ok (.aload_n 0, 1) := by decide +kernel
theorem dX9_ahead_172 : decode cX9_ahead 172 = .ok (.invokevirtual 118, 3) := by decide +kernel
theorem dX9_ahead_175 : decode cX9_ahead 175 = .ok (.istore 11, 2) := by decide +kernel
theorem dX9_ahead_177 : decode cX9_ahead 177 = .ok (.iload 11, 2) := by decide +kernel
theorem dX9_ahead_179 : decode cX9_ahead 179 = .ok (.iload 8, 2) := by decide +kernel
theorem dX9_ahead_181 : decode cX9_ahead 181 = .ok (.if_icmp .le 8, 3) := by decide +kernel
theorem dX9_ahead_184 : decode cX9_ahead 184 = .ok (.iload 11, 2) := by decide +kernel
theorem dX9_ahead_186 : decode cX9_ahead 186 = .ok (.goto 5, 3) := by decide +kernel
theorem dX9_ahead_189 : decode cX9_ahead 189 = .ok (.iload 8, 2) := by decide +kernel
theorem dX9_ahead_191 : decode cX9_ahead 191 = .ok (.istore 8, 2) := by decide +kernel
theorem dX9_ahead_193 : decode cX9_ahead 193 = .ok (.iinc 9 1, 3) := by decide +kernel
theorem dX9_ahead_196 : decode cX9_ahead 196 = .ok (.goto (-121), 3) := by decide +kernel
theorem dX9_ahead_199 : decode cX9_ahead 199 = .ok (.aload_n 0, 1) := by decide +kernel
theorem dX9_ahead_200 : decode cX9_ahead 200 = .ok (.getfield 7, 3) := by decide +kernel
theorem dX9_ahead_203 : decode cX9_ahead 203 = .ok (.sipush 939, 3) := by decide +kernel
theorem dX9_ahead_206 : decode cX9_ahead 206 = .ok (.iaload, 1) := by decide +kernel
theorem dX9_ahead_207 : decode cX9_ahead 207 = .ok (.aload_n 0, 1) := by decide +kernel
theorem dX9_ahead_208 : decode cX9_ahead 208 = .ok (.getfield 13, 3) := by decide +kernel
theorem dX9_ahead_211 : decode cX9_ahead 211 = .ok (.sipush 939, 3) := by decide +kernel
theorem dX9_ahead_214 : decode cX9_ahead 214 = .ok (.iaload, 1) := by decide +kernel
theorem dX9_ahead_215 : decode cX9_ahead 215 = .ok (.isub, 1) := by decide +kernel
theorem dX9_ahead_216 : decode cX9_ahead 216 = .ok (.istore 9, 2) := by decide +kernel
theorem dX9_ahead_218 : decode cX9_ahead 218 = .ok (.aload_n 0, 1) := by decide +kernel
theorem dX9_ahead_219 : decode cX9_ahead 219 = .ok (.invokevirtual 121, 3) := by decide +kernel
theorem dX9_ahead_222 : decode cX9_ahead 222 = .ok (.iload_n 3, 1) := by decide +kernel
theorem dX9_ahead_223 : decode cX9_ahead 223 = .ok (.ifCond .ne 8, 3) := by decide +kernel
theorem dX9_ahead_226 : decode cX9_ahead 226 = .ok (.iload 5, 2) := by decide +kernel
theorem dX9_ahead_228 : decode cX9_ahead 228 = .ok (.goto 35, 3) := by decide +kernel
theorem dX9_ahead_231 : decode cX9_ahead 231 = .ok (.iload_n 3, 1) := by decide +kernel
theorem dX9_ahead_232 : decode cX9_ahead 232 = .ok (.iconst 1, 1) := by decide +kernel
theorem dX9_ahead_233 : decode cX9_ahead 233 = .ok (.if_icmp .ne 8, 3) := by decide +kernel
theorem dX9_ahead_236 : decode cX9_ahead 236 = .ok (.iload 6, 2) := by decide +kernel
theorem dX9_ahead_238 : decode cX9_ahead 238 = .ok (.goto 25, 3) := by decide +kernel
theorem dX9_ahead_241 : decode cX9_ahead 241 = .ok (.iload_n 3, 1) := by decide +kernel
theorem dX9_ahead_242 : decode cX9_ahead 242 = .ok (.iconst 2, 1) := by decide +kernel
theorem dX9_ahead_243 : decode cX9_ahead 243 = .ok (.if_icmp .ne 8, 3) := by decide +kernel
theorem dX9_ahead_246 : decode cX9_ahead 246 = .ok (.iload 7, 2) := by decide +kernel
theorem dX9_ahead_248 : decode cX9_ahead 248 = .ok (.goto 15, 3) := by decide +kernel
theorem dX9_ahead_251 : decode cX9_ahead 251 = .ok (.iload_n 3, 1) := by decide +kernel
theorem dX9_ahead_252 : decode cX9_ahead 252 = .ok (.iconst 3, 1) := by decide +kernel
theorem dX9_ahead_253 : decode cX9_ahead 253 = .ok (.if_icmp .ne 8, 3) := by decide +kernel
theorem dX9_ahead_256 : decode cX9_ahead 256 = .ok (.iload 9, 2) := by decide +kernel
theorem dX9_ahead_258 : decode cX9_ahead 258 = .ok (.goto 5, 3) := by decide +kernel
theorem dX9_ahead_261 : decode cX9_ahead 261 = .ok (.iload 8, 2) := by decide +kernel
theorem dX9_ahead_263 : decode cX9_ahead 263 = .ok (.ireturn, 1) := by decide +kernel
theorem dX9_shorts_0 : decode cX9_shorts 0 = .ok (.iconst 0, 1) := by decide +kernel
theorem dX9_shorts_1 : decode cX9_shorts 1 = .ok (.istore_n 1, 1) := by decide +kernel
theorem dX9_shorts_2 : decode cX9_shorts 2 = .ok (.iconst 0, 1) := by decide +kernel
theorem dX9_shorts_3 : decode cX9_shorts 3 = .ok (.istore_n 2, 1) := by decide +kernel
theorem dX9_shorts_4 : decode cX9_shorts 4 = .ok (.iload_n 2, 1) := by decide +kernel
theorem dX9_shorts_5 : decode cX9_shorts 5 = .ok (.iconst 3, 1) := by decide +kernel
theorem dX9_shorts_6 : decode cX9_shorts 6 = .ok (.if_icmp .ge 26, 3) := by decide +kernel
theorem dX9_shorts_9 : decode cX9_shorts 9 = .ok (.iload_n 1, 1) := by decide +kernel
theorem dX9_shorts_10 : decode cX9_shorts 10 = .ok (.aload_n 0, 1) := by decide +kernel
theorem dX9_shorts_11 : decode cX9_shorts 11 = .ok (.getfield 7, 3) := by decide +kernel
theorem dX9_shorts_14 : decode cX9_shorts 14 = .ok (.sipush 912, 3) := by decide +kernel
theorem dX9_shorts_17 : decode cX9_shorts 17 = .ok (.iconst 5, 1) := by decide +kernel
theorem dX9_shorts_18 : decode cX9_shorts 18 = .ok (.iload_n 2, 1) := by decide +kernel
theorem dX9_shorts_19 : decode cX9_shorts 19 = .ok (.imul, 1) := by decide +kernel
theorem dX9_shorts_20 : decode cX9_shorts 20 = .ok (.iadd, 1) := by decide +kernel
theorem dX9_shorts_21 : decode cX9_shorts 21 = .ok (.iconst 4, 1) := by decide +kernel
theorem dX9_shorts_22 : decode cX9_shorts 22 = .ok (.iadd, 1) := by decide +kernel
theorem dX9_shorts_23 : decode cX9_shorts 23 = .ok (.iaload, 1) := by decide +kernel
theorem dX9_shorts_24 : decode cX9_shorts 24 = .ok (.iadd, 1) := by decide +kernel
theorem dX9_shorts_25 : decode cX9_shorts 25 = .ok (.istore_n 1, 1) := by decide +kernel
theorem dX9_shorts_26 : decode cX9_shorts 26 = .ok (.iinc 2 1, 3) := by decide +kernel
theorem dX9_shorts_29 : decode cX9_shorts 29 = .ok (.goto (-25), 3) := by decide +kernel
theorem dX9_shorts_32 : decode cX9_shorts 32 = .ok (.iload_n 1, 1) := by decide +kernel
theorem dX9_shorts_33 : decode cX9_shorts 33 = .ok (.ireturn, 1) := by decide +kernel
theorem dX9_isEnough_0 : decode cX9_isEnough 0 = .ok (.aload_n 0, 1) := by decide +kernel
theorem dX9_isEnough_1 : decode cX9_isEnough 1 = .ok (.invokevirtual 124, 3) := by decide +kernel
theorem dX9_isEnough_4 : decode cX9_isEnough 4 = .ok (.istore_n 2, 1) := by decide +kernel
theorem dX9_isEnough_5 : decode cX9_isEnough 5 = .ok (.iconst 0, 1) := by decide +kernel
theorem dX9_isEnough_6 : decode cX9_isEnough 6 = .ok (.istore_n 3, 1) := by decide +kernel
theorem dX9_isEnough_7 : decode cX9_isEnough 7 = .ok (.iload_n 3, 1) := by decide +kernel
theorem dX9_isEnough_8 : decode cX9_isEnough 8 = .ok (.iload_n 1, 1) := by decide +kernel
theorem dX9_isEnough_9 : decode cX9_isEnough 9 = .ok (.if_icmp .ge 21, 3) := by decide +kernel
theorem dX9_isEnough_12 : decode cX9_isEnough 12 = .ok (.aload_n 0, 1) := by decide +kernel
theorem dX9_isEnough_13 : decode cX9_isEnough 13 = .ok (.invokevirtual 124, 3) := by decide +kernel
theorem dX9_isEnough_16 : decode cX9_isEnough 16 = .ok (.iload_n 2, 1) := by decide +kernel
theorem dX9_isEnough_17 : decode cX9_isEnough 17 = .ok (.if_icmp .ne 13, 3) := by decide +kernel
theorem dX9_isEnough_20 : decode cX9_isEnough 20 = .ok (.aload_n 0, 1) := by decide +kernel
theorem dX9_isEnough_21 : decode cX9_isEnough 21 = .ok (.invokevirtual 103, 3) := by decide +kernel
theorem dX9_isEnough_24 : decode cX9_isEnough 24 = .ok (.iinc 3 1, 3) := by decide +kernel
theorem dX9_isEnough_27 : decode cX9_isEnough 27 = .ok (.goto (-20), 3) := by decide +kernel
theorem dX9_isEnough_30 : decode cX9_isEnough 30 = .ok (.aload_n 0, 1) := by decide +kernel
theorem dX9_isEnough_31 : decode cX9_isEnough 31 = .ok (.invokevirtual 124, 3) := by decide +kernel
theorem dX9_isEnough_34 : decode cX9_isEnough 34 = .ok (.iload_n 2, 1) := by decide +kernel
theorem dX9_isEnough_35 : decode cX9_isEnough 35 = .ok (.if_icmp .ne 7, 3) := by decide +kernel
theorem dX9_isEnough_38 : decode cX9_isEnough 38 = .ok (.iconst 1, 1) := by decide +kernel
theorem dX9_isEnough_39 : decode cX9_isEnough 39 = .ok (.goto 4, 3) := by decide +kernel
theorem dX9_isEnough_42 : decode cX9_isEnough 42 = .ok (.iconst 0, 1) := by decide +kernel
theorem dX9_isEnough_43 : decode cX9_isEnough 43 = .ok (.ireturn, 1) := by decide +kernel
theorem dX9_delay_0 : decode cX9_delay 0 = .ok (.aload_n 0, 1) := by decide +kernel
theorem dX9_delay_1 : decode cX9_delay 1 = .ok (.iload_n 1, 1) := by decide +kernel
theorem dX9_delay_2 : decode cX9_delay 2 = .ok (.invokevirtual 70, 3) := by decide +kernel
theorem dX9_delay_5 : decode cX9_delay 5 = .ok (.ifCond .ne 5, 3) := by decide +kernel
theorem dX9_delay_8 : decode cX9_delay 8 = .ok (.iconst (-1), 1) := by decide +kernel
theorem dX9_delay_9 : decode cX9_delay 9 = .ok (.ireturn, 1) := by decide +kernel
theorem dX9_delay_10 : decode cX9_delay 10 = .ok (.iload_n 2, 1) := by decide +kernel
theorem dX9_delay_11 : decode cX9_delay 11 = .ok (.iconst 0, 1) := by decide +kernel
theorem dX9_delay_12 : decode cX9_delay 12 = .ok (.bipush 100, 2) := by decide +kernel
theorem dX9_delay_14 : decode cX9_delay 14 = .ok (.invokestatic 33, 3) := by decide +kernel
theorem dX9_delay_17 : decode cX9_delay 17 = .ok (.ifCond .eq 14, 3) := by decide +kernel
theorem dX9_delay_20 : decode cX9_delay 20 = .ok (.iload_n 3, 1) := by decide +kernel
theorem dX9_delay_21 : decode cX9_delay 21 = .ok (.iconst 1, 1) := by decide +kernel
theorem dX9_delay_22 : decode cX9_delay 22 = .ok (.sipush 300, 3) := by decide +kernel
theorem dX9_delay_25 : decode cX9_delay 25 = .ok (.invokestatic 33, 3) := by decide +kernel
theorem dX9_delay_28 : decode cX9_delay 28 = .ok (.ifCond .ne 6, 3) := by decide +kernel
theorem dX9_delay_31 : decode cX9_delay 31 = .ok (.bipush (-2), 2) := by decide +kernel
theorem dX9_delay_33 : decode cX9_delay 33 = .ok (.ireturn, 1) := by decide +kernel
theorem dX9_delay_34 : decode cX9_delay 34 = .ok (.aload_n 0, 1) := by decide +kernel
theorem dX9_delay_35 : decode cX9_delay 35 = .ok (.invokevirtual 115, 3) := by decide +kernel
theorem dX9_delay_38 : decode cX9_delay 38 = .ok (.bipush (-6), 2) := by decide +kernel
theorem dX9_delay_40 : decode cX9_delay 40 = .ok (.istore 4, 2) := by decide +kernel
theorem dX9_delay_42 : decode cX9_delay 42 = .ok (.iconst 0, 1) := by decide +kernel
theorem dX9_delay_43 : decode cX9_delay 43 = .ok (.istore 5, 2) := by decide +kernel
theorem dX9_delay_45 : decode cX9_delay 45 = .ok (.iload 5, 2) := by decide +kernel
theorem dX9_delay_47 : decode cX9_delay 47 = .ok (.iload_n 2, 1) := by decide +kernel
theorem dX9_delay_48 : decode cX9_delay 48 = .ok (.if_icmp .gt 58, 3) := by decide +kernel
theorem dX9_delay_51 : decode cX9_delay 51 = .ok (.iload 4, 2) := by decide +kernel
theorem dX9_delay_53 : decode cX9_delay 53 = .ok (.ifCond .ge 53, 3) := by decide +kernel
theorem dX9_delay_56 : decode cX9_delay 56 = .ok (.aload_n 0, 1) := by decide +kernel
theorem dX9_delay_57 : decode cX9_delay 57 = .ok (.iload_n 1, 1) := by decide +kernel
theorem dX9_delay_58 : decode cX9_delay 58 = .ok (.iconst 0, 1) := by decide +kernel
theorem dX9_delay_59 : decode cX9_delay 59 = .ok (.invokevirtual 55, 3) := by decide +kernel
theorem dX9_delay_62 : decode cX9_delay 62 = .ok (.iload 5, 2) := by decide +kernel
theorem dX9_delay_64 : decode cX9_delay 64 = .ok (.iadd, 1) := by decide +kernel
theorem dX9_delay_65 : decode cX9_delay 65 = .ok (.ldc 62, 2) := by decide +kernel
theorem dX9_delay_67 : decode cX9_delay 67 = .ok (.if_icmp .gt 33, 3) := by decide +kernel
theorem dX9_delay_70 : decode cX9_delay 70 = .ok (.aload_n 0, 1) := by decide +kernel
theorem dX9_delay_71 : decode cX9_delay 71 = .ok (.iload_n 1, 1) := by decide +kernel
theorem dX9_delay_72 : decode cX9_delay 72 = .ok (.iload 5, 2) := by decide +kernel
theorem dX9_delay_74 : decode cX9_delay 74 = .ok (.invokevirtual 77, 3) := by decide +kernel
theorem dX9_delay_77 : decode cX9_delay 77 = .ok (.istore 6, 2) := by decide +kernel
theorem dX9_delay_79 : decode cX9_delay 79 = .ok (.aload_n 0, 1) := by decide +kernel
theorem dX9_delay_80 : decode cX9_delay 80 = .ok (.iload_n 3, 1) := by decide +kernel
theorem dX9_delay_81 : decode cX9_delay 81 = .ok (.invokevirtual 127, 3) := by decide +kernel
theorem dX9_delay_84 : decode cX9_delay 84 = .ok (.ifCond .eq 8, 3) := by decide +kernel
theorem dX9_delay_87 : decode cX9_delay 87 = .ok (.iload 5, 2) := by decide +kernel
theorem dX9_delay_89 : decode cX9_delay 89 = .ok (.goto 5, 3) := by decide +kernel
theorem dX9_delay_92 : decode cX9_delay 92 = .ok (.iload 4, 2) := by decide +kernel
theorem dX9_delay_94 : decode cX9_delay 94 = .ok (.istore 4, 2) := by decide +kernel
theorem dX9_delay_96 : decode cX9_delay 96 = .ok (.aload_n 0, 1) := by decide +kernel
theorem dX9_delay_97 : decode cX9_delay 97 = .ok (.invokevirtual 121, 3) := by decide +kernel
theorem dX9_delay_100 : decode cX9_delay 100 = .ok (.iinc 5 1, 3) := by decide +kernel
theorem dX9_delay_103 : decode cX9_delay 103 = .ok (.goto (-58), 3) := by decide +kernel
theorem dX9_delay_106 : decode cX9_delay 106 = .ok (.iload 4, 2) := by decide +kernel
theorem dX9_delay_108 : decode cX9_delay 108 = .ok (.ireturn, 1) := by decide +kernel
theorem dX9_staysDry_0 : decode cX9_staysDry 0 = .ok (.aload_n 0, 1) := by decide +kernel
theorem dX9_staysDry_1 : decode cX9_staysDry 1 = .ok (.getfield 7, 3) := by decide +kernel
theorem dX9_staysDry_4 : decode cX9_staysDry 4 = .ok (.sipush 939, 3) := by decide +kernel
theorem dX9_staysDry_7 : decode cX9_staysDry 7 = .ok (.iaload, 1) := by decide +kernel
theorem dX9_staysDry_8 : decode cX9_staysDry 8 = .ok (.istore_n 2, 1) := by decide +kernel
theorem dX9_staysDry_9 : decode cX9_staysDry 9 = .ok (.iconst 0, 1) := by decide +kernel
theorem dX9_staysDry_10 : decode cX9_staysDry 10 = .ok (.istore_n 3, 1) := by decide +kernel
theorem dX9_staysDry_11 : decode cX9_staysDry 11 = .ok (.iload_n 3, 1) := by decide +kernel
theorem dX9_staysDry_12 : decode cX9_staysDry 12 = .ok (.iload_n 1, 1) := by decide +kernel
theorem dX9_staysDry_13 : decode cX9_staysDry 13 = .ok (.if_icmp .ge 25, 3) := by decide +kernel
theorem dX9_staysDry_16 : decode cX9_staysDry 16 = .ok (.aload_n 0, 1) := by decide +kernel
theorem dX9_staysDry_17 : decode cX9_staysDry 17 = .ok (.getfield 7, 3) := by decide +kernel
theorem dX9_staysDry_20 : decode cX9_staysDry 20 = .ok (.sipush 939, 3) := by decide +kernel
theorem dX9_staysDry_23 : decode cX9_staysDry 23 = .ok (.iaload, 1) := by decide +kernel
theorem dX9_staysDry_24 : decode cX9_staysDry 24 = .ok (.iload_n 2, 1) := by decide +kernel
theorem dX9_staysDry_25 : decode cX9_staysDry 25 = .ok (.if_icmp .ne 13, 3) := by decide +kernel
theorem dX9_staysDry_28 : decode cX9_staysDry 28 = .ok (.aload_n 0, 1) := by decide +kernel
theorem dX9_staysDry_29 : decode cX9_staysDry 29 = .ok (.invokevirtual 103, 3) := by decide +kernel
theorem dX9_staysDry_32 : decode cX9_staysDry 32 = .ok (.iinc 3 1, 3) := by decide +kernel
theorem dX9_staysDry_35 : decode cX9_staysDry 35 = .ok (.goto (-24), 3) := by decide +kernel
theorem dX9_staysDry_38 : decode cX9_staysDry 38 = .ok (.aload_n 0, 1) := by decide +kernel
theorem dX9_staysDry_39 : decode cX9_staysDry 39 = .ok (.getfield 7, 3) := by decide +kernel
theorem dX9_staysDry_42 : decode cX9_staysDry 42 = .ok (.sipush 939, 3) := by decide +kernel
theorem dX9_staysDry_45 : decode cX9_staysDry 45 = .ok (.iaload, 1) := by decide +kernel
theorem dX9_staysDry_46 : decode cX9_staysDry 46 = .ok (.iload_n 2, 1) := by decide +kernel
theorem dX9_staysDry_47 : decode cX9_staysDry 47 = .ok (.if_icmp .ne 7, 3) := by decide +kernel
theorem dX9_staysDry_50 : decode cX9_staysDry 50 = .ok (.iconst 1, 1) := by decide +kernel
theorem dX9_staysDry_51 : decode cX9_staysDry 51 = .ok (.goto 4, 3) := by decide +kernel
theorem dX9_staysDry_54 : decode cX9_staysDry 54 = .ok (.iconst 0, 1) := by decide +kernel
theorem dX9_staysDry_55 : decode cX9_staysDry 55 = .ok (.ireturn, 1) := by decide +kernel
theorem dX9_safeCut_0 : decode cX9_safeCut 0 = .ok (.iload_n 1, 1) := by decide +kernel
theorem dX9_safeCut_1 : decode cX9_safeCut 1 = .ok (.iconst 1, 1) := by decide +kernel
theorem dX9_safeCut_2 : decode cX9_safeCut 2 = .ok (.bipush 100, 2) := by decide +kernel
theorem dX9_safeCut_4 : decode cX9_safeCut 4 = .ok (.invokestatic 33, 3) := by decide +kernel
theorem dX9_safeCut_7 : decode cX9_safeCut 7 = .ok (.ifCond .ne 6, 3) := by decide +kernel
theorem dX9_safeCut_10 : decode cX9_safeCut 10 = .ok (.bipush (-2), 2) := by decide +kernel
theorem dX9_safeCut_12 : decode cX9_safeCut 12 = .ok (.ireturn, 1) := by decide +kernel
theorem dX9_safeCut_13 : decode cX9_safeCut 13 = .ok (.aload_n 0, 1) := by decide +kernel
theorem dX9_safeCut_14 : decode cX9_safeCut 14 = .ok (.invokevirtual 115, 3) := by decide +kernel
theorem dX9_safeCut_17 : decode cX9_safeCut 17 = .ok (.bipush (-6), 2) := by decide +kernel
theorem dX9_safeCut_19 : decode cX9_safeCut 19 = .ok (.istore_n 2, 1) := by decide +kernel
theorem dX9_safeCut_20 : decode cX9_safeCut 20 = .ok (.sipush 1000, 3) := by decide +kernel
theorem dX9_safeCut_23 : decode cX9_safeCut 23 = .ok (.istore_n 3, 1) := by decide +kernel
theorem dX9_safeCut_24 : decode cX9_safeCut 24 = .ok (.iload_n 3, 1) := by decide +kernel
theorem dX9_safeCut_25 : decode cX9_safeCut 25 = .ok (.ifCond .lt 40, 3) := by decide +kernel
theorem dX9_safeCut_28 : decode cX9_safeCut 28 = .ok (.iload_n 2, 1) := by decide +kernel
theorem dX9_safeCut_29 : decode cX9_safeCut 29 = .ok (.ifCond .ge 36, 3) := by decide +kernel
theorem dX9_safeCut_32 : decode cX9_safeCut 32 = .ok (.aload_n 0, 1) := by decide +kernel
theorem dX9_safeCut_33 : decode cX9_safeCut 33 = .ok (.getfield 7, 3) := by decide +kernel
theorem dX9_safeCut_36 : decode cX9_safeCut 36 = .ok (.sipush 930, 3) := by decide +kernel
theorem dX9_safeCut_39 : decode cX9_safeCut 39 = .ok (.iload_n 3, 1) := by decide +kernel
theorem dX9_safeCut_40 : decode cX9_safeCut 40 = .ok (.iastore, 1) := by decide +kernel
theorem dX9_safeCut_41 : decode cX9_safeCut 41 = .ok (.aload_n 0, 1) := by decide +kernel
theorem dX9_safeCut_42 : decode cX9_safeCut 42 = .ok (.iload_n 1, 1) := by decide +kernel
theorem dX9_safeCut_43 : decode cX9_safeCut 43 = .ok (.invokevirtual 130, 3) := by decide +kernel
theorem dX9_safeCut_46 : decode cX9_safeCut 46 = .ok (.ifCond .eq 7, 3) := by decide +kernel
theorem dX9_safeCut_49 : decode cX9_safeCut 49 = .ok (.iload_n 3, 1) := by decide +kernel
theorem dX9_safeCut_50 : decode cX9_safeCut 50 = .ok (.goto 4, 3) := by decide +kernel
theorem dX9_safeCut_53 : decode cX9_safeCut 53 = .ok (.iload_n 2, 1) := by decide +kernel
theorem dX9_safeCut_54 : decode cX9_safeCut 54 = .ok (.istore_n 2, 1) := by decide +kernel
theorem dX9_safeCut_55 : decode cX9_safeCut 55 = .ok (.aload_n 0, 1) := by decide +kernel
theorem dX9_safeCut_56 : decode cX9_safeCut 56 = .ok (.invokevirtual 121, 3) := by decide +kernel
theorem dX9_safeCut_59 : decode cX9_safeCut 59 = .ok (.iinc 3 (-1), 3) := by decide +kernel
theorem dX9_safeCut_62 : decode cX9_safeCut 62 = .ok (.goto (-38), 3) := by decide +kernel
theorem dX9_safeCut_65 : decode cX9_safeCut 65 = .ok (.iload_n 2, 1) := by decide +kernel
theorem dX9_safeCut_66 : decode cX9_safeCut 66 = .ok (.ireturn, 1) := by decide +kernel
theorem dX9_say_0 : decode cX9_say 0 = .ok (.iload_n 1, 1) := by decide +kernel
theorem dX9_say_1 : decode cX9_say 1 = .ok (.bipush 33, 2) := by decide +kernel
theorem dX9_say_3 : decode cX9_say 3 = .ok (.bipush 126, 2) := by decide +kernel
theorem dX9_say_5 : decode cX9_say 5 = .ok (.invokestatic 33, 3) := by decide +kernel
theorem dX9_say_8 : decode cX9_say 8 = .ok (.ifCond .ne 6, 3) := by decide +kernel
theorem dX9_say_11 : decode cX9_say 11 = .ok (.bipush (-2), 2) := by decide +kernel
theorem dX9_say_13 : decode cX9_say 13 = .ok (.ireturn, 1) := by decide +kernel
theorem dX9_say_14 : decode cX9_say 14 = .ok (.aload_n 0, 1) := by decide +kernel
theorem dX9_say_15 : decode cX9_say 15 = .ok (.getfield 111, 3) := by decide +kernel
theorem dX9_say_18 : decode cX9_say 18 = .ok (.bipush 80, 2) := by decide +kernel
theorem dX9_say_20 : decode cX9_say 20 = .ok (.if_icmp .ne 6, 3) := by decide +kernel
theorem dX9_say_23 : decode cX9_say 23 = .ok (.bipush (-4), 2) := by decide +kernel
theorem dX9_say_25 : decode cX9_say 25 = .ok (.ireturn, 1) := by decide +kernel
theorem dX9_say_26 : decode cX9_say 26 = .ok (.aload_n 0, 1) := by decide +kernel
theorem dX9_say_27 : decode cX9_say 27 = .ok (.getfield 23, 3) := by decide +kernel
theorem dX9_say_30 : decode cX9_say 30 = .ok (.aload_n 0, 1) := by decide +kernel
theorem dX9_say_31 : decode cX9_say 31 = .ok (.getfield 111, 3) := by decide +kernel
theorem dX9_say_34 : decode cX9_say 34 = .ok (.iload_n 1, 1) := by decide +kernel
theorem dX9_say_35 : decode cX9_say 35 = .ok (.iastore, 1) := by decide +kernel
theorem dX9_say_36 : decode cX9_say 36 = .ok (.aload_n 0, 1) := by decide +kernel
theorem dX9_say_37 : decode cX9_say 37 = .ok (.dup, 1) := by decide +kernel
theorem dX9_say_38 : decode cX9_say 38 = .ok (.getfield 111, 3) := by decide +kernel
theorem dX9_say_41 : decode cX9_say 41 = .ok (.iconst 1, 1) := by decide +kernel
theorem dX9_say_42 : decode cX9_say 42 = .ok (.iadd, 1) := by decide +kernel
theorem dX9_say_43 : decode cX9_say 43 = .ok (.putfield 111, 3) := by decide +kernel
theorem dX9_say_46 : decode cX9_say 46 = .ok (.aload_n 0, 1) := by decide +kernel
theorem dX9_say_47 : decode cX9_say 47 = .ok (.getfield 111, 3) := by decide +kernel
theorem dX9_say_50 : decode cX9_say 50 = .ok (.ireturn, 1) := by decide +kernel
theorem dX9_wipe_0 : decode cX9_wipe 0 = .ok (.aload_n 0, 1) := by decide +kernel
theorem dX9_wipe_1 : decode cX9_wipe 1 = .ok (.getfield 111, 3) := by decide +kernel
theorem dX9_wipe_4 : decode cX9_wipe 4 = .ok (.istore_n 1, 1) := by decide +kernel
theorem dX9_wipe_5 : decode cX9_wipe 5 = .ok (.aload_n 0, 1) := by decide +kernel
theorem dX9_wipe_6 : decode cX9_wipe 6 = .ok (.iconst 0, 1) := by decide +kernel
theorem dX9_wipe_7 : decode cX9_wipe 7 = .ok (.putfield 111, 3) := by decide +kernel
theorem dX9_wipe_10 : decode cX9_wipe 10 = .ok (.iload_n 1, 1) := by decide +kernel
theorem dX9_wipe_11 : decode cX9_wipe 11 = .ok (.ireturn, 1) := by decide +kernel
theorem dX9_next_0 : decode cX9_next 0 = .ok (.aload_n 0, 1) := by decide +kernel
theorem dX9_next_1 : decode cX9_next 1 = .ok (.getfield 133, 3) := by decide +kernel
theorem dX9_next_4 : decode cX9_next 4 = .ok (.aload_n 0, 1) := by decide +kernel
theorem dX9_next_5 : decode cX9_next 5 = .ok (.getfield 111, 3) := by decide +kernel
theorem dX9_next_8 : decode cX9_next 8 = .ok (.if_icmp .ge 15, 3) := by decide +kernel
theorem dX9_next_11 : decode cX9_next 11 = .ok (.aload_n 0, 1) := by decide +kernel
theorem dX9_next_12 : decode cX9_next 12 = .ok (.getfield 23, 3) := by decide +kernel
theorem dX9_next_15 : decode cX9_next 15 = .ok (.aload_n 0, 1) := by decide +kernel
theorem dX9_next_16 : decode cX9_next 16 = .ok (.getfield 133, 3) := by decide +kernel
theorem dX9_next_19 : decode cX9_next 19 = .ok (.iaload, 1) := by decide +kernel
theorem dX9_next_20 : decode cX9_next 20 = .ok (.goto 4, 3) := by decide +kernel
theorem dX9_next_23 : decode cX9_next 23 = .ok (.iconst 0, 1) := by decide +kernel
theorem dX9_next_24 : decode cX9_next 24 = .ok (.ireturn, 1) := by decide +kernel
theorem dX9_takeNumber_0 : decode cX9_takeNumber 0 = .ok (.aload_n 0, 1) := by decide +kernel
theorem dX9_takeNumber_1 : decode cX9_takeNumber 1 = .ok (.aload_n 0, 1) := by decide +kernel
theorem dX9_takeNumber_2 : decode cX9_takeNumber 2 = .ok (.getfield 136, 3) := by decide +kernel
theorem dX9_takeNumber_5 : decode cX9_takeNumber 5 = .ok (.ifCond .ne 17, 3) := by decide +kernel
theorem dX9_takeNumber_8 : decode cX9_takeNumber 8 = .ok (.aload_n 0, 1) := by decide +kernel
theorem dX9_takeNumber_9 : decode cX9_takeNumber 9 = .ok (.invokevirtual 140, 3) := by decide +kernel
theorem dX9_takeNumber_12 : decode cX9_takeNumber 12 = .ok (.bipush 48, 2) := by decide +kernel
theorem dX9_takeNumber_14 : decode cX9_takeNumber 14 = .ok (.bipush 57, 2) := by decide +kernel
theorem dX9_takeNumber_16 : decode cX9_takeNumber 16 = .ok (.invokestatic 33, 3) := by decide +kernel
theorem dX9_takeNumber_19 : decode cX9_takeNumber 19 = .ok (.ifCond .ne 7, 3) := by decide +kernel
theorem dX9_takeNumber_22 : decode cX9_takeNumber 22 = .ok (.iconst 1, 1) := by decide +kernel
theorem dX9_takeNumber_23 : decode cX9_takeNumber 23 = .ok (.goto 4, 3) := by decide +kernel
theorem dX9_takeNumber_26 : decode cX9_takeNumber 26 = .ok (.iconst 0, 1) := by decide +kernel
theorem dX9_takeNumber_27 : decode cX9_takeNumber 27 = .ok (.putfield 136, 3) := by decide +kernel
theorem dX9_takeNumber_30 : decode cX9_takeNumber 30 = .ok (.iconst 0, 1) := by decide +kernel
theorem dX9_takeNumber_31 : decode cX9_takeNumber 31 = .ok (.istore_n 2, 1) := by decide +kernel
theorem dX9_takeNumber_32 : decode cX9_takeNumber 32 = .ok (.aload_n 0, 1) := by decide +kernel
theorem dX9_takeNumber_33 : decode cX9_takeNumber 33 = .ok (.getfield 136, 3) := by decide +kernel
theorem dX9_takeNumber_36 : decode cX9_takeNumber 36 = .ok (.ifCond .ne 7, 3) := by decide +kernel
theorem dX9_takeNumber_39 : decode cX9_takeNumber 39 = .ok (.iconst 1, 1) := by decide +kernel
theorem dX9_takeNumber_40 : decode cX9_takeNumber 40 = .ok (.goto 4, 3) := by decide +kernel
theorem dX9_takeNumber_43 : decode cX9_takeNumber 43 = .ok (.iconst 0, 1) := by decide +kernel
theorem dX9_takeNumber_44 : decode cX9_takeNumber 44 = .ok (.istore_n 3, 1) := by decide +kernel
theorem dX9_takeNumber_45 : decode cX9_takeNumber 45 = .ok (.iload_n 3, 1) := by decide +kernel
theorem dX9_takeNumber_46 : decode cX9_takeNumber 46 = .ok (.ifCond .eq 69, 3) := by decide +kernel
theorem dX9_takeNumber_49 : decode cX9_takeNumber 49 = .ok (.bipush 10, 2) := by decide +kernel
theorem dX9_takeNumber_51 : decode cX9_takeNumber 51 = .ok (.iload_n 2, 1) := by decide +kernel
theorem dX9_takeNumber_52 : decode cX9_takeNumber 52 = .ok (.imul, 1) := by decide +kernel
theorem dX9_takeNumber_53 : decode cX9_takeNumber 53 = .ok (.aload_n 0, 1) := by decide +kernel
theorem dX9_takeNumber_54 : decode cX9_takeNumber 54 = .ok (.invokevirtual 140, 3) := by decide +kernel
theorem dX9_takeNumber_57 : decode cX9_takeNumber 57 = .ok (.iadd, 1) := by decide +kernel
theorem dX9_takeNumber_58 : decode cX9_takeNumber 58 = .ok (.bipush 48, 2) := by decide +kernel
theorem dX9_takeNumber_60 : decode cX9_takeNumber 60 = .ok (.isub, 1) := by decide +kernel
theorem dX9_takeNumber_61 : decode cX9_takeNumber 61 = .ok (.istore_n 2, 1) := by decide +kernel
theorem dX9_takeNumber_62 : decode cX9_takeNumber 62 = .ok (.aload_n 0, 1) := by decide +kernel
theorem dX9_takeNumber_63 : decode cX9_takeNumber 63 = .ok (.dup, 1) := by decide +kernel
theorem dX9_takeNumber_64 : decode cX9_takeNumber 64 = .ok (.getfield 133, 3) := by decide +kernel
theorem dX9_takeNumber_67 : decode cX9_takeNumber 67 = .ok (.iconst 1, 1) := by decide +kernel
theorem dX9_takeNumber_68 : decode cX9_takeNumber 68 = .ok (.iadd, 1) := by decide +kernel
theorem dX9_takeNumber_69 : decode cX9_takeNumber 69 = .ok (.putfield 133, 3) := by decide +kernel
theorem dX9_takeNumber_72 : decode cX9_takeNumber 72 = .ok (.iload_n 2, 1) := by decide +kernel
theorem dX9_takeNumber_73 : decode cX9_takeNumber 73 = .ok (.ifCond .le 37, 3) := by decide +kernel
theorem dX9_takeNumber_76 : decode cX9_takeNumber 76 = .ok (.aload_n 0, 1) := by decide +kernel
theorem dX9_takeNumber_77 : decode cX9_takeNumber 77 = .ok (.invokevirtual 140, 3) := by decide +kernel
theorem dX9_takeNumber_80 : decode cX9_takeNumber 80 = .ok (.bipush 48, 2) := by decide +kernel
theorem dX9_takeNumber_82 : decode cX9_takeNumber 82 = .ok (.bipush 57, 2) := by decide +kernel
theorem dX9_takeNumber_84 : decode cX9_takeNumber 84 = .ok (.invokestatic 33, 3) := by decide +kernel
theorem dX9_takeNumber_87 : decode cX9_takeNumber 87 = .ok (.ifCond .eq 23, 3) := by decide +kernel
theorem dX9_takeNumber_90 : decode cX9_takeNumber 90 = .ok (.bipush 10, 2) := by decide +kernel
theorem dX9_takeNumber_92 : decode cX9_takeNumber 92 = .ok (.iload_n 2, 1) := by decide +kernel
theorem dX9_takeNumber_93 : decode cX9_takeNumber 93 = .ok (.imul, 1) := by decide +kernel
theorem dX9_takeNumber_94 : decode cX9_takeNumber 94 = .ok (.aload_n 0, 1) := by decide +kernel
theorem dX9_takeNumber_95 : decode cX9_takeNumber 95 = .ok (.invokevirtual 140, 3) := by decide +kernel
theorem dX9_takeNumber_98 : decode cX9_takeNumber 98 = .ok (.iadd, 1) := by decide +kernel
theorem dX9_takeNumber_99 : decode cX9_takeNumber 99 = .ok (.bipush 48, 2) := by decide +kernel
theorem dX9_takeNumber_101 : decode cX9_takeNumber 101 = .ok (.isub, 1) := by decide +kernel
theorem dX9_takeNumber_102 : decode cX9_takeNumber 102 = .ok (.iload_n 1, 1) := by decide +kernel
theorem dX9_takeNumber_103 : decode cX9_takeNumber 103 = .ok (.if_icmp .gt 7, 3) := by decide +kernel
theorem dX9_takeNumber_106 : decode cX9_takeNumber 106 = .ok (.iconst 1, 1) := by decide +kernel
theorem dX9_takeNumber_107 : decode cX9_takeNumber 107 = .ok (.goto 4, 3) := by decide +kernel
theorem dX9_takeNumber_110 : decode cX9_takeNumber 110 = .ok (.iconst 0, 1) := by decide +kernel
theorem dX9_takeNumber_111 : decode cX9_takeNumber 111 = .ok (.istore_n 3, 1) := by decide +kernel
theorem dX9_takeNumber_112 : decode cX9_takeNumber 112 = .ok (.goto (-67), 3) := by decide +kernel
theorem dX9_takeNumber_115 : decode cX9_takeNumber 115 = .ok (.iload_n 2, 1) := by decide +kernel
theorem dX9_takeNumber_116 : decode cX9_takeNumber 116 = .ok (.ireturn, 1) := by decide +kernel
theorem dX9_need_0 : decode cX9_need 0 = .ok (.aload_n 0, 1) := by decide +kernel
theorem dX9_need_1 : decode cX9_need 1 = .ok (.aload_n 0, 1) := by decide +kernel
theorem dX9_need_2 : decode cX9_need 2 = .ok (.getfield 136, 3) := by decide +kernel
theorem dX9_need_5 : decode cX9_need 5 = .ok (.ifCond .ne 11, 3) := by decide +kernel
theorem dX9_need_8 : decode cX9_need 8 = .ok (.aload_n 0, 1) := by decide +kernel
theorem dX9_need_9 : decode cX9_need 9 = .ok (.invokevirtual 140, 3) := by decide +kernel
theorem dX9_need_12 : decode cX9_need 12 = .ok (.iload_n 1, 1) := by decide +kernel
theorem dX9_need_13 : decode cX9_need 13 = .ok (.if_icmp .eq 7, 3) := by decide +kernel
theorem dX9_need_16 : decode cX9_need 16 = .ok (.iconst 1, 1) := by decide +kernel
theorem dX9_need_17 : decode cX9_need 17 = .ok (.goto 4, 3) := by decide +kernel
theorem dX9_need_20 : decode cX9_need 20 = .ok (.iconst 0, 1) := by decide +kernel
theorem dX9_need_21 : decode cX9_need 21 = .ok (.putfield 136, 3) := by decide +kernel
theorem dX9_need_24 : decode cX9_need 24 = .ok (.aload_n 0, 1) := by decide +kernel
theorem dX9_need_25 : decode cX9_need 25 = .ok (.dup, 1) := by decide +kernel
theorem dX9_need_26 : decode cX9_need 26 = .ok (.getfield 133, 3) := by decide +kernel
theorem dX9_need_29 : decode cX9_need 29 = .ok (.aload_n 0, 1) := by decide +kernel
theorem dX9_need_30 : decode cX9_need 30 = .ok (.getfield 136, 3) := by decide +kernel
theorem dX9_need_33 : decode cX9_need 33 = .ok (.ifCond .eq 7, 3) := by decide +kernel
theorem dX9_need_36 : decode cX9_need 36 = .ok (.iconst 0, 1) := by decide +kernel
theorem dX9_need_37 : decode cX9_need 37 = .ok (.goto 4, 3) := by decide +kernel
theorem dX9_need_40 : decode cX9_need 40 = .ok (.iconst 1, 1) := by decide +kernel
theorem dX9_need_41 : decode cX9_need 41 = .ok (.iadd, 1) := by decide +kernel
theorem dX9_need_42 : decode cX9_need 42 = .ok (.putfield 133, 3) := by decide +kernel
theorem dX9_need_45 : decode cX9_need 45 = .ok (.return_, 1) := by decide +kernel
theorem dX9_takeSet_0 : decode cX9_takeSet 0 = .ok (.iconst 0, 1) := by decide +kernel
theorem dX9_takeSet_1 : decode cX9_takeSet 1 = .ok (.istore_n 1, 1) := by decide +kernel
theorem dX9_takeSet_2 : decode cX9_takeSet 2 = .ok (.aload_n 0, 1) := by decide +kernel
theorem dX9_takeSet_3 : decode cX9_takeSet 3 = .ok (.aload_n 0, 1) := by decide +kernel
theorem dX9_takeSet_4 : decode cX9_takeSet 4 = .ok (.getfield 136, 3) := by decide +kernel
theorem dX9_takeSet_7 : decode cX9_takeSet 7 = .ok (.ifCond .ne 17, 3) := by decide +kernel
theorem dX9_takeSet_10 : decode cX9_takeSet 10 = .ok (.aload_n 0, 1) := by decide +kernel
theorem dX9_takeSet_11 : decode cX9_takeSet 11 = .ok (.invokevirtual 140, 3) := by decide +kernel
theorem dX9_takeSet_14 : decode cX9_takeSet 14 = .ok (.bipush 97, 2) := by decide +kernel
theorem dX9_takeSet_16 : decode cX9_takeSet 16 = .ok (.bipush 108, 2) := by decide +kernel
theorem dX9_takeSet_18 : decode cX9_takeSet 18 = .ok (.invokestatic 33, 3) := by decide +kernel
theorem dX9_takeSet_21 : decode cX9_takeSet 21 = .ok (.ifCond .ne 7, 3) := by decide +kernel
theorem dX9_takeSet_24 : decode cX9_takeSet 24 = .ok (.iconst 1, 1) := by decide +kernel
theorem dX9_takeSet_25 : decode cX9_takeSet 25 = .ok (.goto 4, 3) := by decide +kernel
theorem dX9_takeSet_28 : decode cX9_takeSet 28 = .ok (.iconst 0, 1) := by decide +kernel
theorem dX9_takeSet_29 : decode cX9_takeSet 29 = .ok (.putfield 136, 3) := by decide +kernel
theorem dX9_takeSet_32 : decode cX9_takeSet 32 = .ok (.aload_n 0, 1) := by decide +kernel
theorem dX9_takeSet_33 : decode cX9_takeSet 33 = .ok (.getfield 136, 3) := by decide +kernel
theorem dX9_takeSet_36 : decode cX9_takeSet 36 = .ok (.ifCond .ne 55, 3) := by decide +kernel
theorem dX9_takeSet_39 : decode cX9_takeSet 39 = .ok (.aload_n 0, 1) := by decide +kernel
theorem dX9_takeSet_40 : decode cX9_takeSet 40 = .ok (.invokevirtual 140, 3) := by decide +kernel
theorem dX9_takeSet_43 : decode cX9_takeSet 43 = .ok (.bipush 97, 2) := by decide +kernel
theorem dX9_takeSet_45 : decode cX9_takeSet 45 = .ok (.bipush 108, 2) := by decide +kernel
theorem dX9_takeSet_47 : decode cX9_takeSet 47 = .ok (.invokestatic 33, 3) := by decide +kernel
theorem dX9_takeSet_50 : decode cX9_takeSet 50 = .ok (.ifCond .eq 41, 3) := by decide +kernel
theorem dX9_takeSet_53 : decode cX9_takeSet 53 = .ok (.iconst 1, 1) := by decide +kernel
theorem dX9_takeSet_54 : decode cX9_takeSet 54 = .ok (.aload_n 0, 1) := by decide +kernel
theorem dX9_takeSet_55 : decode cX9_takeSet 55 = .ok (.invokevirtual 140, 3) := by decide +kernel
theorem dX9_takeSet_58 : decode cX9_takeSet 58 = .ok (.bipush 97, 2) := by decide +kernel
theorem dX9_takeSet_60 : decode cX9_takeSet 60 = .ok (.isub, 1) := by decide +kernel
theorem dX9_takeSet_61 : decode cX9_takeSet 61 = .ok (.ishl, 1) := by decide +kernel
theorem dX9_takeSet_62 : decode cX9_takeSet 62 = .ok (.iload_n 1, 1) := by decide +kernel
theorem dX9_takeSet_63 : decode cX9_takeSet 63 = .ok (.if_icmp .le 28, 3) := by decide +kernel
theorem dX9_takeSet_66 : decode cX9_takeSet 66 = .ok (.iload_n 1, 1) := by decide +kernel
theorem dX9_takeSet_67 : decode cX9_takeSet 67 = .ok (.iconst 1, 1) := by decide +kernel
theorem dX9_takeSet_68 : decode cX9_takeSet 68 = .ok (.aload_n 0, 1) := by decide +kernel
theorem dX9_takeSet_69 : decode cX9_takeSet 69 = .ok (.invokevirtual 140, 3) := by decide +kernel
theorem dX9_takeSet_72 : decode cX9_takeSet 72 = .ok (.bipush 97, 2) := by decide +kernel
theorem dX9_takeSet_74 : decode cX9_takeSet 74 = .ok (.isub, 1) := by decide +kernel
theorem dX9_takeSet_75 : decode cX9_takeSet 75 = .ok (.ishl, 1) := by decide +kernel
theorem dX9_takeSet_76 : decode cX9_takeSet 76 = .ok (.ior, 1) := by decide +kernel
theorem dX9_takeSet_77 : decode cX9_takeSet 77 = .ok (.istore_n 1, 1) := by decide +kernel
theorem dX9_takeSet_78 : decode cX9_takeSet 78 = .ok (.aload_n 0, 1) := by decide +kernel
theorem dX9_takeSet_79 : decode cX9_takeSet 79 = .ok (.dup, 1) := by decide +kernel
theorem dX9_takeSet_80 : decode cX9_takeSet 80 = .ok (.getfield 133, 3) := by decide +kernel
theorem dX9_takeSet_83 : decode cX9_takeSet 83 = .ok (.iconst 1, 1) := by decide +kernel
theorem dX9_takeSet_84 : decode cX9_takeSet 84 = .ok (.iadd, 1) := by decide +kernel
theorem dX9_takeSet_85 : decode cX9_takeSet 85 = .ok (.putfield 133, 3) := by decide +kernel
theorem dX9_takeSet_88 : decode cX9_takeSet 88 = .ok (.goto (-56), 3) := by decide +kernel
theorem dX9_takeSet_91 : decode cX9_takeSet 91 = .ok (.iload_n 1, 1) := by decide +kernel
theorem dX9_takeSet_92 : decode cX9_takeSet 92 = .ok (.ireturn, 1) := by decide +kernel
theorem dX9_takeCue_0 : decode cX9_takeCue 0 = .ok (.iconst 3, 1) := by decide +kernel
theorem dX9_takeCue_1 : decode cX9_takeCue 1 = .ok (.aload_n 0, 1) := by decide +kernel
theorem dX9_takeCue_2 : decode cX9_takeCue 2 = .ok (.getfield 143, 3) := by decide +kernel
theorem dX9_takeCue_5 : decode cX9_takeCue 5 = .ok (.imul, 1) := by decide +kernel
theorem dX9_takeCue_6 : decode cX9_takeCue 6 = .ok (.istore_n 1, 1) := by decide +kernel
theorem dX9_takeCue_7 : decode cX9_takeCue 7 = .ok (.aload_n 0, 1) := by decide +kernel
theorem dX9_takeCue_8 : decode cX9_takeCue 8 = .ok (.getfield 26, 3) := by decide +kernel
theorem dX9_takeCue_11 : decode cX9_takeCue 11 = .ok (.iload_n 1, 1) := by decide +kernel
theorem dX9_takeCue_12 : decode cX9_takeCue 12 = .ok (.aload_n 0, 1) := by decide +kernel
theorem dX9_takeCue_13 : decode cX9_takeCue 13 = .ok (.sipush 9999, 3) := by decide +kernel
theorem dX9_takeCue_16 : decode cX9_takeCue 16 = .ok (.invokevirtual 146, 3) := by decide +kernel
theorem dX9_takeCue_19 : decode cX9_takeCue 19 = .ok (.iastore, 1) := by decide +kernel
theorem dX9_takeCue_20 : decode cX9_takeCue 20 = .ok (.aload_n 0, 1) := by decide +kernel
theorem dX9_takeCue_21 : decode cX9_takeCue 21 = .ok (.bipush 58, 2) := by decide +kernel
theorem dX9_takeCue_23 : decode cX9_takeCue 23 = .ok (.invokevirtual 149, 3) := by decide +kernel
theorem dX9_takeCue_26 : decode cX9_takeCue 26 = .ok (.aload_n 0, 1) := by decide +kernel
theorem dX9_takeCue_27 : decode cX9_takeCue 27 = .ok (.getfield 26, 3) := by decide +kernel
theorem dX9_takeCue_30 : decode cX9_takeCue 30 = .ok (.iload_n 1, 1) := by decide +kernel
theorem dX9_takeCue_31 : decode cX9_takeCue 31 = .ok (.iconst 1, 1) := by decide +kernel
theorem dX9_takeCue_32 : decode cX9_takeCue 32 = .ok (.iadd, 1) := by decide +kernel
theorem dX9_takeCue_33 : decode cX9_takeCue 33 = .ok (.aload_n 0, 1) := by decide +kernel
theorem dX9_takeCue_34 : decode cX9_takeCue 34 = .ok (.invokevirtual 152, 3) := by decide +kernel
theorem dX9_takeCue_37 : decode cX9_takeCue 37 = .ok (.iastore, 1) := by decide +kernel
theorem dX9_takeCue_38 : decode cX9_takeCue 38 = .ok (.aload_n 0, 1) := by decide +kernel
theorem dX9_takeCue_39 : decode cX9_takeCue 39 = .ok (.bipush 61, 2) := by decide +kernel
theorem dX9_takeCue_41 : decode cX9_takeCue 41 = .ok (.invokevirtual 149, 3) := by decide +kernel
theorem dX9_takeCue_44 : decode cX9_takeCue 44 = .ok (.aload_n 0, 1) := by decide +kernel
theorem dX9_takeCue_45 : decode cX9_takeCue 45 = .ok (.getfield 26, 3) := by decide +kernel
theorem dX9_takeCue_48 : decode cX9_takeCue 48 = .ok (.iload_n 1, 1) := by decide +kernel
theorem dX9_takeCue_49 : decode cX9_takeCue 49 = .ok (.iconst 2, 1) := by decide +kernel
theorem dX9_takeCue_50 : decode cX9_takeCue 50 = .ok (.iadd, 1) := by decide +kernel
theorem dX9_takeCue_51 : decode cX9_takeCue 51 = .ok (.aload_n 0, 1) := by decide +kernel
theorem dX9_takeCue_52 : decode cX9_takeCue 52 = .ok (.sipush 1000, 3) := by decide +kernel
theorem dX9_takeCue_55 : decode cX9_takeCue 55 = .ok (.invokevirtual 146, 3) := by decide +kernel
theorem dX9_takeCue_58 : decode cX9_takeCue 58 = .ok (.iastore, 1) := by decide +kernel
theorem dX9_takeCue_59 : decode cX9_takeCue 59 = .ok (.aload_n 0, 1) := by decide +kernel
theorem dX9_takeCue_60 : decode cX9_takeCue 60 = .ok (.dup, 1) := by decide +kernel
theorem dX9_takeCue_61 : decode cX9_takeCue 61 = .ok (.getfield 143, 3) := by decide +kernel
theorem dX9_takeCue_64 : decode cX9_takeCue 64 = .ok (.iconst 1, 1) := by decide +kernel
theorem dX9_takeCue_65 : decode cX9_takeCue 65 = .ok (.iadd, 1) := by decide +kernel
theorem dX9_takeCue_66 : decode cX9_takeCue 66 = .ok (.putfield 143, 3) := by decide +kernel
theorem dX9_takeCue_69 : decode cX9_takeCue 69 = .ok (.return_, 1) := by decide +kernel
theorem dX9_fault_0 : decode cX9_fault 0 = .ok (.aload_n 0, 1) := by decide +kernel
theorem dX9_fault_1 : decode cX9_fault 1 = .ok (.iconst 0, 1) := by decide +kernel
theorem dX9_fault_2 : decode cX9_fault 2 = .ok (.putfield 133, 3) := by decide +kernel
theorem dX9_fault_5 : decode cX9_fault 5 = .ok (.aload_n 0, 1) := by decide +kernel
theorem dX9_fault_6 : decode cX9_fault 6 = .ok (.iconst 0, 1) := by decide +kernel
theorem dX9_fault_7 : decode cX9_fault 7 = .ok (.putfield 136, 3) := by decide +kernel
theorem dX9_fault_10 : decode cX9_fault 10 = .ok (.aload_n 0, 1) := by decide +kernel
theorem dX9_fault_11 : decode cX9_fault 11 = .ok (.iconst 0, 1) := by decide +kernel
theorem dX9_fault_12 : decode cX9_fault 12 = .ok (.putfield 143, 3) := by decide +kernel
theorem dX9_fault_15 : decode cX9_fault 15 = .ok (.aload_n 0, 1) := by decide +kernel
theorem dX9_fault_16 : decode cX9_fault 16 = .ok (.invokevirtual 155, 3) := by decide +kernel
theorem dX9_fault_19 : decode cX9_fault 19 = .ok (.aload_n 0, 1) := by decide +kernel
theorem dX9_fault_20 : decode cX9_fault 20 = .ok (.getfield 136, 3) := by decide +kernel
theorem dX9_fault_23 : decode cX9_fault 23 = .ok (.ifCond .ne 29, 3) := by decide +kernel
theorem dX9_fault_26 : decode cX9_fault 26 = .ok (.aload_n 0, 1) := by decide +kernel
theorem dX9_fault_27 : decode cX9_fault 27 = .ok (.invokevirtual 140, 3) := by decide +kernel
theorem dX9_fault_30 : decode cX9_fault 30 = .ok (.bipush 44, 2) := by decide +kernel
theorem dX9_fault_32 : decode cX9_fault 32 = .ok (.if_icmp .ne 20, 3) := by decide +kernel
theorem dX9_fault_35 : decode cX9_fault 35 = .ok (.aload_n 0, 1) := by decide +kernel
theorem dX9_fault_36 : decode cX9_fault 36 = .ok (.dup, 1) := by decide +kernel
theorem dX9_fault_37 : decode cX9_fault 37 = .ok (.getfield 133, 3) := by decide +kernel
theorem dX9_fault_40 : decode cX9_fault 40 = .ok (.iconst 1, 1) := by decide +kernel
theorem dX9_fault_41 : decode cX9_fault 41 = .ok (.iadd, 1) := by decide +kernel
theorem dX9_fault_42 : decode cX9_fault 42 = .ok (.putfield 133, 3) := by decide +kernel
theorem dX9_fault_45 : decode cX9_fault 45 = .ok (.aload_n 0, 1) := by decide +kernel
theorem dX9_fault_46 : decode cX9_fault 46 = .ok (.invokevirtual 155, 3) := by decide +kernel
theorem dX9_fault_49 : decode cX9_fault 49 = .ok (.goto (-30), 3) := by decide +kernel
theorem dX9_fault_52 : decode cX9_fault 52 = .ok (.aload_n 0, 1) := by decide +kernel
theorem dX9_fault_53 : decode cX9_fault 53 = .ok (.getfield 136, 3) := by decide +kernel
theorem dX9_fault_56 : decode cX9_fault 56 = .ok (.ifCond .ne 14, 3) := by decide +kernel
theorem dX9_fault_59 : decode cX9_fault 59 = .ok (.aload_n 0, 1) := by decide +kernel
theorem dX9_fault_60 : decode cX9_fault 60 = .ok (.getfield 133, 3) := by decide +kernel
theorem dX9_fault_63 : decode cX9_fault 63 = .ok (.aload_n 0, 1) := by decide +kernel
theorem dX9_fault_64 : decode cX9_fault 64 = .ok (.getfield 111, 3) := by decide +kernel
theorem dX9_fault_67 : decode cX9_fault 67 = .ok (.if_icmp .ge 10, 3) := by decide +kernel
theorem dX9_fault_70 : decode cX9_fault 70 = .ok (.aload_n 0, 1) := by decide +kernel
theorem dX9_fault_71 : decode cX9_fault 71 = .ok (.getfield 133, 3) := by decide +kernel
theorem dX9_fault_74 : decode cX9_fault 74 = .ok (.goto 5, 3) := by decide +kernel
theorem dX9_fault_77 : decode cX9_fault 77 = .ok (.bipush (-6), 2) := by decide +kernel
theorem dX9_fault_79 : decode cX9_fault 79 = .ok (.ireturn, 1) := by decide +kernel
theorem dX9_read_0 : decode cX9_read 0 = .ok (.aload_n 0, 1) := by decide +kernel
theorem dX9_read_1 : decode cX9_read 1 = .ok (.invokevirtual 158, 3) := by decide +kernel
theorem dX9_read_4 : decode cX9_read 4 = .ok (.bipush (-6), 2) := by decide +kernel
theorem dX9_read_6 : decode cX9_read 6 = .ok (.if_icmp .eq 6, 3) := by decide +kernel
theorem dX9_read_9 : decode cX9_read 9 = .ok (.bipush (-3), 2) := by decide +kernel
theorem dX9_read_11 : decode cX9_read 11 = .ok (.ireturn, 1) := by decide +kernel
theorem dX9_read_12 : decode cX9_read 12 = .ok (.iload_n 1, 1) := by decide +kernel
theorem dX9_read_13 : decode cX9_read 13 = .ok (.iconst 0, 1) := by decide +kernel
theorem dX9_read_14 : decode cX9_read 14 = .ok (.ldc 161, 2) := by decide +kernel
theorem dX9_read_16 : decode cX9_read 16 = .ok (.invokestatic 33, 3) := by decide +kernel
theorem dX9_read_19 : decode cX9_read 19 = .ok (.ifCond .ne 6, 3) := by decide +kernel
theorem dX9_read_22 : decode cX9_read 22 = .ok (.bipush (-2), 2) := by decide +kernel
theorem dX9_read_24 : decode cX9_read 24 = .ok (.ireturn, 1) := by decide +kernel
theorem dX9_read_25 : decode cX9_read 25 = .ok (.aload_n 0, 1) := by decide +kernel
theorem dX9_read_26 : decode cX9_read 26 = .ok (.getfield 7, 3) := by decide +kernel
theorem dX9_read_29 : decode cX9_read 29 = .ok (.sipush 940, 3) := by decide +kernel
theorem dX9_read_32 : decode cX9_read 32 = .ok (.iaload, 1) := by decide +kernel
theorem dX9_read_33 : decode cX9_read 33 = .ok (.aload_n 0, 1) := by decide +kernel
theorem dX9_read_34 : decode cX9_read 34 = .ok (.getfield 143, 3) := by decide +kernel
theorem dX9_read_37 : decode cX9_read 37 = .ok (.iadd, 1) := by decide +kernel
theorem dX9_read_38 : decode cX9_read 38 = .ok (.bipush 60, 2) := by decide +kernel
theorem dX9_read_40 : decode cX9_read 40 = .ok (.if_icmp .le 6, 3) := by decide +kernel
theorem dX9_read_43 : decode cX9_read 43 = .ok (.bipush (-4), 2) := by decide +kernel
theorem dX9_read_45 : decode cX9_read 45 = .ok (.ireturn, 1) := by decide +kernel
theorem dX9_read_46 : decode cX9_read 46 = .ok (.iconst 0, 1) := by decide +kernel
theorem dX9_read_47 : decode cX9_read 47 = .ok (.istore_n 2, 1) := by decide +kernel
theorem dX9_read_48 : decode cX9_read 48 = .ok (.iload_n 2, 1) := by decide +kernel
theorem dX9_read_49 : decode cX9_read 49 = .ok (.aload_n 0, 1) := by decide +kernel
theorem dX9_read_50 : decode cX9_read 50 = .ok (.getfield 143, 3) := by decide +kernel
theorem dX9_read_53 : decode cX9_read 53 = .ok (.if_icmp .ge 44, 3) := by decide +kernel
theorem dX9_read_56 : decode cX9_read 56 = .ok (.aload_n 0, 1) := by decide +kernel
theorem dX9_read_57 : decode cX9_read 57 = .ok (.aload_n 0, 1) := by decide +kernel
theorem dX9_read_58 : decode cX9_read 58 = .ok (.getfield 26, 3) := by decide +kernel
theorem dX9_read_61 : decode cX9_read 61 = .ok (.iconst 3, 1) := by decide +kernel
theorem dX9_read_62 : decode cX9_read 62 = .ok (.iload_n 2, 1) := by decide +kernel
theorem dX9_read_63 : decode cX9_read 63 = .ok (.imul, 1) := by decide +kernel
theorem dX9_read_64 : decode cX9_read 64 = .ok (.iaload, 1) := by decide +kernel
theorem dX9_read_65 : decode cX9_read 65 = .ok (.iload_n 1, 1) := by decide +kernel
theorem dX9_read_66 : decode cX9_read 66 = .ok (.iadd, 1) := by decide +kernel
theorem dX9_read_67 : decode cX9_read 67 = .ok (.aload_n 0, 1) := by decide +kernel
theorem dX9_read_68 : decode cX9_read 68 = .ok (.getfield 26, 3) := by decide +kernel
theorem dX9_read_71 : decode cX9_read 71 = .ok (.iconst 3, 1) := by decide +kernel
theorem dX9_read_72 : decode cX9_read 72 = .ok (.iload_n 2, 1) := by decide +kernel
theorem dX9_read_73 : decode cX9_read 73 = .ok (.imul, 1) := by decide +kernel
theorem dX9_read_74 : decode cX9_read 74 = .ok (.iconst 1, 1) := by decide +kernel
theorem dX9_read_75 : decode cX9_read 75 = .ok (.iadd, 1) := by decide +kernel
theorem dX9_read_76 : decode cX9_read 76 = .ok (.iaload, 1) := by decide +kernel
theorem dX9_read_77 : decode cX9_read 77 = .ok (.aload_n 0, 1) := by decide +kernel
theorem dX9_read_78 : decode cX9_read 78 = .ok (.getfield 26, 3) := by decide +kernel
theorem dX9_read_81 : decode cX9_read 81 = .ok (.iconst 3, 1) := by decide +kernel
theorem dX9_read_82 : decode cX9_read 82 = .ok (.iload_n 2, 1) := by decide +kernel
theorem dX9_read_83 : decode cX9_read 83 = .ok (.imul, 1) := by decide +kernel
theorem dX9_read_84 : decode cX9_read 84 = .ok (.iconst 2, 1) := by decide +kernel
theorem dX9_read_85 : decode cX9_read 85 = .ok (.iadd, 1) := by decide +kernel
theorem dX9_read_86 : decode cX9_read 86 = .ok (.iaload, 1) := by decide +kernel
theorem dX9_read_87 : decode cX9_read 87 = .ok (.invokevirtual 66, 3) := by decide +kernel
theorem dX9_read_90 : decode cX9_read 90 = .ok (.istore_n 3, 1) := by decide +kernel
theorem dX9_read_91 : decode cX9_read 91 = .ok (.iinc 2 1, 3) := by decide +kernel
theorem dX9_read_94 : decode cX9_read 94 = .ok (.goto (-46), 3) := by decide +kernel
theorem dX9_read_97 : decode cX9_read 97 = .ok (.aload_n 0, 1) := by decide +kernel
theorem dX9_read_98 : decode cX9_read 98 = .ok (.iconst 0, 1) := by decide +kernel
theorem dX9_read_99 : decode cX9_read 99 = .ok (.putfield 111, 3) := by decide +kernel
theorem dX9_read_102 : decode cX9_read 102 = .ok (.aload_n 0, 1) := by decide +kernel
theorem dX9_read_103 : decode cX9_read 103 = .ok (.getfield 143, 3) := by decide +kernel
theorem dX9_read_106 : decode cX9_read 106 = .ok (.ireturn, 1) := by decide +kernel
theorem dX9_save_0 : decode cX9_save 0 = .ok (.iload_n 1, 1) := by decide +kernel
theorem dX9_save_1 : decode cX9_save 1 = .ok (.iconst 0, 1) := by decide +kernel
theorem dX9_save_2 : decode cX9_save 2 = .ok (.iconst 1, 1) := by decide +kernel
theorem dX9_save_3 : decode cX9_save 3 = .ok (.invokestatic 33, 3) := by decide +kernel
theorem dX9_save_6 : decode cX9_save 6 = .ok (.ifCond .ne 6, 3) := by decide +kernel
theorem dX9_save_9 : decode cX9_save 9 = .ok (.bipush (-2), 2) := by decide +kernel
theorem dX9_save_11 : decode cX9_save 11 = .ok (.ireturn, 1) := by decide +kernel
theorem dX9_save_12 : decode cX9_save 12 = .ok (.iconst 0, 1) := by decide +kernel
theorem dX9_save_13 : decode cX9_save 13 = .ok (.istore_n 2, 1) := by decide +kernel
theorem dX9_save_14 : decode cX9_save 14 = .ok (.iload_n 2, 1) := by decide +kernel
theorem dX9_save_15 : decode cX9_save 15 = .ok (.sipush 1121, 3) := by decide +kernel
theorem dX9_save_18 : decode cX9_save 18 = .ok (.if_icmp .ge 27, 3) := by decide +kernel
theorem dX9_save_21 : decode cX9_save 21 = .ok (.aload_n 0, 1) := by decide +kernel
theorem dX9_save_22 : decode cX9_save 22 = .ok (.getfield 16, 3) := by decide +kernel
theorem dX9_save_25 : decode cX9_save 25 = .ok (.sipush 1121, 3) := by decide +kernel
theorem dX9_save_28 : decode cX9_save 28 = .ok (.iload_n 1, 1) := by decide +kernel
theorem dX9_save_29 : decode cX9_save 29 = .ok (.imul, 1) := by decide +kernel
theorem dX9_save_30 : decode cX9_save 30 = .ok (.iload_n 2, 1) := by decide +kernel
theorem dX9_save_31 : decode cX9_save 31 = .ok (.iadd, 1) := by decide +kernel
theorem dX9_save_32 : decode cX9_save 32 = .ok (.aload_n 0, 1) := by decide +kernel
theorem dX9_save_33 : decode cX9_save 33 = .ok (.getfield 7, 3) := by decide +kernel
theorem dX9_save_36 : decode cX9_save 36 = .ok (.iload_n 2, 1) := by decide +kernel
theorem dX9_save_37 : decode cX9_save 37 = .ok (.iaload, 1) := by decide +kernel
theorem dX9_save_38 : decode cX9_save 38 = .ok (.iastore, 1) := by decide +kernel
theorem dX9_save_39 : decode cX9_save 39 = .ok (.iinc 2 1, 3) := by decide +kernel
theorem dX9_save_42 : decode cX9_save 42 = .ok (.goto (-28), 3) := by decide +kernel
theorem dX9_save_45 : decode cX9_save 45 = .ok (.aload_n 0, 1) := by decide +kernel
theorem dX9_save_46 : decode cX9_save 46 = .ok (.getfield 19, 3) := by decide +kernel
theorem dX9_save_49 : decode cX9_save 49 = .ok (.iload_n 1, 1) := by decide +kernel
theorem dX9_save_50 : decode cX9_save 50 = .ok (.iconst 1, 1) := by decide +kernel
theorem dX9_save_51 : decode cX9_save 51 = .ok (.bastore, 1) := by decide +kernel
theorem dX9_save_52 : decode cX9_save 52 = .ok (.aload_n 0, 1) := by decide +kernel
theorem dX9_save_53 : decode cX9_save 53 = .ok (.getfield 7, 3) := by decide +kernel
theorem dX9_save_56 : decode cX9_save 56 = .ok (.sipush 937, 3) := by decide +kernel
theorem dX9_save_59 : decode cX9_save 59 = .ok (.iaload, 1) := by decide +kernel
theorem dX9_save_60 : decode cX9_save 60 = .ok (.ireturn, 1) := by decide +kernel
theorem dX9_restore_0 : decode cX9_restore 0 = .ok (.iload_n 1, 1) := by decide +kernel
theorem dX9_restore_1 : decode cX9_restore 1 = .ok (.iconst 0, 1) := by decide +kernel
theorem dX9_restore_2 : decode cX9_restore 2 = .ok (.iconst 1, 1) := by decide +kernel
theorem dX9_restore_3 : decode cX9_restore 3 = .ok (.invokestatic 33, 3) := by decide +kernel
theorem dX9_restore_6 : decode cX9_restore 6 = .ok (.ifCond .ne 6, 3) := by decide +kernel
theorem dX9_restore_9 : decode cX9_restore 9 = .ok (.bipush (-2), 2) := by decide +kernel
theorem dX9_restore_11 : decode cX9_restore 11 = .ok (.ireturn, 1) := by decide +kernel
theorem dX9_restore_12 : decode cX9_restore 12 = .ok (.aload_n 0, 1) := by decide +kernel
theorem dX9_restore_13 : decode cX9_restore 13 = .ok (.getfield 19, 3) := by decide +kernel
theorem dX9_restore_16 : decode cX9_restore 16 = .ok (.iload_n 1, 1) := by decide +kernel
theorem dX9_restore_17 : decode cX9_restore 17 = .ok (.baload, 1) := by decide +kernel
theorem dX9_restore_18 : decode cX9_restore 18 = .ok (.ifCond .ne 6, 3) := by decide +kernel
theorem dX9_restore_21 : decode cX9_restore 21 = .ok (.bipush (-5), 2) := by decide +kernel
theorem dX9_restore_23 : decode cX9_restore 23 = .ok (.ireturn, 1) := by decide +kernel
theorem dX9_restore_24 : decode cX9_restore 24 = .ok (.iconst 0, 1) := by decide +kernel
theorem dX9_restore_25 : decode cX9_restore 25 = .ok (.istore_n 2, 1) := by decide +kernel
theorem dX9_restore_26 : decode cX9_restore 26 = .ok (.iload_n 2, 1) := by decide +kernel
theorem dX9_restore_27 : decode cX9_restore 27 = .ok (.sipush 1121, 3) := by decide +kernel
theorem dX9_restore_30 : decode cX9_restore 30 = .ok (.if_icmp .ge 27, 3) := by decide +kernel
theorem dX9_restore_33 : decode cX9_restore 33 = .ok (.aload_n 0, 1) := by decide +kernel
theorem dX9_restore_34 : decode cX9_restore 34 = .ok (.getfield 7, 3) := by decide +kernel
theorem dX9_restore_37 : decode cX9_restore 37 = .ok (.iload_n 2, 1) := by decide +kernel
theorem dX9_restore_38 : decode cX9_restore 38 = .ok (.aload_n 0, 1) := by decide +kernel
theorem dX9_restore_39 : decode cX9_restore 39 = .ok (.getfield 16, 3) := by decide +kernel
theorem dX9_restore_42 : decode cX9_restore 42 = .ok (.sipush 1121, 3) := by decide +kernel
theorem dX9_restore_45 : decode cX9_restore 45 = .ok (.iload_n 1, 1) := by decide +kernel
theorem dX9_restore_46 : decode cX9_restore 46 = .ok (.imul, 1) := by decide +kernel
theorem dX9_restore_47 : decode cX9_restore 47 = .ok (.iload_n 2, 1) := by decide +kernel
theorem dX9_restore_48 : decode cX9_restore 48 = .ok (.iadd, 1) := by decide +kernel
theorem dX9_restore_49 : decode cX9_restore 49 = .ok (.iaload, 1) := by decide +kernel
theorem dX9_restore_50 : decode cX9_restore 50 = .ok (.iastore, 1) := by decide +kernel
theorem dX9_restore_51 : decode cX9_restore 51 = .ok (.iinc 2 1, 3) := by decide +kernel
theorem dX9_restore_54 : decode cX9_restore 54 = .ok (.goto (-28), 3) := by decide +kernel
theorem dX9_restore_57 : decode cX9_restore 57 = .ok (.aload_n 0, 1) := by decide +kernel
theorem dX9_restore_58 : decode cX9_restore 58 = .ok (.getfield 7, 3) := by decide +kernel
theorem dX9_restore_61 : decode cX9_restore 61 = .ok (.sipush 937, 3) := by decide +kernel
theorem dX9_restore_64 : decode cX9_restore 64 = .ok (.iaload, 1) := by decide +kernel
theorem dX9_restore_65 : decode cX9_restore 65 = .ok (.ireturn, 1) := by decide +kernel
theorem dJ9_floorDiv_f86c9_0 : decode cJ9_floorDiv_f86c9 0 = .ok (.lload_n 0, 1) := by decide +kernel
theorem dJ9_floorDiv_f86c9_1 : decode cJ9_floorDiv_f86c9 1 = .ok (.lload_n 2, 1) := by decide +kernel
theorem dJ9_floorDiv_f86c9_2 : decode cJ9_floorDiv_f86c9 2 = .ok (.ldiv, 1) := by decide +kernel
theorem dJ9_floorDiv_f86c9_3 : decode cJ9_floorDiv_f86c9 3 = .ok (.lstore 4, 2) := by decide +kernel
theorem dJ9_floorDiv_f86c9_5 : decode cJ9_floorDiv_f86c9 5 = .ok (.lload_n 0, 1) := by decide +kernel
theorem dJ9_floorDiv_f86c9_6 : decode cJ9_floorDiv_f86c9 6 = .ok (.lload_n 2, 1) := by decide +kernel
theorem dJ9_floorDiv_f86c9_7 : decode cJ9_floorDiv_f86c9 7 = .ok (.lxor, 1) := by decide +kernel
theorem dJ9_floorDiv_f86c9_8 : decode cJ9_floorDiv_f86c9 8 = .ok (.lconst 0, 1) := by decide +kernel
theorem dJ9_floorDiv_f86c9_9 : decode cJ9_floorDiv_f86c9 9 = .ok (.lcmp, 1) := by decide +kernel
theorem dJ9_floorDiv_f86c9_10 : decode cJ9_floorDiv_f86c9 10 = .ok (.ifCond .ge 17, 3) := by decide +kernel
theorem dJ9_floorDiv_f86c9_13 : decode cJ9_floorDiv_f86c9 13 = .ok (.lload 4, 2) := by decide +kernel
theorem dJ9_floorDiv_f86c9_15 : decode cJ9_floorDiv_f86c9 15 = .ok (.lload_n 2, 1) := by decide +kernel
theorem dJ9_floorDiv_f86c9_16 : decode cJ9_floorDiv_f86c9 16 = .ok (.lmul, 1) := by decide +kernel
theorem dJ9_floorDiv_f86c9_17 : decode cJ9_floorDiv_f86c9 17 = .ok (.lload_n 0, 1) := by decide +kernel
theorem dJ9_floorDiv_f86c9_18 : decode cJ9_floorDiv_f86c9 18 = .ok (.lcmp, 1) := by decide +kernel
theorem dJ9_floorDiv_f86c9_19 : decode cJ9_floorDiv_f86c9 19 = .ok (.ifCond .eq 8, 3) := by decide +kernel
theorem dJ9_floorDiv_f86c9_22 : decode cJ9_floorDiv_f86c9 22 = .ok (.lload 4, 2) := by decide +kernel
theorem dJ9_floorDiv_f86c9_24 : decode cJ9_floorDiv_f86c9 24 = .ok (.lconst 1, 1) := by decide +kernel
theorem dJ9_floorDiv_f86c9_25 : decode cJ9_floorDiv_f86c9 25 = .ok (.lsub, 1) := by decide +kernel
theorem dJ9_floorDiv_f86c9_26 : decode cJ9_floorDiv_f86c9 26 = .ok (.lreturn, 1) := by decide +kernel
theorem dJ9_floorDiv_f86c9_27 : decode cJ9_floorDiv_f86c9 27 = .ok (.lload 4, 2) := by decide +kernel
theorem dJ9_floorDiv_f86c9_29 : decode cJ9_floorDiv_f86c9 29 = .ok (.lreturn, 1) := by decide +kernel
theorem dJ9_floorMod_7cf53_0 : decode cJ9_floorMod_7cf53 0 = .ok (.iload_n 0, 1) := by decide +kernel
theorem dJ9_floorMod_7cf53_1 : decode cJ9_floorMod_7cf53 1 = .ok (.iload_n 1, 1) := by decide +kernel
theorem dJ9_floorMod_7cf53_2 : decode cJ9_floorMod_7cf53 2 = .ok (.irem, 1) := by decide +kernel
theorem dJ9_floorMod_7cf53_3 : decode cJ9_floorMod_7cf53 3 = .ok (.istore_n 2, 1) := by decide +kernel
theorem dJ9_floorMod_7cf53_4 : decode cJ9_floorMod_7cf53 4 = .ok (.iload_n 0, 1) := by decide +kernel
theorem dJ9_floorMod_7cf53_5 : decode cJ9_floorMod_7cf53 5 = .ok (.iload_n 1, 1) := by decide +kernel
theorem dJ9_floorMod_7cf53_6 : decode cJ9_floorMod_7cf53 6 = .ok (.ixor, 1) := by decide +kernel
theorem dJ9_floorMod_7cf53_7 : decode cJ9_floorMod_7cf53 7 = .ok (.ifCond .ge 11, 3) := by decide +kernel
theorem dJ9_floorMod_7cf53_10 : decode cJ9_floorMod_7cf53 10 = .ok (.iload_n 2, 1) := by decide +kernel
theorem dJ9_floorMod_7cf53_11 : decode cJ9_floorMod_7cf53 11 = .ok (.ifCond .eq 7, 3) := by decide +kernel
theorem dJ9_floorMod_7cf53_14 : decode cJ9_floorMod_7cf53 14 = .ok (.iload_n 2, 1) := by decide +kernel
theorem dJ9_floorMod_7cf53_15 : decode cJ9_floorMod_7cf53 15 = .ok (.iload_n 1, 1) := by decide +kernel
theorem dJ9_floorMod_7cf53_16 : decode cJ9_floorMod_7cf53 16 = .ok (.iadd, 1) := by decide +kernel
theorem dJ9_floorMod_7cf53_17 : decode cJ9_floorMod_7cf53 17 = .ok (.ireturn, 1) := by decide +kernel
theorem dJ9_floorMod_7cf53_18 : decode cJ9_floorMod_7cf53 18 = .ok (.iload_n 2, 1) := by decide +kernel
theorem dJ9_floorMod_7cf53_19 : decode cJ9_floorMod_7cf53 19 = .ok (.ireturn, 1) := by decide +kernel
theorem dJ9_max_7cf53_0 : decode cJ9_max_7cf53 0 = .ok (.iload_n 0, 1) := by decide +kernel
theorem dJ9_max_7cf53_1 : decode cJ9_max_7cf53 1 = .ok (.iload_n 1, 1) := by decide +kernel
theorem dJ9_max_7cf53_2 : decode cJ9_max_7cf53 2 = .ok (.if_icmp .lt 7, 3) := by decide +kernel
theorem dJ9_max_7cf53_5 : decode cJ9_max_7cf53 5 = .ok (.iload_n 0, 1) := by decide +kernel
theorem dJ9_max_7cf53_6 : decode cJ9_max_7cf53 6 = .ok (.goto 4, 3) := by decide +kernel
theorem dJ9_max_7cf53_9 : decode cJ9_max_7cf53 9 = .ok (.iload_n 1, 1) := by decide +kernel
theorem dJ9_max_7cf53_10 : decode cJ9_max_7cf53 10 = .ok (.ireturn, 1) := by decide +kernel
theorem dJ9_min_7cf53_0 : decode cJ9_min_7cf53 0 = .ok (.iload_n 0, 1) := by decide +kernel
theorem dJ9_min_7cf53_1 : decode cJ9_min_7cf53 1 = .ok (.iload_n 1, 1) := by decide +kernel
theorem dJ9_min_7cf53_2 : decode cJ9_min_7cf53 2 = .ok (.if_icmp .gt 7, 3) := by decide +kernel
theorem dJ9_min_7cf53_5 : decode cJ9_min_7cf53 5 = .ok (.iload_n 0, 1) := by decide +kernel
theorem dJ9_min_7cf53_6 : decode cJ9_min_7cf53 6 = .ok (.goto 4, 3) := by decide +kernel
theorem dJ9_min_7cf53_9 : decode cJ9_min_7cf53 9 = .ok (.iload_n 1, 1) := by decide +kernel
theorem dJ9_min_7cf53_10 : decode cJ9_min_7cf53 10 = .ok (.ireturn, 1) := by decide +kernel
theorem dL_law_0 : decode cL_law 0 = .ok (.new 7, 3) := by decide +kernel
theorem dL_law_3 : decode cL_law 3 = .ok (.dup, 1) := by decide +kernel
theorem dL_law_4 : decode cL_law 4 = .ok (.invokespecial 9, 3) := by decide +kernel
theorem dL_law_7 : decode cL_law 7 = .ok (.astore_n 1, 1) := by decide +kernel
theorem dL_law_8 : decode cL_law 8 = .ok (.new 10, 3) := by decide +kernel
theorem dL_law_11 : decode cL_law 11 = .ok (.dup, 1) := by decide +kernel
theorem dL_law_12 : decode cL_law 12 = .ok (.invokespecial 12, 3) := by decide +kernel
theorem dL_law_15 : decode cL_law 15 = .ok (.astore_n 2, 1) := by decide +kernel
theorem dL_law_16 : decode cL_law 16 = .ok (.iconst 0, 1) := by decide +kernel
theorem dL_law_17 : decode cL_law 17 = .ok (.istore_n 3, 1) := by decide +kernel
theorem dL_law_18 : decode cL_law 18 = .ok (.iload_n 3, 1) := by decide +kernel
theorem dL_law_19 : decode cL_law 19 = .ok (.aload_n 0, 1) := by decide +kernel
theorem dL_law_20 : decode cL_law 20 = .ok (.arraylength, 1) := by decide +kernel
theorem dL_law_21 : decode cL_law 21 = .ok (.iconst 4, 1) := by decide +kernel
theorem dL_law_22 : decode cL_law 22 = .ok (.isub, 1) := by decide +kernel
theorem dL_law_23 : decode cL_law 23 = .ok (.if_icmp .gt 911, 3) := by decide +kernel
theorem dL_law_26 : decode cL_law 26 = .ok (.aload_n 0, 1) := by decide +kernel
theorem dL_law_27 : decode cL_law 27 = .ok (.iload_n 3, 1) := by decide +kernel
theorem dL_law_28 : decode cL_law 28 = .ok (.iaload, 1) := by decide +kernel
theorem dL_law_29 : decode cL_law 29 = .ok (.bipush 31, 2) := by decide +kernel
theorem dL_law_31 : decode cL_law 31 = .ok (.iand, 1) := by decide +kernel
theorem dL_law_32 : decode cL_law 32 = .ok (.tableswitch 896 0 25 #[120, 143, 186, 229, 262, 285, 328, 351, 384, 417, 450, 473, 486, 519, 552, 605, 646, 669, 712, 755, 778, 801, 814, 827, 850, 873], 120) := by decide +kernel
theorem dL_law_152 : decode cL_law 152 = .ok (.aload_n 1, 1) := by decide +kernel
theorem dL_law_153 : decode cL_law 153 = .ok (.aload_n 0, 1) := by decide +kernel
theorem dL_law_154 : decode cL_law 154 = .ok (.iload_n 3, 1) := by decide +kernel
theorem dL_law_155 : decode cL_law 155 = .ok (.iconst 1, 1) := by decide +kernel
theorem dL_law_156 : decode cL_law 156 = .ok (.iadd, 1) := by decide +kernel
theorem dL_law_157 : decode cL_law 157 = .ok (.iaload, 1) := by decide +kernel
theorem dL_law_158 : decode cL_law 158 = .ok (.invokevirtual 13, 3) := by decide +kernel
theorem dL_law_161 : decode cL_law 161 = .ok (.aload_n 2, 1) := by decide +kernel
theorem dL_law_162 : decode cL_law 162 = .ok (.aload_n 0, 1) := by decide +kernel
theorem dL_law_163 : decode cL_law 163 = .ok (.iload_n 3, 1) := by decide +kernel
theorem dL_law_164 : decode cL_law 164 = .ok (.iconst 1, 1) := by decide +kernel
theorem dL_law_165 : decode cL_law 165 = .ok (.iadd, 1) := by decide +kernel
theorem dL_law_166 : decode cL_law 166 = .ok (.iaload, 1) := by decide +kernel
theorem dL_law_167 : decode cL_law 167 = .ok (.invokevirtual 17, 3) := by decide +kernel
theorem dL_law_170 : decode cL_law 170 = .ok (.if_icmp .eq 758, 3) := by decide +kernel
theorem dL_law_173 : decode cL_law 173 = .ok (.iconst 0, 1) := by decide +kernel
theorem dL_law_174 : decode cL_law 174 = .ok (.ireturn, 1) := by decide +kernel
theorem dL_law_175 : decode cL_law 175 = .ok (.aload_n 1, 1) := by decide +kernel
theorem dL_law_176 : decode cL_law 176 = .ok (.aload_n 0, 1) := by decide +kernel
theorem dL_law_177 : decode cL_law 177 = .ok (.iload_n 3, 1) := by decide +kernel
theorem dL_law_178 : decode cL_law 178 = .ok (.iconst 1, 1) := by decide +kernel
theorem dL_law_179 : decode cL_law 179 = .ok (.iadd, 1) := by decide +kernel
theorem dL_law_180 : decode cL_law 180 = .ok (.iaload, 1) := by decide +kernel
theorem dL_law_181 : decode cL_law 181 = .ok (.aload_n 0, 1) := by decide +kernel
theorem dL_law_182 : decode cL_law 182 = .ok (.iload_n 3, 1) := by decide +kernel
theorem dL_law_183 : decode cL_law 183 = .ok (.iconst 2, 1) := by decide +kernel
theorem dL_law_184 : decode cL_law 184 = .ok (.iadd, 1) := by decide +kernel
theorem dL_law_185 : decode cL_law 185 = .ok (.iaload, 1) := by decide +kernel
theorem dL_law_186 : decode cL_law 186 = .ok (.aload_n 0, 1) := by decide +kernel
theorem dL_law_187 : decode cL_law 187 = .ok (.iload_n 3, 1) := by decide +kernel
theorem dL_law_188 : decode cL_law 188 = .ok (.iconst 3, 1) := by decide +kernel
theorem dL_law_189 : decode cL_law 189 = .ok (.iadd, 1) := by decide +kernel
theorem dL_law_190 : decode cL_law 190 = .ok (.iaload, 1) := by decide +kernel
theorem dL_law_191 : decode cL_law 191 = .ok (.invokevirtual 18, 3) := by decide +kernel
theorem dL_law_194 : decode cL_law 194 = .ok (.aload_n 2, 1) := by decide +kernel
theorem dL_law_195 : decode cL_law 195 = .ok (.aload_n 0, 1) := by decide +kernel
theorem dL_law_196 : decode cL_law 196 = .ok (.iload_n 3, 1) := by decide +kernel
theorem dL_law_197 : decode cL_law 197 = .ok (.iconst 1, 1) := by decide +kernel
theorem dL_law_198 : decode cL_law 198 = .ok (.iadd, 1) := by decide +kernel
theorem dL_law_199 : decode cL_law 199 = .ok (.iaload, 1) := by decide +kernel
theorem dL_law_200 : decode cL_law 200 = .ok (.aload_n 0, 1) := by decide +kernel
theorem dL_law_201 : decode cL_law 201 = .ok (.iload_n 3, 1) := by decide +kernel
theorem dL_law_202 : decode cL_law 202 = .ok (.iconst 2, 1) := by decide +kernel
theorem dL_law_203 : decode cL_law 203 = .ok (.iadd, 1) := by decide +kernel
theorem dL_law_204 : decode cL_law 204 = .ok (.iaload, 1) := by decide +kernel
theorem dL_law_205 : decode cL_law 205 = .ok (.aload_n 0, 1) := by decide +kernel
theorem dL_law_206 : decode cL_law 206 = .ok (.iload_n 3, 1) := by decide +kernel
theorem dL_law_207 : decode cL_law 207 = .ok (.iconst 3, 1) := by decide +kernel
theorem dL_law_208 : decode cL_law 208 = .ok (.iadd, 1) := by decide +kernel
theorem dL_law_209 : decode cL_law 209 = .ok (.iaload, 1) := by decide +kernel
theorem dL_law_210 : decode cL_law 210 = .ok (.invokevirtual 22, 3) := by decide +kernel
theorem dL_law_213 : decode cL_law 213 = .ok (.if_icmp .eq 715, 3) := by decide +kernel
theorem dL_law_216 : decode cL_law 216 = .ok (.iconst 0, 1) := by decide +kernel
theorem dL_law_217 : decode cL_law 217 = .ok (.ireturn, 1) := by decide +kernel
theorem dL_law_218 : decode cL_law 218 = .ok (.aload_n 1, 1) := by decide +kernel
theorem dL_law_219 : decode cL_law 219 = .ok (.aload_n 0, 1) := by decide +kernel
theorem dL_law_220 : decode cL_law 220 = .ok (.iload_n 3, 1) := by decide +kernel
theorem dL_law_221 : decode cL_law 221 = .ok (.iconst 1, 1) := by decide +kernel
theorem dL_law_222 : decode cL_law 222 = .ok (.iadd, 1) := by decide +kernel
theorem dL_law_223 : decode cL_law 223 = .ok (.iaload, 1) := by decide +kernel
theorem dL_law_224 : decode cL_law 224 = .ok (.aload_n 0, 1) := by decide +kernel
theorem dL_law_225 : decode cL_law 225 = .ok (.iload_n 3, 1) := by decide +kernel
theorem dL_law_226 : decode cL_law 226 = .ok (.iconst 2, 1) := by decide +kernel
theorem dL_law_227 : decode cL_law 227 = .ok (.iadd, 1) := by decide +kernel
theorem dL_law_228 : decode cL_law 228 = .ok (.iaload, 1) := by decide +kernel
theorem dL_law_229 : decode cL_law 229 = .ok (.aload_n 0, 1) := by decide +kernel
theorem dL_law_230 : decode cL_law 230 = .ok (.iload_n 3, 1) := by decide +kernel
theorem dL_law_231 : decode cL_law 231 = .ok (.iconst 3, 1) := by decide +kernel
theorem dL_law_232 : decode cL_law 232 = .ok (.iadd, 1) := by decide +kernel
theorem dL_law_233 : decode cL_law 233 = .ok (.iaload, 1) := by decide +kernel
theorem dL_law_234 : decode cL_law 234 = .ok (.invokevirtual 23, 3) := by decide +kernel
theorem dL_law_237 : decode cL_law 237 = .ok (.aload_n 2, 1) := by decide +kernel
theorem dL_law_238 : decode cL_law 238 = .ok (.aload_n 0, 1) := by decide +kernel
theorem dL_law_239 : decode cL_law 239 = .ok (.iload_n 3, 1) := by decide +kernel
theorem dL_law_240 : decode cL_law 240 = .ok (.iconst 1, 1) := by decide +kernel
theorem dL_law_241 : decode cL_law 241 = .ok (.iadd, 1) := by decide +kernel
theorem dL_law_242 : decode cL_law 242 = .ok (.iaload, 1) := by decide +kernel
theorem dL_law_243 : decode cL_law 243 = .ok (.aload_n 0, 1) := by decide +kernel
theorem dL_law_244 : decode cL_law 244 = .ok (.iload_n 3, 1) := by decide +kernel
theorem dL_law_245 : decode cL_law 245 = .ok (.iconst 2, 1) := by decide +kernel
theorem dL_law_246 : decode cL_law 246 = .ok (.iadd, 1) := by decide +kernel
theorem dL_law_247 : decode cL_law 247 = .ok (.iaload, 1) := by decide +kernel
theorem dL_law_248 : decode cL_law 248 = .ok (.aload_n 0, 1) := by decide +kernel
theorem dL_law_249 : decode cL_law 249 = .ok (.iload_n 3, 1) := by decide +kernel
theorem dL_law_250 : decode cL_law 250 = .ok (.iconst 3, 1) := by decide +kernel
theorem dL_law_251 : decode cL_law 251 = .ok (.iadd, 1) := by decide +kernel
theorem dL_law_252 : decode cL_law 252 = .ok (.iaload, 1) := by decide +kernel
theorem dL_law_253 : decode cL_law 253 = .ok (.invokevirtual 26, 3) := by decide +kernel
theorem dL_law_256 : decode cL_law 256 = .ok (.if_icmp .eq 672, 3) := by decide +kernel
theorem dL_law_259 : decode cL_law 259 = .ok (.iconst 0, 1) := by decide +kernel
theorem dL_law_260 : decode cL_law 260 = .ok (.ireturn, 1) := by decide +kernel
theorem dL_law_261 : decode cL_law 261 = .ok (.aload_n 1, 1) := by decide +kernel
theorem dL_law_262 : decode cL_law 262 = .ok (.aload_n 0, 1) := by decide +kernel
theorem dL_law_263 : decode cL_law 263 = .ok (.iload_n 3, 1) := by decide +kernel
theorem dL_law_264 : decode cL_law 264 = .ok (.iconst 1, 1) := by decide +kernel
theorem dL_law_265 : decode cL_law 265 = .ok (.iadd, 1) := by decide +kernel
theorem dL_law_266 : decode cL_law 266 = .ok (.iaload, 1) := by decide +kernel
theorem dL_law_267 : decode cL_law 267 = .ok (.aload_n 0, 1) := by decide +kernel
theorem dL_law_268 : decode cL_law 268 = .ok (.iload_n 3, 1) := by decide +kernel
theorem dL_law_269 : decode cL_law 269 = .ok (.iconst 2, 1) := by decide +kernel
theorem dL_law_270 : decode cL_law 270 = .ok (.iadd, 1) := by decide +kernel
theorem dL_law_271 : decode cL_law 271 = .ok (.iaload, 1) := by decide +kernel
theorem dL_law_272 : decode cL_law 272 = .ok (.invokevirtual 27, 3) := by decide +kernel
theorem dL_law_275 : decode cL_law 275 = .ok (.aload_n 2, 1) := by decide +kernel
theorem dL_law_276 : decode cL_law 276 = .ok (.aload_n 0, 1) := by decide +kernel
theorem dL_law_277 : decode cL_law 277 = .ok (.iload_n 3, 1) := by decide +kernel
theorem dL_law_278 : decode cL_law 278 = .ok (.iconst 1, 1) := by decide +kernel
theorem dL_law_279 : decode cL_law 279 = .ok (.iadd, 1) := by decide +kernel
theorem dL_law_280 : decode cL_law 280 = .ok (.iaload, 1) := by decide +kernel
theorem dL_law_281 : decode cL_law 281 = .ok (.aload_n 0, 1) := by decide +kernel
theorem dL_law_282 : decode cL_law 282 = .ok (.iload_n 3, 1) := by decide +kernel
theorem dL_law_283 : decode cL_law 283 = .ok (.iconst 2, 1) := by decide +kernel
theorem dL_law_284 : decode cL_law 284 = .ok (.iadd, 1) := by decide +kernel
theorem dL_law_285 : decode cL_law 285 = .ok (.iaload, 1) := by decide +kernel
theorem dL_law_286 : decode cL_law 286 = .ok (.invokevirtual 31, 3) := by decide +kernel
theorem dL_law_289 : decode cL_law 289 = .ok (.if_icmp .eq 639, 3) := by decide +kernel
theorem dL_law_292 : decode cL_law 292 = .ok (.iconst 0, 1) := by decide +kernel
theorem dL_law_293 : decode cL_law 293 = .ok (.ireturn, 1) := by decide +kernel
theorem dL_law_294 : decode cL_law 294 = .ok (.aload_n 1, 1) := by decide +kernel
theorem dL_law_295 : decode cL_law 295 = .ok (.aload_n 0, 1) := by decide +kernel
theorem dL_law_296 : decode cL_law 296 = .ok (.iload_n 3, 1) := by decide +kernel
theorem dL_law_297 : decode cL_law 297 = .ok (.iconst 1, 1) := by decide +kernel
theorem dL_law_298 : decode cL_law 298 = .ok (.iadd, 1) := by decide +kernel
theorem dL_law_299 : decode cL_law 299 = .ok (.iaload, 1) := by decide +kernel
theorem dL_law_300 : decode cL_law 300 = .ok (.invokevirtual 32, 3) := by decide +kernel
theorem dL_law_303 : decode cL_law 303 = .ok (.aload_n 2, 1) := by decide +kernel
theorem dL_law_304 : decode cL_law 304 = .ok (.aload_n 0, 1) := by decide +kernel
theorem dL_law_305 : decode cL_law 305 = .ok (.iload_n 3, 1) := by decide +kernel
theorem dL_law_306 : decode cL_law 306 = .ok (.iconst 1, 1) := by decide +kernel
theorem dL_law_307 : decode cL_law 307 = .ok (.iadd, 1) := by decide +kernel
theorem dL_law_308 : decode cL_law 308 = .ok (.iaload, 1) := by decide +kernel
theorem dL_law_309 : decode cL_law 309 = .ok (.invokevirtual 35, 3) := by decide +kernel
theorem dL_law_312 : decode cL_law 312 = .ok (.if_icmp .eq 616, 3) := by decide +kernel
theorem dL_law_315 : decode cL_law 315 = .ok (.iconst 0, 1) := by decide +kernel
theorem dL_law_316 : decode cL_law 316 = .ok (.ireturn, 1) := by decide +kernel
theorem dL_law_317 : decode cL_law 317 = .ok (.aload_n 1, 1) := by decide +kernel
theorem dL_law_318 : decode cL_law 318 = .ok (.aload_n 0, 1) := by decide +kernel
theorem dL_law_319 : decode cL_law 319 = .ok (.iload_n 3, 1) := by decide +kernel
theorem dL_law_320 : decode cL_law 320 = .ok (.iconst 1, 1) := by decide +kernel
theorem dL_law_321 : decode cL_law 321 = .ok (.iadd, 1) := by decide +kernel
theorem dL_law_322 : decode cL_law 322 = .ok (.iaload, 1) := by decide +kernel
theorem dL_law_323 : decode cL_law 323 = .ok (.aload_n 0, 1) := by decide +kernel
theorem dL_law_324 : decode cL_law 324 = .ok (.iload_n 3, 1) := by decide +kernel
theorem dL_law_325 : decode cL_law 325 = .ok (.iconst 2, 1) := by decide +kernel
theorem dL_law_326 : decode cL_law 326 = .ok (.iadd, 1) := by decide +kernel
theorem dL_law_327 : decode cL_law 327 = .ok (.iaload, 1) := by decide +kernel
theorem dL_law_328 : decode cL_law 328 = .ok (.aload_n 0, 1) := by decide +kernel
theorem dL_law_329 : decode cL_law 329 = .ok (.iload_n 3, 1) := by decide +kernel
theorem dL_law_330 : decode cL_law 330 = .ok (.iconst 3, 1) := by decide +kernel
theorem dL_law_331 : decode cL_law 331 = .ok (.iadd, 1) := by decide +kernel
theorem dL_law_332 : decode cL_law 332 = .ok (.iaload, 1) := by decide +kernel
theorem dL_law_333 : decode cL_law 333 = .ok (.invokevirtual 36, 3) := by decide +kernel
theorem dL_law_336 : decode cL_law 336 = .ok (.aload_n 2, 1) := by decide +kernel
theorem dL_law_337 : decode cL_law 337 = .ok (.aload_n 0, 1) := by decide +kernel
theorem dL_law_338 : decode cL_law 338 = .ok (.iload_n 3, 1) := by decide +kernel
theorem dL_law_339 : decode cL_law 339 = .ok (.iconst 1, 1) := by decide +kernel
theorem dL_law_340 : decode cL_law 340 = .ok (.iadd, 1) := by decide +kernel
theorem dL_law_341 : decode cL_law 341 = .ok (.iaload, 1) := by decide +kernel
theorem dL_law_342 : decode cL_law 342 = .ok (.aload_n 0, 1) := by decide +kernel
theorem dL_law_343 : decode cL_law 343 = .ok (.iload_n 3, 1) := by decide +kernel
theorem dL_law_344 : decode cL_law 344 = .ok (.iconst 2, 1) := by decide +kernel
theorem dL_law_345 : decode cL_law 345 = .ok (.iadd, 1) := by decide +kernel
theorem dL_law_346 : decode cL_law 346 = .ok (.iaload, 1) := by decide +kernel
theorem dL_law_347 : decode cL_law 347 = .ok (.aload_n 0, 1) := by decide +kernel
theorem dL_law_348 : decode cL_law 348 = .ok (.iload_n 3, 1) := by decide +kernel
theorem dL_law_349 : decode cL_law 349 = .ok (.iconst 3, 1) := by decide +kernel
theorem dL_law_350 : decode cL_law 350 = .ok (.iadd, 1) := by decide +kernel
theorem dL_law_351 : decode cL_law 351 = .ok (.iaload, 1) := by decide +kernel
theorem dL_law_352 : decode cL_law 352 = .ok (.invokevirtual 39, 3) := by decide +kernel
theorem dL_law_355 : decode cL_law 355 = .ok (.if_icmp .eq 573, 3) := by decide +kernel
theorem dL_law_358 : decode cL_law 358 = .ok (.iconst 0, 1) := by decide +kernel
theorem dL_law_359 : decode cL_law 359 = .ok (.ireturn, 1) := by decide +kernel
theorem dL_law_360 : decode cL_law 360 = .ok (.aload_n 1, 1) := by decide +kernel
theorem dL_law_361 : decode cL_law 361 = .ok (.aload_n 0, 1) := by decide +kernel
theorem dL_law_362 : decode cL_law 362 = .ok (.iload_n 3, 1) := by decide +kernel
theorem dL_law_363 : decode cL_law 363 = .ok (.iconst 1, 1) := by decide +kernel
theorem dL_law_364 : decode cL_law 364 = .ok (.iadd, 1) := by decide +kernel
theorem dL_law_365 : decode cL_law 365 = .ok (.iaload, 1) := by decide +kernel
theorem dL_law_366 : decode cL_law 366 = .ok (.invokevirtual 40, 3) := by decide +kernel
theorem dL_law_369 : decode cL_law 369 = .ok (.aload_n 2, 1) := by decide +kernel
theorem dL_law_370 : decode cL_law 370 = .ok (.aload_n 0, 1) := by decide +kernel
theorem dL_law_371 : decode cL_law 371 = .ok (.iload_n 3, 1) := by decide +kernel
theorem dL_law_372 : decode cL_law 372 = .ok (.iconst 1, 1) := by decide +kernel
theorem dL_law_373 : decode cL_law 373 = .ok (.iadd, 1) := by decide +kernel
theorem dL_law_374 : decode cL_law 374 = .ok (.iaload, 1) := by decide +kernel
theorem dL_law_375 : decode cL_law 375 = .ok (.invokevirtual 43, 3) := by decide +kernel
theorem dL_law_378 : decode cL_law 378 = .ok (.if_icmp .eq 550, 3) := by decide +kernel
theorem dL_law_381 : decode cL_law 381 = .ok (.iconst 0, 1) := by decide +kernel
theorem dL_law_382 : decode cL_law 382 = .ok (.ireturn, 1) := by decide +kernel
theorem dL_law_383 : decode cL_law 383 = .ok (.aload_n 1, 1) := by decide +kernel
theorem dL_law_384 : decode cL_law 384 = .ok (.aload_n 0, 1) := by decide +kernel
theorem dL_law_385 : decode cL_law 385 = .ok (.iload_n 3, 1) := by decide +kernel
theorem dL_law_386 : decode cL_law 386 = .ok (.iconst 1, 1) := by decide +kernel
theorem dL_law_387 : decode cL_law 387 = .ok (.iadd, 1) := by decide +kernel
theorem dL_law_388 : decode cL_law 388 = .ok (.iaload, 1) := by decide +kernel
theorem dL_law_389 : decode cL_law 389 = .ok (.aload_n 0, 1) := by decide +kernel
theorem dL_law_390 : decode cL_law 390 = .ok (.iload_n 3, 1) := by decide +kernel
theorem dL_law_391 : decode cL_law 391 = .ok (.iconst 2, 1) := by decide +kernel
theorem dL_law_392 : decode cL_law 392 = .ok (.iadd, 1) := by decide +kernel
theorem dL_law_393 : decode cL_law 393 = .ok (.iaload, 1) := by decide +kernel
theorem dL_law_394 : decode cL_law 394 = .ok (.invokevirtual 44, 3) := by decide +kernel
theorem dL_law_397 : decode cL_law 397 = .ok (.aload_n 2, 1) := by decide +kernel
theorem dL_law_398 : decode cL_law 398 = .ok (.aload_n 0, 1) := by decide +kernel
theorem dL_law_399 : decode cL_law 399 = .ok (.iload_n 3, 1) := by decide +kernel
theorem dL_law_400 : decode cL_law 400 = .ok (.iconst 1, 1) := by decide +kernel
theorem dL_law_401 : decode cL_law 401 = .ok (.iadd, 1) := by decide +kernel
theorem dL_law_402 : decode cL_law 402 = .ok (.iaload, 1) := by decide +kernel
theorem dL_law_403 : decode cL_law 403 = .ok (.aload_n 0, 1) := by decide +kernel
theorem dL_law_404 : decode cL_law 404 = .ok (.iload_n 3, 1) := by decide +kernel
theorem dL_law_405 : decode cL_law 405 = .ok (.iconst 2, 1) := by decide +kernel
theorem dL_law_406 : decode cL_law 406 = .ok (.iadd, 1) := by decide +kernel
theorem dL_law_407 : decode cL_law 407 = .ok (.iaload, 1) := by decide +kernel
theorem dL_law_408 : decode cL_law 408 = .ok (.invokevirtual 47, 3) := by decide +kernel
theorem dL_law_411 : decode cL_law 411 = .ok (.if_icmp .eq 517, 3) := by decide +kernel
theorem dL_law_414 : decode cL_law 414 = .ok (.iconst 0, 1) := by decide +kernel
theorem dL_law_415 : decode cL_law 415 = .ok (.ireturn, 1) := by decide +kernel
theorem dL_law_416 : decode cL_law 416 = .ok (.aload_n 1, 1) := by decide +kernel
theorem dL_law_417 : decode cL_law 417 = .ok (.aload_n 0, 1) := by decide +kernel
theorem dL_law_418 : decode cL_law 418 = .ok (.iload_n 3, 1) := by decide +kernel
theorem dL_law_419 : decode cL_law 419 = .ok (.iconst 1, 1) := by decide +kernel
theorem dL_law_420 : decode cL_law 420 = .ok (.iadd, 1) := by decide +kernel
theorem dL_law_421 : decode cL_law 421 = .ok (.iaload, 1) := by decide +kernel
theorem dL_law_422 : decode cL_law 422 = .ok (.aload_n 0, 1) := by decide +kernel
theorem dL_law_423 : decode cL_law 423 = .ok (.iload_n 3, 1) := by decide +kernel
theorem dL_law_424 : decode cL_law 424 = .ok (.iconst 2, 1) := by decide +kernel
theorem dL_law_425 : decode cL_law 425 = .ok (.iadd, 1) := by decide +kernel
theorem dL_law_426 : decode cL_law 426 = .ok (.iaload, 1) := by decide +kernel
theorem dL_law_427 : decode cL_law 427 = .ok (.invokevirtual 48, 3) := by decide +kernel
theorem dL_law_430 : decode cL_law 430 = .ok (.aload_n 2, 1) := by decide +kernel
theorem dL_law_431 : decode cL_law 431 = .ok (.aload_n 0, 1) := by decide +kernel
theorem dL_law_432 : decode cL_law 432 = .ok (.iload_n 3, 1) := by decide +kernel
theorem dL_law_433 : decode cL_law 433 = .ok (.iconst 1, 1) := by decide +kernel
theorem dL_law_434 : decode cL_law 434 = .ok (.iadd, 1) := by decide +kernel
theorem dL_law_435 : decode cL_law 435 = .ok (.iaload, 1) := by decide +kernel
theorem dL_law_436 : decode cL_law 436 = .ok (.aload_n 0, 1) := by decide +kernel
theorem dL_law_437 : decode cL_law 437 = .ok (.iload_n 3, 1) := by decide +kernel
theorem dL_law_438 : decode cL_law 438 = .ok (.iconst 2, 1) := by decide +kernel
theorem dL_law_439 : decode cL_law 439 = .ok (.iadd, 1) := by decide +kernel
theorem dL_law_440 : decode cL_law 440 = .ok (.iaload, 1) := by decide +kernel
theorem dL_law_441 : decode cL_law 441 = .ok (.invokevirtual 51, 3) := by decide +kernel
theorem dL_law_444 : decode cL_law 444 = .ok (.if_icmp .eq 484, 3) := by decide +kernel
theorem dL_law_447 : decode cL_law 447 = .ok (.iconst 0, 1) := by decide +kernel
theorem dL_law_448 : decode cL_law 448 = .ok (.ireturn, 1) := by decide +kernel
theorem dL_law_449 : decode cL_law 449 = .ok (.aload_n 1, 1) := by decide +kernel
theorem dL_law_450 : decode cL_law 450 = .ok (.aload_n 0, 1) := by decide +kernel
theorem dL_law_451 : decode cL_law 451 = .ok (.iload_n 3, 1) := by decide +kernel
theorem dL_law_452 : decode cL_law 452 = .ok (.iconst 1, 1) := by decide +kernel
theorem dL_law_453 : decode cL_law 453 = .ok (.iadd, 1) := by decide +kernel
theorem dL_law_454 : decode cL_law 454 = .ok (.iaload, 1) := by decide +kernel
theorem dL_law_455 : decode cL_law 455 = .ok (.aload_n 0, 1) := by decide +kernel
theorem dL_law_456 : decode cL_law 456 = .ok (.iload_n 3, 1) := by decide +kernel
theorem dL_law_457 : decode cL_law 457 = .ok (.iconst 2, 1) := by decide +kernel
theorem dL_law_458 : decode cL_law 458 = .ok (.iadd, 1) := by decide +kernel
theorem dL_law_459 : decode cL_law 459 = .ok (.iaload, 1) := by decide +kernel
theorem dL_law_460 : decode cL_law 460 = .ok (.invokevirtual 52, 3) := by decide +kernel
theorem dL_law_463 : decode cL_law 463 = .ok (.aload_n 2, 1) := by decide +kernel
theorem dL_law_464 : decode cL_law 464 = .ok (.aload_n 0, 1) := by decide +kernel
theorem dL_law_465 : decode cL_law 465 = .ok (.iload_n 3, 1) := by decide +kernel
theorem dL_law_466 : decode cL_law 466 = .ok (.iconst 1, 1) := by decide +kernel
theorem dL_law_467 : decode cL_law 467 = .ok (.iadd, 1) := by decide +kernel
theorem dL_law_468 : decode cL_law 468 = .ok (.iaload, 1) := by decide +kernel
theorem dL_law_469 : decode cL_law 469 = .ok (.aload_n 0, 1) := by decide +kernel
theorem dL_law_470 : decode cL_law 470 = .ok (.iload_n 3, 1) := by decide +kernel
theorem dL_law_471 : decode cL_law 471 = .ok (.iconst 2, 1) := by decide +kernel
theorem dL_law_472 : decode cL_law 472 = .ok (.iadd, 1) := by decide +kernel
theorem dL_law_473 : decode cL_law 473 = .ok (.iaload, 1) := by decide +kernel
theorem dL_law_474 : decode cL_law 474 = .ok (.invokevirtual 55, 3) := by decide +kernel
theorem dL_law_477 : decode cL_law 477 = .ok (.if_icmp .eq 451, 3) := by decide +kernel
theorem dL_law_480 : decode cL_law 480 = .ok (.iconst 0, 1) := by decide +kernel
theorem dL_law_481 : decode cL_law 481 = .ok (.ireturn, 1) := by decide +kernel
theorem dL_law_482 : decode cL_law 482 = .ok (.aload_n 1, 1) := by decide +kernel
theorem dL_law_483 : decode cL_law 483 = .ok (.aload_n 0, 1) := by decide +kernel
theorem dL_law_484 : decode cL_law 484 = .ok (.iload_n 3, 1) := by decide +kernel
theorem dL_law_485 : decode cL_law 485 = .ok (.iconst 1, 1) := by decide +kernel
theorem dL_law_486 : decode cL_law 486 = .ok (.iadd, 1) := by decide +kernel
theorem dL_law_487 : decode cL_law 487 = .ok (.iaload, 1) := by decide +kernel
theorem dL_law_488 : decode cL_law 488 = .ok (.invokevirtual 56, 3) := by decide +kernel
theorem dL_law_491 : decode cL_law 491 = .ok (.aload_n 2, 1) := by decide +kernel
theorem dL_law_492 : decode cL_law 492 = .ok (.aload_n 0, 1) := by decide +kernel
theorem dL_law_493 : decode cL_law 493 = .ok (.iload_n 3, 1) := by decide +kernel
theorem dL_law_494 : decode cL_law 494 = .ok (.iconst 1, 1) := by decide +kernel
theorem dL_law_495 : decode cL_law 495 = .ok (.iadd, 1) := by decide +kernel
theorem dL_law_496 : decode cL_law 496 = .ok (.iaload, 1) := by decide +kernel
theorem dL_law_497 : decode cL_law 497 = .ok (.invokevirtual 59, 3) := by decide +kernel
theorem dL_law_500 : decode cL_law 500 = .ok (.if_icmp .eq 428, 3) := by decide +kernel
theorem dL_law_503 : decode cL_law 503 = .ok (.iconst 0, 1) := by decide +kernel
theorem dL_law_504 : decode cL_law 504 = .ok (.ireturn, 1) := by decide +kernel
theorem dL_law_505 : decode cL_law 505 = .ok (.aload_n 1, 1) := by decide +kernel
theorem dL_law_506 : decode cL_law 506 = .ok (.invokevirtual 60, 3) := by decide +kernel
theorem dL_law_509 : decode cL_law 509 = .ok (.aload_n 2, 1) := by decide +kernel
theorem dL_law_510 : decode cL_law 510 = .ok (.invokevirtual 64, 3) := by decide +kernel
theorem dL_law_513 : decode cL_law 513 = .ok (.if_icmp .eq 415, 3) := by decide +kernel
theorem dL_law_516 : decode cL_law 516 = .ok (.iconst 0, 1) := by decide +kernel
theorem dL_law_517 : decode cL_law 517 = .ok (.ireturn, 1) := by decide +kernel
theorem dL_law_518 : decode cL_law 518 = .ok (.aload_n 1, 1) := by decide +kernel
theorem dL_law_519 : decode cL_law 519 = .ok (.aload_n 0, 1) := by decide +kernel
theorem dL_law_520 : decode cL_law 520 = .ok (.iload_n 3, 1) := by decide +kernel
theorem dL_law_521 : decode cL_law 521 = .ok (.iconst 1, 1) := by decide +kernel
theorem dL_law_522 : decode cL_law 522 = .ok (.iadd, 1) := by decide +kernel
theorem dL_law_523 : decode cL_law 523 = .ok (.iaload, 1) := by decide +kernel
theorem dL_law_524 : decode cL_law 524 = .ok (.aload_n 0, 1) := by decide +kernel
theorem dL_law_525 : decode cL_law 525 = .ok (.iload_n 3, 1) := by decide +kernel
theorem dL_law_526 : decode cL_law 526 = .ok (.iconst 2, 1) := by decide +kernel
theorem dL_law_527 : decode cL_law 527 = .ok (.iadd, 1) := by decide +kernel
theorem dL_law_528 : decode cL_law 528 = .ok (.iaload, 1) := by decide +kernel
theorem dL_law_529 : decode cL_law 529 = .ok (.invokevirtual 65, 3) := by decide +kernel
theorem dL_law_532 : decode cL_law 532 = .ok (.aload_n 2, 1) := by decide +kernel
theorem dL_law_533 : decode cL_law 533 = .ok (.aload_n 0, 1) := by decide +kernel
theorem dL_law_534 : decode cL_law 534 = .ok (.iload_n 3, 1) := by decide +kernel
theorem dL_law_535 : decode cL_law 535 = .ok (.iconst 1, 1) := by decide +kernel
theorem dL_law_536 : decode cL_law 536 = .ok (.iadd, 1) := by decide +kernel
theorem dL_law_537 : decode cL_law 537 = .ok (.iaload, 1) := by decide +kernel
theorem dL_law_538 : decode cL_law 538 = .ok (.aload_n 0, 1) := by decide +kernel
theorem dL_law_539 : decode cL_law 539 = .ok (.iload_n 3, 1) := by decide +kernel
theorem dL_law_540 : decode cL_law 540 = .ok (.iconst 2, 1) := by decide +kernel
theorem dL_law_541 : decode cL_law 541 = .ok (.iadd, 1) := by decide +kernel
theorem dL_law_542 : decode cL_law 542 = .ok (.iaload, 1) := by decide +kernel
theorem dL_law_543 : decode cL_law 543 = .ok (.invokevirtual 68, 3) := by decide +kernel
theorem dL_law_546 : decode cL_law 546 = .ok (.if_icmp .eq 382, 3) := by decide +kernel
theorem dL_law_549 : decode cL_law 549 = .ok (.iconst 0, 1) := by decide +kernel
theorem dL_law_550 : decode cL_law 550 = .ok (.ireturn, 1) := by decide +kernel
theorem dL_law_551 : decode cL_law 551 = .ok (.aload_n 1, 1) := by decide +kernel
theorem dL_law_552 : decode cL_law 552 = .ok (.aload_n 0, 1) := by decide +kernel
theorem dL_law_553 : decode cL_law 553 = .ok (.iload_n 3, 1) := by decide +kernel
theorem dL_law_554 : decode cL_law 554 = .ok (.iconst 1, 1) := by decide +kernel
theorem dL_law_555 : decode cL_law 555 = .ok (.iadd, 1) := by decide +kernel
theorem dL_law_556 : decode cL_law 556 = .ok (.iaload, 1) := by decide +kernel
theorem dL_law_557 : decode cL_law 557 = .ok (.aload_n 0, 1) := by decide +kernel
theorem dL_law_558 : decode cL_law 558 = .ok (.iload_n 3, 1) := by decide +kernel
theorem dL_law_559 : decode cL_law 559 = .ok (.iconst 2, 1) := by decide +kernel
theorem dL_law_560 : decode cL_law 560 = .ok (.iadd, 1) := by decide +kernel
theorem dL_law_561 : decode cL_law 561 = .ok (.iaload, 1) := by decide +kernel
theorem dL_law_562 : decode cL_law 562 = .ok (.invokevirtual 69, 3) := by decide +kernel
theorem dL_law_565 : decode cL_law 565 = .ok (.aload_n 2, 1) := by decide +kernel
theorem dL_law_566 : decode cL_law 566 = .ok (.aload_n 0, 1) := by decide +kernel
theorem dL_law_567 : decode cL_law 567 = .ok (.iload_n 3, 1) := by decide +kernel
theorem dL_law_568 : decode cL_law 568 = .ok (.iconst 1, 1) := by decide +kernel
theorem dL_law_569 : decode cL_law 569 = .ok (.iadd, 1) := by decide +kernel
theorem dL_law_570 : decode cL_law 570 = .ok (.iaload, 1) := by decide +kernel
theorem dL_law_571 : decode cL_law 571 = .ok (.aload_n 0, 1) := by decide +kernel
theorem dL_law_572 : decode cL_law 572 = .ok (.iload_n 3, 1) := by decide +kernel
theorem dL_law_573 : decode cL_law 573 = .ok (.iconst 2, 1) := by decide +kernel
theorem dL_law_574 : decode cL_law 574 = .ok (.iadd, 1) := by decide +kernel
theorem dL_law_575 : decode cL_law 575 = .ok (.iaload, 1) := by decide +kernel
theorem dL_law_576 : decode cL_law 576 = .ok (.invokevirtual 72, 3) := by decide +kernel
theorem dL_law_579 : decode cL_law 579 = .ok (.if_icmp .eq 349, 3) := by decide +kernel
theorem dL_law_582 : decode cL_law 582 = .ok (.iconst 0, 1) := by decide +kernel
theorem dL_law_583 : decode cL_law 583 = .ok (.ireturn, 1) := by decide +kernel
theorem dL_law_584 : decode cL_law 584 = .ok (.aload_n 1, 1) := by decide +kernel
theorem dL_law_585 : decode cL_law 585 = .ok (.aload_n 0, 1) := by decide +kernel
theorem dL_law_586 : decode cL_law 586 = .ok (.iload_n 3, 1) := by decide +kernel
theorem dL_law_587 : decode cL_law 587 = .ok (.iconst 1, 1) := by decide +kernel
theorem dL_law_588 : decode cL_law 588 = .ok (.iadd, 1) := by decide +kernel
theorem dL_law_589 : decode cL_law 589 = .ok (.iaload, 1) := by decide +kernel
theorem dL_law_590 : decode cL_law 590 = .ok (.invokevirtual 73, 3) := by decide +kernel
theorem dL_law_593 : decode cL_law 593 = .ok (.f2d, 1) := by decide +kernel
theorem dL_law_594 : decode cL_law 594 = .ok (.dstore 4, 2) := by decide +kernel
theorem dL_law_596 : decode cL_law 596 = .ok (.aload_n 2, 1) := by decide +kernel
theorem dL_law_597 : decode cL_law 597 = .ok (.aload_n 0, 1) := by decide +kernel
theorem dL_law_598 : decode cL_law 598 = .ok (.iload_n 3, 1) := by decide +kernel
theorem dL_law_599 : decode cL_law 599 = .ok (.iconst 1, 1) := by decide +kernel
theorem dL_law_600 : decode cL_law 600 = .ok (.iadd, 1) := by decide +kernel
theorem dL_law_601 : decode cL_law 601 = .ok (.iaload, 1) := by decide +kernel
theorem dL_law_602 : decode cL_law 602 = .ok (.invokevirtual 77, 3) := by decide +kernel
theorem dL_law_605 : decode cL_law 605 = .ok (.f2d, 1) := by decide +kernel
theorem dL_law_606 : decode cL_law 606 = .ok (.dstore 6, 2) := by decide +kernel
theorem dL_law_608 : decode cL_law 608 = .ok (.dload 4, 2) := by decide +kernel
theorem dL_law_610 : decode cL_law 610 = .ok (.dload 6, 2) := by decide +kernel
theorem dL_law_612 : decode cL_law 612 = .ok (.dcmp .l, 1) := by decide +kernel
theorem dL_law_613 : decode cL_law 613 = .ok (.ifCond .eq 21, 3) := by decide +kernel
theorem dL_law_616 : decode cL_law 616 = .ok (.dload 4, 2) := by decide +kernel
theorem dL_law_618 : decode cL_law 618 = .ok (.dload 4, 2) := by decide +kernel
theorem dL_law_620 : decode cL_law 620 = .ok (.dcmp .l, 1) := by decide +kernel
theorem dL_law_621 : decode cL_law 621 = .ok (.ifCond .eq 11, 3) := by decide +kernel
theorem dL_law_624 : decode cL_law 624 = .ok (.dload 6, 2) := by decide +kernel
theorem dL_law_626 : decode cL_law 626 = .ok (.dload 6, 2) := by decide +kernel
theorem dL_law_628 : decode cL_law 628 = .ok (.dcmp .l, 1) := by decide +kernel
theorem dL_law_629 : decode cL_law 629 = .ok (.ifCond .ne 5, 3) := by decide +kernel
theorem dL_law_632 : decode cL_law 632 = .ok (.iconst 0, 1) := by decide +kernel
theorem dL_law_633 : decode cL_law 633 = .ok (.ireturn, 1) := by decide +kernel
theorem dL_law_634 : decode cL_law 634 = .ok (.goto 294, 3) := by decide +kernel
theorem dL_law_637 : decode cL_law 637 = .ok (.aload_n 1, 1) := by decide +kernel
theorem dL_law_638 : decode cL_law 638 = .ok (.invokevirtual 78, 3) := by decide +kernel
theorem dL_law_641 : decode cL_law 641 = .ok (.dstore 4, 2) := by decide +kernel
theorem dL_law_643 : decode cL_law 643 = .ok (.aload_n 2, 1) := by decide +kernel
theorem dL_law_644 : decode cL_law 644 = .ok (.invokevirtual 82, 3) := by decide +kernel
theorem dL_law_647 : decode cL_law 647 = .ok (.dstore 6, 2) := by decide +kernel
theorem dL_law_649 : decode cL_law 649 = .ok (.dload 4, 2) := by decide +kernel
theorem dL_law_651 : decode cL_law 651 = .ok (.dload 6, 2) := by decide +kernel
theorem dL_law_653 : decode cL_law 653 = .ok (.dcmp .l, 1) := by decide +kernel
theorem dL_law_654 : decode cL_law 654 = .ok (.ifCond .eq 21, 3) := by decide +kernel
theorem dL_law_657 : decode cL_law 657 = .ok (.dload 4, 2) := by decide +kernel
theorem dL_law_659 : decode cL_law 659 = .ok (.dload 4, 2) := by decide +kernel
theorem dL_law_661 : decode cL_law 661 = .ok (.dcmp .l, 1) := by decide +kernel
theorem dL_law_662 : decode cL_law 662 = .ok (.ifCond .eq 11, 3) := by decide +kernel
theorem dL_law_665 : decode cL_law 665 = .ok (.dload 6, 2) := by decide +kernel
theorem dL_law_667 : decode cL_law 667 = .ok (.dload 6, 2) := by decide +kernel
theorem dL_law_669 : decode cL_law 669 = .ok (.dcmp .l, 1) := by decide +kernel
theorem dL_law_670 : decode cL_law 670 = .ok (.ifCond .ne 5, 3) := by decide +kernel
theorem dL_law_673 : decode cL_law 673 = .ok (.iconst 0, 1) := by decide +kernel
theorem dL_law_674 : decode cL_law 674 = .ok (.ireturn, 1) := by decide +kernel
theorem dL_law_675 : decode cL_law 675 = .ok (.goto 253, 3) := by decide +kernel
theorem dL_law_678 : decode cL_law 678 = .ok (.aload_n 1, 1) := by decide +kernel
theorem dL_law_679 : decode cL_law 679 = .ok (.aload_n 0, 1) := by decide +kernel
theorem dL_law_680 : decode cL_law 680 = .ok (.iload_n 3, 1) := by decide +kernel
theorem dL_law_681 : decode cL_law 681 = .ok (.iconst 1, 1) := by decide +kernel
theorem dL_law_682 : decode cL_law 682 = .ok (.iadd, 1) := by decide +kernel
theorem dL_law_683 : decode cL_law 683 = .ok (.iaload, 1) := by decide +kernel
theorem dL_law_684 : decode cL_law 684 = .ok (.invokevirtual 83, 3) := by decide +kernel
theorem dL_law_687 : decode cL_law 687 = .ok (.aload_n 2, 1) := by decide +kernel
theorem dL_law_688 : decode cL_law 688 = .ok (.aload_n 0, 1) := by decide +kernel
theorem dL_law_689 : decode cL_law 689 = .ok (.iload_n 3, 1) := by decide +kernel
theorem dL_law_690 : decode cL_law 690 = .ok (.iconst 1, 1) := by decide +kernel
theorem dL_law_691 : decode cL_law 691 = .ok (.iadd, 1) := by decide +kernel
theorem dL_law_692 : decode cL_law 692 = .ok (.iaload, 1) := by decide +kernel
theorem dL_law_693 : decode cL_law 693 = .ok (.invokevirtual 86, 3) := by decide +kernel
theorem dL_law_696 : decode cL_law 696 = .ok (.if_icmp .eq 232, 3) := by decide +kernel
theorem dL_law_699 : decode cL_law 699 = .ok (.iconst 0, 1) := by decide +kernel
theorem dL_law_700 : decode cL_law 700 = .ok (.ireturn, 1) := by decide +kernel
theorem dL_law_701 : decode cL_law 701 = .ok (.aload_n 1, 1) := by decide +kernel
theorem dL_law_702 : decode cL_law 702 = .ok (.aload_n 0, 1) := by decide +kernel
theorem dL_law_703 : decode cL_law 703 = .ok (.iload_n 3, 1) := by decide +kernel
theorem dL_law_704 : decode cL_law 704 = .ok (.iconst 1, 1) := by decide +kernel
theorem dL_law_705 : decode cL_law 705 = .ok (.iadd, 1) := by decide +kernel
theorem dL_law_706 : decode cL_law 706 = .ok (.iaload, 1) := by decide +kernel
theorem dL_law_707 : decode cL_law 707 = .ok (.aload_n 0, 1) := by decide +kernel
theorem dL_law_708 : decode cL_law 708 = .ok (.iload_n 3, 1) := by decide +kernel
theorem dL_law_709 : decode cL_law 709 = .ok (.iconst 2, 1) := by decide +kernel
theorem dL_law_710 : decode cL_law 710 = .ok (.iadd, 1) := by decide +kernel
theorem dL_law_711 : decode cL_law 711 = .ok (.iaload, 1) := by decide +kernel
theorem dL_law_712 : decode cL_law 712 = .ok (.aload_n 0, 1) := by decide +kernel
theorem dL_law_713 : decode cL_law 713 = .ok (.iload_n 3, 1) := by decide +kernel
theorem dL_law_714 : decode cL_law 714 = .ok (.iconst 3, 1) := by decide +kernel
theorem dL_law_715 : decode cL_law 715 = .ok (.iadd, 1) := by decide +kernel
theorem dL_law_716 : decode cL_law 716 = .ok (.iaload, 1) := by decide +kernel
theorem dL_law_717 : decode cL_law 717 = .ok (.invokevirtual 87, 3) := by decide +kernel
theorem dL_law_720 : decode cL_law 720 = .ok (.aload_n 2, 1) := by decide +kernel
theorem dL_law_721 : decode cL_law 721 = .ok (.aload_n 0, 1) := by decide +kernel
theorem dL_law_722 : decode cL_law 722 = .ok (.iload_n 3, 1) := by decide +kernel
theorem dL_law_723 : decode cL_law 723 = .ok (.iconst 1, 1) := by decide +kernel
theorem dL_law_724 : decode cL_law 724 = .ok (.iadd, 1) := by decide +kernel
theorem dL_law_725 : decode cL_law 725 = .ok (.iaload, 1) := by decide +kernel
theorem dL_law_726 : decode cL_law 726 = .ok (.aload_n 0, 1) := by decide +kernel
theorem dL_law_727 : decode cL_law 727 = .ok (.iload_n 3, 1) := by decide +kernel
theorem dL_law_728 : decode cL_law 728 = .ok (.iconst 2, 1) := by decide +kernel
theorem dL_law_729 : decode cL_law 729 = .ok (.iadd, 1) := by decide +kernel
theorem dL_law_730 : decode cL_law 730 = .ok (.iaload, 1) := by decide +kernel
theorem dL_law_731 : decode cL_law 731 = .ok (.aload_n 0, 1) := by decide +kernel
theorem dL_law_732 : decode cL_law 732 = .ok (.iload_n 3, 1) := by decide +kernel
theorem dL_law_733 : decode cL_law 733 = .ok (.iconst 3, 1) := by decide +kernel
theorem dL_law_734 : decode cL_law 734 = .ok (.iadd, 1) := by decide +kernel
theorem dL_law_735 : decode cL_law 735 = .ok (.iaload, 1) := by decide +kernel
theorem dL_law_736 : decode cL_law 736 = .ok (.invokevirtual 90, 3) := by decide +kernel
theorem dL_law_739 : decode cL_law 739 = .ok (.if_icmp .eq 189, 3) := by decide +kernel
theorem dL_law_742 : decode cL_law 742 = .ok (.iconst 0, 1) := by decide +kernel
theorem dL_law_743 : decode cL_law 743 = .ok (.ireturn, 1) := by decide +kernel
theorem dL_law_744 : decode cL_law 744 = .ok (.aload_n 1, 1) := by decide +kernel
theorem dL_law_745 : decode cL_law 745 = .ok (.aload_n 0, 1) := by decide +kernel
theorem dL_law_746 : decode cL_law 746 = .ok (.iload_n 3, 1) := by decide +kernel
theorem dL_law_747 : decode cL_law 747 = .ok (.iconst 1, 1) := by decide +kernel
theorem dL_law_748 : decode cL_law 748 = .ok (.iadd, 1) := by decide +kernel
theorem dL_law_749 : decode cL_law 749 = .ok (.iaload, 1) := by decide +kernel
theorem dL_law_750 : decode cL_law 750 = .ok (.aload_n 0, 1) := by decide +kernel
theorem dL_law_751 : decode cL_law 751 = .ok (.iload_n 3, 1) := by decide +kernel
theorem dL_law_752 : decode cL_law 752 = .ok (.iconst 2, 1) := by decide +kernel
theorem dL_law_753 : decode cL_law 753 = .ok (.iadd, 1) := by decide +kernel
theorem dL_law_754 : decode cL_law 754 = .ok (.iaload, 1) := by decide +kernel
theorem dL_law_755 : decode cL_law 755 = .ok (.aload_n 0, 1) := by decide +kernel
theorem dL_law_756 : decode cL_law 756 = .ok (.iload_n 3, 1) := by decide +kernel
theorem dL_law_757 : decode cL_law 757 = .ok (.iconst 3, 1) := by decide +kernel
theorem dL_law_758 : decode cL_law 758 = .ok (.iadd, 1) := by decide +kernel
theorem dL_law_759 : decode cL_law 759 = .ok (.iaload, 1) := by decide +kernel
theorem dL_law_760 : decode cL_law 760 = .ok (.invokevirtual 91, 3) := by decide +kernel
theorem dL_law_763 : decode cL_law 763 = .ok (.aload_n 2, 1) := by decide +kernel
theorem dL_law_764 : decode cL_law 764 = .ok (.aload_n 0, 1) := by decide +kernel
theorem dL_law_765 : decode cL_law 765 = .ok (.iload_n 3, 1) := by decide +kernel
theorem dL_law_766 : decode cL_law 766 = .ok (.iconst 1, 1) := by decide +kernel
theorem dL_law_767 : decode cL_law 767 = .ok (.iadd, 1) := by decide +kernel
theorem dL_law_768 : decode cL_law 768 = .ok (.iaload, 1) := by decide +kernel
theorem dL_law_769 : decode cL_law 769 = .ok (.aload_n 0, 1) := by decide +kernel
theorem dL_law_770 : decode cL_law 770 = .ok (.iload_n 3, 1) := by decide +kernel
theorem dL_law_771 : decode cL_law 771 = .ok (.iconst 2, 1) := by decide +kernel
theorem dL_law_772 : decode cL_law 772 = .ok (.iadd, 1) := by decide +kernel
theorem dL_law_773 : decode cL_law 773 = .ok (.iaload, 1) := by decide +kernel
theorem dL_law_774 : decode cL_law 774 = .ok (.aload_n 0, 1) := by decide +kernel
theorem dL_law_775 : decode cL_law 775 = .ok (.iload_n 3, 1) := by decide +kernel
theorem dL_law_776 : decode cL_law 776 = .ok (.iconst 3, 1) := by decide +kernel
theorem dL_law_777 : decode cL_law 777 = .ok (.iadd, 1) := by decide +kernel
theorem dL_law_778 : decode cL_law 778 = .ok (.iaload, 1) := by decide +kernel
theorem dL_law_779 : decode cL_law 779 = .ok (.invokevirtual 94, 3) := by decide +kernel
theorem dL_law_782 : decode cL_law 782 = .ok (.if_icmp .eq 146, 3) := by decide +kernel
theorem dL_law_785 : decode cL_law 785 = .ok (.iconst 0, 1) := by decide +kernel
theorem dL_law_786 : decode cL_law 786 = .ok (.ireturn, 1) := by decide +kernel
theorem dL_law_787 : decode cL_law 787 = .ok (.aload_n 1, 1) := by decide +kernel
theorem dL_law_788 : decode cL_law 788 = .ok (.aload_n 0, 1) := by decide +kernel
theorem dL_law_789 : decode cL_law 789 = .ok (.iload_n 3, 1) := by decide +kernel
theorem dL_law_790 : decode cL_law 790 = .ok (.iconst 1, 1) := by decide +kernel
theorem dL_law_791 : decode cL_law 791 = .ok (.iadd, 1) := by decide +kernel
theorem dL_law_792 : decode cL_law 792 = .ok (.iaload, 1) := by decide +kernel
theorem dL_law_793 : decode cL_law 793 = .ok (.invokevirtual 95, 3) := by decide +kernel
theorem dL_law_796 : decode cL_law 796 = .ok (.aload_n 2, 1) := by decide +kernel
theorem dL_law_797 : decode cL_law 797 = .ok (.aload_n 0, 1) := by decide +kernel
theorem dL_law_798 : decode cL_law 798 = .ok (.iload_n 3, 1) := by decide +kernel
theorem dL_law_799 : decode cL_law 799 = .ok (.iconst 1, 1) := by decide +kernel
theorem dL_law_800 : decode cL_law 800 = .ok (.iadd, 1) := by decide +kernel
theorem dL_law_801 : decode cL_law 801 = .ok (.iaload, 1) := by decide +kernel
theorem dL_law_802 : decode cL_law 802 = .ok (.invokevirtual 98, 3) := by decide +kernel
theorem dL_law_805 : decode cL_law 805 = .ok (.if_icmp .eq 123, 3) := by decide +kernel
theorem dL_law_808 : decode cL_law 808 = .ok (.iconst 0, 1) := by decide +kernel
theorem dL_law_809 : decode cL_law 809 = .ok (.ireturn, 1) := by decide +kernel
theorem dL_law_810 : decode cL_law 810 = .ok (.aload_n 1, 1) := by decide +kernel
theorem dL_law_811 : decode cL_law 811 = .ok (.aload_n 0, 1) := by decide +kernel
theorem dL_law_812 : decode cL_law 812 = .ok (.iload_n 3, 1) := by decide +kernel
theorem dL_law_813 : decode cL_law 813 = .ok (.iconst 1, 1) := by decide +kernel
theorem dL_law_814 : decode cL_law 814 = .ok (.iadd, 1) := by decide +kernel
theorem dL_law_815 : decode cL_law 815 = .ok (.iaload, 1) := by decide +kernel
theorem dL_law_816 : decode cL_law 816 = .ok (.invokevirtual 99, 3) := by decide +kernel
theorem dL_law_819 : decode cL_law 819 = .ok (.aload_n 2, 1) := by decide +kernel
theorem dL_law_820 : decode cL_law 820 = .ok (.aload_n 0, 1) := by decide +kernel
theorem dL_law_821 : decode cL_law 821 = .ok (.iload_n 3, 1) := by decide +kernel
theorem dL_law_822 : decode cL_law 822 = .ok (.iconst 1, 1) := by decide +kernel
theorem dL_law_823 : decode cL_law 823 = .ok (.iadd, 1) := by decide +kernel
theorem dL_law_824 : decode cL_law 824 = .ok (.iaload, 1) := by decide +kernel
theorem dL_law_825 : decode cL_law 825 = .ok (.invokevirtual 102, 3) := by decide +kernel
theorem dL_law_828 : decode cL_law 828 = .ok (.if_icmp .eq 100, 3) := by decide +kernel
theorem dL_law_831 : decode cL_law 831 = .ok (.iconst 0, 1) := by decide +kernel
theorem dL_law_832 : decode cL_law 832 = .ok (.ireturn, 1) := by decide +kernel
theorem dL_law_833 : decode cL_law 833 = .ok (.aload_n 1, 1) := by decide +kernel
theorem dL_law_834 : decode cL_law 834 = .ok (.invokevirtual 103, 3) := by decide +kernel
theorem dL_law_837 : decode cL_law 837 = .ok (.aload_n 2, 1) := by decide +kernel
theorem dL_law_838 : decode cL_law 838 = .ok (.invokevirtual 106, 3) := by decide +kernel
theorem dL_law_841 : decode cL_law 841 = .ok (.if_icmp .eq 87, 3) := by decide +kernel
theorem dL_law_844 : decode cL_law 844 = .ok (.iconst 0, 1) := by decide +kernel
theorem dL_law_845 : decode cL_law 845 = .ok (.ireturn, 1) := by decide +kernel
theorem dL_law_846 : decode cL_law 846 = .ok (.aload_n 1, 1) := by decide +kernel
theorem dL_law_847 : decode cL_law 847 = .ok (.invokevirtual 107, 3) := by decide +kernel
theorem dL_law_850 : decode cL_law 850 = .ok (.aload_n 2, 1) := by decide +kernel
theorem dL_law_851 : decode cL_law 851 = .ok (.invokevirtual 110, 3) := by decide +kernel
theorem dL_law_854 : decode cL_law 854 = .ok (.if_icmp .eq 74, 3) := by decide +kernel
theorem dL_law_857 : decode cL_law 857 = .ok (.iconst 0, 1) := by decide +kernel
theorem dL_law_858 : decode cL_law 858 = .ok (.ireturn, 1) := by decide +kernel
theorem dL_law_859 : decode cL_law 859 = .ok (.aload_n 1, 1) := by decide +kernel
theorem dL_law_860 : decode cL_law 860 = .ok (.aload_n 0, 1) := by decide +kernel
theorem dL_law_861 : decode cL_law 861 = .ok (.iload_n 3, 1) := by decide +kernel
theorem dL_law_862 : decode cL_law 862 = .ok (.iconst 1, 1) := by decide +kernel
theorem dL_law_863 : decode cL_law 863 = .ok (.iadd, 1) := by decide +kernel
theorem dL_law_864 : decode cL_law 864 = .ok (.iaload, 1) := by decide +kernel
theorem dL_law_865 : decode cL_law 865 = .ok (.invokevirtual 111, 3) := by decide +kernel
theorem dL_law_868 : decode cL_law 868 = .ok (.aload_n 2, 1) := by decide +kernel
theorem dL_law_869 : decode cL_law 869 = .ok (.aload_n 0, 1) := by decide +kernel
theorem dL_law_870 : decode cL_law 870 = .ok (.iload_n 3, 1) := by decide +kernel
theorem dL_law_871 : decode cL_law 871 = .ok (.iconst 1, 1) := by decide +kernel
theorem dL_law_872 : decode cL_law 872 = .ok (.iadd, 1) := by decide +kernel
theorem dL_law_873 : decode cL_law 873 = .ok (.iaload, 1) := by decide +kernel
theorem dL_law_874 : decode cL_law 874 = .ok (.invokevirtual 114, 3) := by decide +kernel
theorem dL_law_877 : decode cL_law 877 = .ok (.if_icmp .eq 51, 3) := by decide +kernel
theorem dL_law_880 : decode cL_law 880 = .ok (.iconst 0, 1) := by decide +kernel
theorem dL_law_881 : decode cL_law 881 = .ok (.ireturn, 1) := by decide +kernel
theorem dL_law_882 : decode cL_law 882 = .ok (.aload_n 1, 1) := by decide +kernel
theorem dL_law_883 : decode cL_law 883 = .ok (.aload_n 0, 1) := by decide +kernel
theorem dL_law_884 : decode cL_law 884 = .ok (.iload_n 3, 1) := by decide +kernel
theorem dL_law_885 : decode cL_law 885 = .ok (.iconst 1, 1) := by decide +kernel
theorem dL_law_886 : decode cL_law 886 = .ok (.iadd, 1) := by decide +kernel
theorem dL_law_887 : decode cL_law 887 = .ok (.iaload, 1) := by decide +kernel
theorem dL_law_888 : decode cL_law 888 = .ok (.invokevirtual 115, 3) := by decide +kernel
theorem dL_law_891 : decode cL_law 891 = .ok (.aload_n 2, 1) := by decide +kernel
theorem dL_law_892 : decode cL_law 892 = .ok (.aload_n 0, 1) := by decide +kernel
theorem dL_law_893 : decode cL_law 893 = .ok (.iload_n 3, 1) := by decide +kernel
theorem dL_law_894 : decode cL_law 894 = .ok (.iconst 1, 1) := by decide +kernel
theorem dL_law_895 : decode cL_law 895 = .ok (.iadd, 1) := by decide +kernel
theorem dL_law_896 : decode cL_law 896 = .ok (.iaload, 1) := by decide +kernel
theorem dL_law_897 : decode cL_law 897 = .ok (.invokevirtual 118, 3) := by decide +kernel
theorem dL_law_900 : decode cL_law 900 = .ok (.if_icmp .eq 28, 3) := by decide +kernel
theorem dL_law_903 : decode cL_law 903 = .ok (.iconst 0, 1) := by decide +kernel
theorem dL_law_904 : decode cL_law 904 = .ok (.ireturn, 1) := by decide +kernel
theorem dL_law_905 : decode cL_law 905 = .ok (.aload_n 1, 1) := by decide +kernel
theorem dL_law_906 : decode cL_law 906 = .ok (.aload_n 0, 1) := by decide +kernel
theorem dL_law_907 : decode cL_law 907 = .ok (.iload_n 3, 1) := by decide +kernel
theorem dL_law_908 : decode cL_law 908 = .ok (.iconst 1, 1) := by decide +kernel
theorem dL_law_909 : decode cL_law 909 = .ok (.iadd, 1) := by decide +kernel
theorem dL_law_910 : decode cL_law 910 = .ok (.iaload, 1) := by decide +kernel
theorem dL_law_911 : decode cL_law 911 = .ok (.invokevirtual 119, 3) := by decide +kernel
theorem dL_law_914 : decode cL_law 914 = .ok (.aload_n 2, 1) := by decide +kernel
theorem dL_law_915 : decode cL_law 915 = .ok (.aload_n 0, 1) := by decide +kernel
theorem dL_law_916 : decode cL_law 916 = .ok (.iload_n 3, 1) := by decide +kernel
theorem dL_law_917 : decode cL_law 917 = .ok (.iconst 1, 1) := by decide +kernel
theorem dL_law_918 : decode cL_law 918 = .ok (.iadd, 1) := by decide +kernel
theorem dL_law_919 : decode cL_law 919 = .ok (.iaload, 1) := by decide +kernel
theorem dL_law_920 : decode cL_law 920 = .ok (.invokevirtual 122, 3) := by decide +kernel
theorem dL_law_923 : decode cL_law 923 = .ok (.if_icmp .eq 5, 3) := by decide +kernel
theorem dL_law_926 : decode cL_law 926 = .ok (.iconst 0, 1) := by decide +kernel
theorem dL_law_927 : decode cL_law 927 = .ok (.ireturn, 1) := by decide +kernel
theorem dL_law_928 : decode cL_law 928 = .ok (.iinc 3 4, 3) := by decide +kernel
theorem dL_law_931 : decode cL_law 931 = .ok (.goto (-913), 3) := by decide +kernel
theorem dL_law_934 : decode cL_law 934 = .ok (.iconst 1, 1) := by decide +kernel
theorem dL_law_935 : decode cL_law 935 = .ok (.ireturn, 1) := by decide +kernel
