theorem dL_comesTrue_92 : decode cL_comesTrue 92 = .ok (.bipush (-6), 2) := by decide +kernel
theorem dL_comesTrue_94 : decode cL_comesTrue 94 = .ok (.istore 14, 2) := by decide +kernel
theorem dL_comesTrue_96 : decode cL_comesTrue 96 = .ok (.iconst 0, 1) := by decide +kernel
theorem dL_comesTrue_97 : decode cL_comesTrue 97 = .ok (.istore 15, 2) := by decide +kernel
theorem dL_comesTrue_99 : decode cL_comesTrue 99 = .ok (.iload 15, 2) := by decide +kernel
theorem dL_comesTrue_101 : decode cL_comesTrue 101 = .ok (.iload_n 2, 1) := by decide +kernel
theorem dL_comesTrue_102 : decode cL_comesTrue 102 = .ok (.if_icmp .ge 119, 3) := by decide +kernel
theorem dL_comesTrue_105 : decode cL_comesTrue 105 = .ok (.aload_n 0, 1) := by decide +kernel
theorem dL_comesTrue_106 : decode cL_comesTrue 106 = .ok (.iload_n 3, 1) := by decide +kernel
theorem dL_comesTrue_107 : decode cL_comesTrue 107 = .ok (.iconst 4, 1) := by decide +kernel
theorem dL_comesTrue_108 : decode cL_comesTrue 108 = .ok (.invokevirtual 84, 3) := by decide +kernel
theorem dL_comesTrue_111 : decode cL_comesTrue 111 = .ok (.istore 16, 2) := by decide +kernel
theorem dL_comesTrue_113 : decode cL_comesTrue 113 = .ok (.aload_n 0, 1) := by decide +kernel
theorem dL_comesTrue_114 : decode cL_comesTrue 114 = .ok (.iconst 1, 1) := by decide +kernel
theorem dL_comesTrue_115 : decode cL_comesTrue 115 = .ok (.invokevirtual 87, 3) := by decide +kernel
theorem dL_comesTrue_118 : decode cL_comesTrue 118 = .ok (.pop, 1) := by decide +kernel
theorem dL_comesTrue_119 : decode cL_comesTrue 119 = .ok (.iload 14, 2) := by decide +kernel
theorem dL_comesTrue_121 : decode cL_comesTrue 121 = .ok (.ifCond .ge 19, 3) := by decide +kernel
theorem dL_comesTrue_124 : decode cL_comesTrue 124 = .ok (.aload_n 0, 1) := by decide +kernel
theorem dL_comesTrue_125 : decode cL_comesTrue 125 = .ok (.iload_n 3, 1) := by decide +kernel
theorem dL_comesTrue_126 : decode cL_comesTrue 126 = .ok (.iconst 4, 1) := by decide +kernel
theorem dL_comesTrue_127 : decode cL_comesTrue 127 = .ok (.invokevirtual 84, 3) := by decide +kernel
theorem dL_comesTrue_130 : decode cL_comesTrue 130 = .ok (.iload 16, 2) := by decide +kernel
theorem dL_comesTrue_132 : decode cL_comesTrue 132 = .ok (.if_icmp .le 8, 3) := by decide +kernel
theorem dL_comesTrue_135 : decode cL_comesTrue 135 = .ok (.iload 15, 2) := by decide +kernel
theorem dL_comesTrue_137 : decode cL_comesTrue 137 = .ok (.goto 5, 3) := by decide +kernel
theorem dL_comesTrue_140 : decode cL_comesTrue 140 = .ok (.iload 14, 2) := by decide +kernel
theorem dL_comesTrue_142 : decode cL_comesTrue 142 = .ok (.istore 14, 2) := by decide +kernel
theorem dL_comesTrue_144 : decode cL_comesTrue 144 = .ok (.aload_n 0, 1) := by decide +kernel
theorem dL_comesTrue_145 : decode cL_comesTrue 145 = .ok (.iload_n 3, 1) := by decide +kernel
theorem dL_comesTrue_146 : decode cL_comesTrue 146 = .ok (.iconst 3, 1) := by decide +kernel
theorem dL_comesTrue_147 : decode cL_comesTrue 147 = .ok (.invokevirtual 84, 3) := by decide +kernel
theorem dL_comesTrue_150 : decode cL_comesTrue 150 = .ok (.iload 13, 2) := by decide +kernel
theorem dL_comesTrue_152 : decode cL_comesTrue 152 = .ok (.if_icmp .le 12, 3) := by decide +kernel
theorem dL_comesTrue_155 : decode cL_comesTrue 155 = .ok (.aload_n 0, 1) := by decide +kernel
theorem dL_comesTrue_156 : decode cL_comesTrue 156 = .ok (.iload_n 3, 1) := by decide +kernel
theorem dL_comesTrue_157 : decode cL_comesTrue 157 = .ok (.iconst 3, 1) := by decide +kernel
theorem dL_comesTrue_158 : decode cL_comesTrue 158 = .ok (.invokevirtual 84, 3) := by decide +kernel
theorem dL_comesTrue_161 : decode cL_comesTrue 161 = .ok (.goto 5, 3) := by decide +kernel
theorem dL_comesTrue_164 : decode cL_comesTrue 164 = .ok (.iload 13, 2) := by decide +kernel
theorem dL_comesTrue_166 : decode cL_comesTrue 166 = .ok (.istore 13, 2) := by decide +kernel
theorem dL_comesTrue_168 : decode cL_comesTrue 168 = .ok (.iconst 0, 1) := by decide +kernel
theorem dL_comesTrue_169 : decode cL_comesTrue 169 = .ok (.istore 17, 2) := by decide +kernel
theorem dL_comesTrue_171 : decode cL_comesTrue 171 = .ok (.iload 17, 2) := by decide +kernel
theorem dL_comesTrue_173 : decode cL_comesTrue 173 = .ok (.aload_n 0, 1) := by decide +kernel
theorem dL_comesTrue_174 : decode cL_comesTrue 174 = .ok (.iconst 1, 1) := by decide +kernel
theorem dL_comesTrue_175 : decode cL_comesTrue 175 = .ok (.invokevirtual 63, 3) := by decide +kernel
theorem dL_comesTrue_178 : decode cL_comesTrue 178 = .ok (.if_icmp .ge 37, 3) := by decide +kernel
theorem dL_comesTrue_181 : decode cL_comesTrue 181 = .ok (.aload_n 0, 1) := by decide +kernel
theorem dL_comesTrue_182 : decode cL_comesTrue 182 = .ok (.iload 17, 2) := by decide +kernel
theorem dL_comesTrue_184 : decode cL_comesTrue 184 = .ok (.bipush 9, 2) := by decide +kernel
theorem dL_comesTrue_186 : decode cL_comesTrue 186 = .ok (.invokevirtual 75, 3) := by decide +kernel
theorem dL_comesTrue_189 : decode cL_comesTrue 189 = .ok (.iload 12, 2) := by decide +kernel
theorem dL_comesTrue_191 : decode cL_comesTrue 191 = .ok (.if_icmp .le 14, 3) := by decide +kernel
theorem dL_comesTrue_194 : decode cL_comesTrue 194 = .ok (.aload_n 0, 1) := by decide +kernel
theorem dL_comesTrue_195 : decode cL_comesTrue 195 = .ok (.iload 17, 2) := by decide +kernel
theorem dL_comesTrue_197 : decode cL_comesTrue 197 = .ok (.bipush 9, 2) := by decide +kernel
theorem dL_comesTrue_199 : decode cL_comesTrue 199 = .ok (.invokevirtual 75, 3) := by decide +kernel
theorem dL_comesTrue_202 : decode cL_comesTrue 202 = .ok (.goto 5, 3) := by decide +kernel
theorem dL_comesTrue_205 : decode cL_comesTrue 205 = .ok (.iload 12, 2) := by decide +kernel
theorem dL_comesTrue_207 : decode cL_comesTrue 207 = .ok (.istore 12, 2) := by decide +kernel
theorem dL_comesTrue_209 : decode cL_comesTrue 209 = .ok (.iinc 17 1, 3) := by decide +kernel
theorem dL_comesTrue_212 : decode cL_comesTrue 212 = .ok (.goto (-41), 3) := by decide +kernel
theorem dL_comesTrue_215 : decode cL_comesTrue 215 = .ok (.iinc 15 1, 3) := by decide +kernel
theorem dL_comesTrue_218 : decode cL_comesTrue 218 = .ok (.goto (-119), 3) := by decide +kernel
theorem dL_comesTrue_221 : decode cL_comesTrue 221 = .ok (.aload_n 0, 1) := by decide +kernel
theorem dL_comesTrue_222 : decode cL_comesTrue 222 = .ok (.iload_n 3, 1) := by decide +kernel
theorem dL_comesTrue_223 : decode cL_comesTrue 223 = .ok (.iconst 4, 1) := by decide +kernel
theorem dL_comesTrue_224 : decode cL_comesTrue 224 = .ok (.invokevirtual 84, 3) := by decide +kernel
theorem dL_comesTrue_227 : decode cL_comesTrue 227 = .ok (.iload 10, 2) := by decide +kernel
theorem dL_comesTrue_229 : decode cL_comesTrue 229 = .ok (.isub, 1) := by decide +kernel
theorem dL_comesTrue_230 : decode cL_comesTrue 230 = .ok (.iload 5, 2) := by decide +kernel
theorem dL_comesTrue_232 : decode cL_comesTrue 232 = .ok (.if_icmp .ne 76, 3) := by decide +kernel
theorem dL_comesTrue_235 : decode cL_comesTrue 235 = .ok (.aload_n 0, 1) := by decide +kernel
theorem dL_comesTrue_236 : decode cL_comesTrue 236 = .ok (.bipush 7, 2) := by decide +kernel
theorem dL_comesTrue_238 : decode cL_comesTrue 238 = .ok (.invokevirtual 63, 3) := by decide +kernel
theorem dL_comesTrue_241 : decode cL_comesTrue 241 = .ok (.iload 11, 2) := by decide +kernel
theorem dL_comesTrue_243 : decode cL_comesTrue 243 = .ok (.isub, 1) := by decide +kernel
theorem dL_comesTrue_244 : decode cL_comesTrue 244 = .ok (.iload 7, 2) := by decide +kernel
theorem dL_comesTrue_246 : decode cL_comesTrue 246 = .ok (.if_icmp .ne 62, 3) := by decide +kernel
theorem dL_comesTrue_249 : decode cL_comesTrue 249 = .ok (.iload 14, 2) := by decide +kernel
theorem dL_comesTrue_251 : decode cL_comesTrue 251 = .ok (.iload 6, 2) := by decide +kernel
theorem dL_comesTrue_253 : decode cL_comesTrue 253 = .ok (.if_icmp .ne 55, 3) := by decide +kernel
theorem dL_comesTrue_256 : decode cL_comesTrue 256 = .ok (.iload 13, 2) := by decide +kernel
theorem dL_comesTrue_258 : decode cL_comesTrue 258 = .ok (.iload 4, 2) := by decide +kernel
theorem dL_comesTrue_260 : decode cL_comesTrue 260 = .ok (.if_icmp .ne 48, 3) := by decide +kernel
theorem dL_comesTrue_263 : decode cL_comesTrue 263 = .ok (.iload 12, 2) := by decide +kernel
theorem dL_comesTrue_265 : decode cL_comesTrue 265 = .ok (.iload 8, 2) := by decide +kernel
theorem dL_comesTrue_267 : decode cL_comesTrue 267 = .ok (.if_icmp .ne 41, 3) := by decide +kernel
theorem dL_comesTrue_270 : decode cL_comesTrue 270 = .ok (.aload_n 0, 1) := by decide +kernel
theorem dL_comesTrue_271 : decode cL_comesTrue 271 = .ok (.iconst 0, 1) := by decide +kernel
theorem dL_comesTrue_272 : decode cL_comesTrue 272 = .ok (.invokevirtual 63, 3) := by decide +kernel
theorem dL_comesTrue_275 : decode cL_comesTrue 275 = .ok (.iload 9, 2) := by decide +kernel
theorem dL_comesTrue_277 : decode cL_comesTrue 277 = .ok (.iload_n 2, 1) := by decide +kernel
theorem dL_comesTrue_278 : decode cL_comesTrue 278 = .ok (.iadd, 1) := by decide +kernel
theorem dL_comesTrue_279 : decode cL_comesTrue 279 = .ok (.if_icmp .ne 29, 3) := by decide +kernel
theorem dL_comesTrue_282 : decode cL_comesTrue 282 = .ok (.aload_n 0, 1) := by decide +kernel
theorem dL_comesTrue_283 : decode cL_comesTrue 283 = .ok (.iconst 0, 1) := by decide +kernel
theorem dL_comesTrue_284 : decode cL_comesTrue 284 = .ok (.invokevirtual 102, 3) := by decide +kernel
theorem dL_comesTrue_287 : decode cL_comesTrue 287 = .ok (.iload 9, 2) := by decide +kernel
theorem dL_comesTrue_289 : decode cL_comesTrue 289 = .ok (.if_icmp .ne 19, 3) := by decide +kernel
theorem dL_comesTrue_292 : decode cL_comesTrue 292 = .ok (.aload_n 0, 1) := by decide +kernel
theorem dL_comesTrue_293 : decode cL_comesTrue 293 = .ok (.iload_n 2, 1) := by decide +kernel
theorem dL_comesTrue_294 : decode cL_comesTrue 294 = .ok (.iload_n 3, 1) := by decide +kernel
theorem dL_comesTrue_295 : decode cL_comesTrue 295 = .ok (.iconst 0, 1) := by decide +kernel
theorem dL_comesTrue_296 : decode cL_comesTrue 296 = .ok (.invokevirtual 96, 3) := by decide +kernel
theorem dL_comesTrue_299 : decode cL_comesTrue 299 = .ok (.iload 4, 2) := by decide +kernel
theorem dL_comesTrue_301 : decode cL_comesTrue 301 = .ok (.if_icmp .ne 7, 3) := by decide +kernel
theorem dL_comesTrue_304 : decode cL_comesTrue 304 = .ok (.iconst 1, 1) := by decide +kernel
theorem dL_comesTrue_305 : decode cL_comesTrue 305 = .ok (.goto 4, 3) := by decide +kernel
theorem dL_comesTrue_308 : decode cL_comesTrue 308 = .ok (.iconst 0, 1) := by decide +kernel
theorem dL_comesTrue_309 : decode cL_comesTrue 309 = .ok (.ireturn, 1) := by decide +kernel
theorem dL_delayed_0 : decode cL_delayed 0 = .ok (.aload_n 0, 1) := by decide +kernel
theorem dL_delayed_1 : decode cL_delayed 1 = .ok (.iconst 2, 1) := by decide +kernel
theorem dL_delayed_2 : decode cL_delayed 2 = .ok (.invokevirtual 63, 3) := by decide +kernel
theorem dL_delayed_5 : decode cL_delayed 5 = .ok (.ifCond .ne 20, 3) := by decide +kernel
theorem dL_delayed_8 : decode cL_delayed 8 = .ok (.aload_n 0, 1) := by decide +kernel
theorem dL_delayed_9 : decode cL_delayed 9 = .ok (.iconst 0, 1) := by decide +kernel
theorem dL_delayed_10 : decode cL_delayed 10 = .ok (.iconst 1, 1) := by decide +kernel
theorem dL_delayed_11 : decode cL_delayed 11 = .ok (.iconst 1, 1) := by decide +kernel
theorem dL_delayed_12 : decode cL_delayed 12 = .ok (.invokevirtual 105, 3) := by decide +kernel
theorem dL_delayed_15 : decode cL_delayed 15 = .ok (.iconst (-1), 1) := by decide +kernel
theorem dL_delayed_16 : decode cL_delayed 16 = .ok (.if_icmp .ne 7, 3) := by decide +kernel
theorem dL_delayed_19 : decode cL_delayed 19 = .ok (.iconst 1, 1) := by decide +kernel
theorem dL_delayed_20 : decode cL_delayed 20 = .ok (.goto 4, 3) := by decide +kernel
theorem dL_delayed_23 : decode cL_delayed 23 = .ok (.iconst 0, 1) := by decide +kernel
theorem dL_delayed_24 : decode cL_delayed 24 = .ok (.ireturn, 1) := by decide +kernel
theorem dL_delayed_25 : decode cL_delayed 25 = .ok (.iload_n 1, 1) := by decide +kernel
theorem dL_delayed_26 : decode cL_delayed 26 = .ok (.aload_n 0, 1) := by decide +kernel
theorem dL_delayed_27 : decode cL_delayed 27 = .ok (.iconst 2, 1) := by decide +kernel
theorem dL_delayed_28 : decode cL_delayed 28 = .ok (.invokevirtual 63, 3) := by decide +kernel
theorem dL_delayed_31 : decode cL_delayed 31 = .ok (.invokestatic 22, 3) := by decide +kernel
theorem dL_delayed_34 : decode cL_delayed 34 = .ok (.istore_n 2, 1) := by decide +kernel
theorem dL_delayed_35 : decode cL_delayed 35 = .ok (.iconst 1, 1) := by decide +kernel
theorem dL_delayed_36 : decode cL_delayed 36 = .ok (.iload_n 1, 1) := by decide +kernel
theorem dL_delayed_37 : decode cL_delayed 37 = .ok (.iconst 5, 1) := by decide +kernel
theorem dL_delayed_38 : decode cL_delayed 38 = .ok (.ishr, 1) := by decide +kernel
theorem dL_delayed_39 : decode cL_delayed 39 = .ok (.bipush 30, 2) := by decide +kernel
theorem dL_delayed_41 : decode cL_delayed 41 = .ok (.invokestatic 22, 3) := by decide +kernel
theorem dL_delayed_44 : decode cL_delayed 44 = .ok (.iadd, 1) := by decide +kernel
theorem dL_delayed_45 : decode cL_delayed 45 = .ok (.istore_n 3, 1) := by decide +kernel
theorem dL_delayed_46 : decode cL_delayed 46 = .ok (.aload_n 0, 1) := by decide +kernel
theorem dL_delayed_47 : decode cL_delayed 47 = .ok (.iload_n 2, 1) := by decide +kernel
theorem dL_delayed_48 : decode cL_delayed 48 = .ok (.bipush 12, 2) := by decide +kernel
theorem dL_delayed_50 : decode cL_delayed 50 = .ok (.iload_n 3, 1) := by decide +kernel
theorem dL_delayed_51 : decode cL_delayed 51 = .ok (.invokevirtual 105, 3) := by decide +kernel
theorem dL_delayed_54 : decode cL_delayed 54 = .ok (.istore 4, 2) := by decide +kernel
theorem dL_delayed_56 : decode cL_delayed 56 = .ok (.iload 4, 2) := by decide +kernel
theorem dL_delayed_58 : decode cL_delayed 58 = .ok (.ifCond .ge 8, 3) := by decide +kernel
theorem dL_delayed_61 : decode cL_delayed 61 = .ok (.bipush 13, 2) := by decide +kernel
theorem dL_delayed_63 : decode cL_delayed 63 = .ok (.goto 5, 3) := by decide +kernel
theorem dL_delayed_66 : decode cL_delayed 66 = .ok (.iload 4, 2) := by decide +kernel
theorem dL_delayed_68 : decode cL_delayed 68 = .ok (.istore 5, 2) := by decide +kernel
theorem dL_delayed_70 : decode cL_delayed 70 = .ok (.iload 4, 2) := by decide +kernel
theorem dL_delayed_72 : decode cL_delayed 72 = .ok (.bipush (-6), 2) := by decide +kernel
theorem dL_delayed_74 : decode cL_delayed 74 = .ok (.if_icmp .lt 22, 3) := by decide +kernel
theorem dL_delayed_77 : decode cL_delayed 77 = .ok (.iload 4, 2) := by decide +kernel
theorem dL_delayed_79 : decode cL_delayed 79 = .ok (.bipush 12, 2) := by decide +kernel
theorem dL_delayed_81 : decode cL_delayed 81 = .ok (.if_icmp .gt 15, 3) := by decide +kernel
theorem dL_delayed_84 : decode cL_delayed 84 = .ok (.iload 4, 2) := by decide +kernel
theorem dL_delayed_86 : decode cL_delayed 86 = .ok (.ifCond .ge 12, 3) := by decide +kernel
theorem dL_delayed_89 : decode cL_delayed 89 = .ok (.iload 4, 2) := by decide +kernel
theorem dL_delayed_91 : decode cL_delayed 91 = .ok (.bipush (-6), 2) := by decide +kernel
theorem dL_delayed_93 : decode cL_delayed 93 = .ok (.if_icmp .eq 5, 3) := by decide +kernel
theorem dL_delayed_96 : decode cL_delayed 96 = .ok (.iconst 0, 1) := by decide +kernel
theorem dL_delayed_97 : decode cL_delayed 97 = .ok (.ireturn, 1) := by decide +kernel
theorem dL_delayed_98 : decode cL_delayed 98 = .ok (.iconst 0, 1) := by decide +kernel
theorem dL_delayed_99 : decode cL_delayed 99 = .ok (.istore 6, 2) := by decide +kernel
theorem dL_delayed_101 : decode cL_delayed 101 = .ok (.iload 6, 2) := by decide +kernel
theorem dL_delayed_103 : decode cL_delayed 103 = .ok (.iload 5, 2) := by decide +kernel
theorem dL_delayed_105 : decode cL_delayed 105 = .ok (.if_icmp .gt 105, 3) := by decide +kernel
theorem dL_delayed_108 : decode cL_delayed 108 = .ok (.iload 6, 2) := by decide +kernel
theorem dL_delayed_110 : decode cL_delayed 110 = .ok (.bipush 13, 2) := by decide +kernel
theorem dL_delayed_112 : decode cL_delayed 112 = .ok (.if_icmp .ge 98, 3) := by decide +kernel
theorem dL_delayed_115 : decode cL_delayed 115 = .ok (.aload_n 0, 1) := by decide +kernel
theorem dL_delayed_116 : decode cL_delayed 116 = .ok (.iconst 1, 1) := by decide +kernel
theorem dL_delayed_117 : decode cL_delayed 117 = .ok (.invokevirtual 99, 3) := by decide +kernel
theorem dL_delayed_120 : decode cL_delayed 120 = .ok (.istore 7, 2) := by decide +kernel
theorem dL_delayed_122 : decode cL_delayed 122 = .ok (.aload_n 0, 1) := by decide +kernel
theorem dL_delayed_123 : decode cL_delayed 123 = .ok (.iload_n 2, 1) := by decide +kernel
theorem dL_delayed_124 : decode cL_delayed 124 = .ok (.iload 6, 2) := by decide +kernel
theorem dL_delayed_126 : decode cL_delayed 126 = .ok (.invokevirtual 81, 3) := by decide +kernel
theorem dL_delayed_129 : decode cL_delayed 129 = .ok (.istore 8, 2) := by decide +kernel
theorem dL_delayed_131 : decode cL_delayed 131 = .ok (.iconst 0, 1) := by decide +kernel
theorem dL_delayed_132 : decode cL_delayed 132 = .ok (.istore 9, 2) := by decide +kernel
theorem dL_delayed_134 : decode cL_delayed 134 = .ok (.iconst 0, 1) := by decide +kernel
theorem dL_delayed_135 : decode cL_delayed 135 = .ok (.istore 10, 2) := by decide +kernel
theorem dL_delayed_137 : decode cL_delayed 137 = .ok (.iload 10, 2) := by decide +kernel
theorem dL_delayed_139 : decode cL_delayed 139 = .ok (.iconst 3, 1) := by decide +kernel
theorem dL_delayed_140 : decode cL_delayed 140 = .ok (.if_icmp .ge 22, 3) := by decide +kernel
theorem dL_delayed_143 : decode cL_delayed 143 = .ok (.iload 9, 2) := by decide +kernel
theorem dL_delayed_145 : decode cL_delayed 145 = .ok (.aload_n 0, 1) := by decide +kernel
theorem dL_delayed_146 : decode cL_delayed 146 = .ok (.iload_n 3, 1) := by decide +kernel
theorem dL_delayed_147 : decode cL_delayed 147 = .ok (.iload 10, 2) := by decide +kernel
theorem dL_delayed_149 : decode cL_delayed 149 = .ok (.iconst 1, 1) := by decide +kernel
theorem dL_delayed_150 : decode cL_delayed 150 = .ok (.invokevirtual 96, 3) := by decide +kernel
theorem dL_delayed_153 : decode cL_delayed 153 = .ok (.iadd, 1) := by decide +kernel
theorem dL_delayed_154 : decode cL_delayed 154 = .ok (.istore 9, 2) := by decide +kernel
theorem dL_delayed_156 : decode cL_delayed 156 = .ok (.iinc 10 1, 3) := by decide +kernel
theorem dL_delayed_159 : decode cL_delayed 159 = .ok (.goto (-22), 3) := by decide +kernel
theorem dL_delayed_162 : decode cL_delayed 162 = .ok (.iload 8, 2) := by decide +kernel
theorem dL_delayed_164 : decode cL_delayed 164 = .ok (.ifCond .lt 38, 3) := by decide +kernel
theorem dL_delayed_167 : decode cL_delayed 167 = .ok (.iload 9, 2) := by decide +kernel
theorem dL_delayed_169 : decode cL_delayed 169 = .ok (.ifCond .ne 7, 3) := by decide +kernel
theorem dL_delayed_172 : decode cL_delayed 172 = .ok (.iconst 1, 1) := by decide +kernel
theorem dL_delayed_173 : decode cL_delayed 173 = .ok (.goto 4, 3) := by decide +kernel
theorem dL_delayed_176 : decode cL_delayed 176 = .ok (.iconst 0, 1) := by decide +kernel
theorem dL_delayed_177 : decode cL_delayed 177 = .ok (.iload 6, 2) := by decide +kernel
theorem dL_delayed_179 : decode cL_delayed 179 = .ok (.iload 4, 2) := by decide +kernel
theorem dL_delayed_181 : decode cL_delayed 181 = .ok (.if_icmp .ne 7, 3) := by decide +kernel
theorem dL_delayed_184 : decode cL_delayed 184 = .ok (.iconst 1, 1) := by decide +kernel
theorem dL_delayed_185 : decode cL_delayed 185 = .ok (.goto 4, 3) := by decide +kernel
theorem dL_delayed_188 : decode cL_delayed 188 = .ok (.iconst 0, 1) := by decide +kernel
theorem dL_delayed_189 : decode cL_delayed 189 = .ok (.if_icmp .ne 13, 3) := by decide +kernel
theorem dL_delayed_192 : decode cL_delayed 192 = .ok (.aload_n 0, 1) := by decide +kernel
theorem dL_delayed_193 : decode cL_delayed 193 = .ok (.iconst 1, 1) := by decide +kernel
theorem dL_delayed_194 : decode cL_delayed 194 = .ok (.invokevirtual 102, 3) := by decide +kernel
theorem dL_delayed_197 : decode cL_delayed 197 = .ok (.iload 7, 2) := by decide +kernel
theorem dL_delayed_199 : decode cL_delayed 199 = .ok (.if_icmp .eq 5, 3) := by decide +kernel
theorem dL_delayed_202 : decode cL_delayed 202 = .ok (.iconst 0, 1) := by decide +kernel
theorem dL_delayed_203 : decode cL_delayed 203 = .ok (.ireturn, 1) := by decide +kernel
theorem dL_delayed_204 : decode cL_delayed 204 = .ok (.iinc 6 1, 3) := by decide +kernel
theorem dL_delayed_207 : decode cL_delayed 207 = .ok (.goto (-106), 3) := by decide +kernel
theorem dL_delayed_210 : decode cL_delayed 210 = .ok (.iconst 1, 1) := by decide +kernel
theorem dL_delayed_211 : decode cL_delayed 211 = .ok (.ireturn, 1) := by decide +kernel
theorem dL_cutBack_0 : decode cL_cutBack 0 = .ok (.iconst 1, 1) := by decide +kernel
theorem dL_cutBack_1 : decode cL_cutBack 1 = .ok (.iload_n 1, 1) := by decide +kernel
theorem dL_cutBack_2 : decode cL_cutBack 2 = .ok (.bipush 12, 2) := by decide +kernel
theorem dL_cutBack_4 : decode cL_cutBack 4 = .ok (.invokestatic 22, 3) := by decide +kernel
theorem dL_cutBack_7 : decode cL_cutBack 7 = .ok (.iadd, 1) := by decide +kernel
theorem dL_cutBack_8 : decode cL_cutBack 8 = .ok (.istore_n 2, 1) := by decide +kernel
theorem dL_cutBack_9 : decode cL_cutBack 9 = .ok (.aload_n 0, 1) := by decide +kernel
theorem dL_cutBack_10 : decode cL_cutBack 10 = .ok (.iload_n 2, 1) := by decide +kernel
theorem dL_cutBack_11 : decode cL_cutBack 11 = .ok (.invokevirtual 108, 3) := by decide +kernel
theorem dL_cutBack_14 : decode cL_cutBack 14 = .ok (.istore_n 3, 1) := by decide +kernel
theorem dL_cutBack_15 : decode cL_cutBack 15 = .ok (.aload_n 0, 1) := by decide +kernel
theorem dL_cutBack_16 : decode cL_cutBack 16 = .ok (.bipush 13, 2) := by decide +kernel
theorem dL_cutBack_18 : decode cL_cutBack 18 = .ok (.invokevirtual 63, 3) := by decide +kernel
theorem dL_cutBack_21 : decode cL_cutBack 21 = .ok (.istore 4, 2) := by decide +kernel
theorem dL_cutBack_23 : decode cL_cutBack 23 = .ok (.iload_n 3, 1) := by decide +kernel
theorem dL_cutBack_24 : decode cL_cutBack 24 = .ok (.bipush (-6), 2) := by decide +kernel
theorem dL_cutBack_26 : decode cL_cutBack 26 = .ok (.if_icmp .lt 24, 3) := by decide +kernel
theorem dL_cutBack_29 : decode cL_cutBack 29 = .ok (.iload_n 3, 1) := by decide +kernel
theorem dL_cutBack_30 : decode cL_cutBack 30 = .ok (.sipush 1000, 3) := by decide +kernel
theorem dL_cutBack_33 : decode cL_cutBack 33 = .ok (.if_icmp .gt 17, 3) := by decide +kernel
theorem dL_cutBack_36 : decode cL_cutBack 36 = .ok (.iload_n 3, 1) := by decide +kernel
theorem dL_cutBack_37 : decode cL_cutBack 37 = .ok (.ifCond .ge 9, 3) := by decide +kernel
theorem dL_cutBack_40 : decode cL_cutBack 40 = .ok (.iload_n 3, 1) := by decide +kernel
theorem dL_cutBack_41 : decode cL_cutBack 41 = .ok (.bipush (-6), 2) := by decide +kernel
theorem dL_cutBack_43 : decode cL_cutBack 43 = .ok (.if_icmp .ne 7, 3) := by decide +kernel
theorem dL_cutBack_46 : decode cL_cutBack 46 = .ok (.iconst 1, 1) := by decide +kernel
theorem dL_cutBack_47 : decode cL_cutBack 47 = .ok (.goto 4, 3) := by decide +kernel
theorem dL_cutBack_50 : decode cL_cutBack 50 = .ok (.iconst 0, 1) := by decide +kernel
theorem dL_cutBack_51 : decode cL_cutBack 51 = .ok (.istore 5, 2) := by decide +kernel
theorem dL_cutBack_53 : decode cL_cutBack 53 = .ok (.iload_n 3, 1) := by decide +kernel
theorem dL_cutBack_54 : decode cL_cutBack 54 = .ok (.ifCond .lt 32, 3) := by decide +kernel
theorem dL_cutBack_57 : decode cL_cutBack 57 = .ok (.aload_n 0, 1) := by decide +kernel
theorem dL_cutBack_58 : decode cL_cutBack 58 = .ok (.iconst 3, 1) := by decide +kernel
theorem dL_cutBack_59 : decode cL_cutBack 59 = .ok (.iload_n 3, 1) := by decide +kernel
theorem dL_cutBack_60 : decode cL_cutBack 60 = .ok (.invokevirtual 37, 3) := by decide +kernel
theorem dL_cutBack_63 : decode cL_cutBack 63 = .ok (.pop, 1) := by decide +kernel
theorem dL_cutBack_64 : decode cL_cutBack 64 = .ok (.iload 5, 2) := by decide +kernel
theorem dL_cutBack_66 : decode cL_cutBack 66 = .ok (.ifCond .eq 17, 3) := by decide +kernel
theorem dL_cutBack_69 : decode cL_cutBack 69 = .ok (.aload_n 0, 1) := by decide +kernel
theorem dL_cutBack_70 : decode cL_cutBack 70 = .ok (.iload_n 2, 1) := by decide +kernel
theorem dL_cutBack_71 : decode cL_cutBack 71 = .ok (.iconst 0, 1) := by decide +kernel
theorem dL_cutBack_72 : decode cL_cutBack 72 = .ok (.iconst 3, 1) := by decide +kernel
theorem dL_cutBack_73 : decode cL_cutBack 73 = .ok (.invokevirtual 96, 3) := by decide +kernel
theorem dL_cutBack_76 : decode cL_cutBack 76 = .ok (.ifCond .ne 7, 3) := by decide +kernel
theorem dL_cutBack_79 : decode cL_cutBack 79 = .ok (.iconst 1, 1) := by decide +kernel
theorem dL_cutBack_80 : decode cL_cutBack 80 = .ok (.goto 4, 3) := by decide +kernel
theorem dL_cutBack_83 : decode cL_cutBack 83 = .ok (.iconst 0, 1) := by decide +kernel
theorem dL_cutBack_84 : decode cL_cutBack 84 = .ok (.istore 5, 2) := by decide +kernel
theorem dL_cutBack_86 : decode cL_cutBack 86 = .ok (.iload_n 3, 1) := by decide +kernel
theorem dL_cutBack_87 : decode cL_cutBack 87 = .ok (.sipush 1000, 3) := by decide +kernel
theorem dL_cutBack_90 : decode cL_cutBack 90 = .ok (.if_icmp .ge 62, 3) := by decide +kernel
theorem dL_cutBack_93 : decode cL_cutBack 93 = .ok (.aload_n 0, 1) := by decide +kernel
theorem dL_cutBack_94 : decode cL_cutBack 94 = .ok (.iconst 3, 1) := by decide +kernel
theorem dL_cutBack_95 : decode cL_cutBack 95 = .ok (.iload_n 3, 1) := by decide +kernel
theorem dL_cutBack_96 : decode cL_cutBack 96 = .ok (.ifCond .ge 15, 3) := by decide +kernel
theorem dL_cutBack_99 : decode cL_cutBack 99 = .ok (.iload_n 1, 1) := by decide +kernel
theorem dL_cutBack_100 : decode cL_cutBack 100 = .ok (.iconst 5, 1) := by decide +kernel
theorem dL_cutBack_101 : decode cL_cutBack 101 = .ok (.ishr, 1) := by decide +kernel
theorem dL_cutBack_102 : decode cL_cutBack 102 = .ok (.sipush 1001, 3) := by decide +kernel
theorem dL_cutBack_105 : decode cL_cutBack 105 = .ok (.invokestatic 22, 3) := by decide +kernel
theorem dL_cutBack_108 : decode cL_cutBack 108 = .ok (.goto 18, 3) := by decide +kernel
theorem dL_cutBack_111 : decode cL_cutBack 111 = .ok (.iload_n 3, 1) := by decide +kernel
theorem dL_cutBack_112 : decode cL_cutBack 112 = .ok (.iconst 1, 1) := by decide +kernel
theorem dL_cutBack_113 : decode cL_cutBack 113 = .ok (.iadd, 1) := by decide +kernel
theorem dL_cutBack_114 : decode cL_cutBack 114 = .ok (.iload_n 1, 1) := by decide +kernel
theorem dL_cutBack_115 : decode cL_cutBack 115 = .ok (.iconst 5, 1) := by decide +kernel
theorem dL_cutBack_116 : decode cL_cutBack 116 = .ok (.ishr, 1) := by decide +kernel
theorem dL_cutBack_117 : decode cL_cutBack 117 = .ok (.sipush 1000, 3) := by decide +kernel
theorem dL_cutBack_120 : decode cL_cutBack 120 = .ok (.iload_n 3, 1) := by decide +kernel
theorem dL_cutBack_121 : decode cL_cutBack 121 = .ok (.isub, 1) := by decide +kernel
theorem dL_cutBack_122 : decode cL_cutBack 122 = .ok (.invokestatic 22, 3) := by decide +kernel
theorem dL_cutBack_125 : decode cL_cutBack 125 = .ok (.iadd, 1) := by decide +kernel
theorem dL_cutBack_126 : decode cL_cutBack 126 = .ok (.invokevirtual 37, 3) := by decide +kernel
theorem dL_cutBack_129 : decode cL_cutBack 129 = .ok (.pop, 1) := by decide +kernel
theorem dL_cutBack_130 : decode cL_cutBack 130 = .ok (.iload 5, 2) := by decide +kernel
theorem dL_cutBack_132 : decode cL_cutBack 132 = .ok (.ifCond .eq 17, 3) := by decide +kernel
theorem dL_cutBack_135 : decode cL_cutBack 135 = .ok (.aload_n 0, 1) := by decide +kernel
theorem dL_cutBack_136 : decode cL_cutBack 136 = .ok (.iload_n 2, 1) := by decide +kernel
theorem dL_cutBack_137 : decode cL_cutBack 137 = .ok (.iconst 0, 1) := by decide +kernel
theorem dL_cutBack_138 : decode cL_cutBack 138 = .ok (.iconst 3, 1) := by decide +kernel
theorem dL_cutBack_139 : decode cL_cutBack 139 = .ok (.invokevirtual 96, 3) := by decide +kernel
theorem dL_cutBack_142 : decode cL_cutBack 142 = .ok (.ifCond .le 7, 3) := by decide +kernel
theorem dL_cutBack_145 : decode cL_cutBack 145 = .ok (.iconst 1, 1) := by decide +kernel
theorem dL_cutBack_146 : decode cL_cutBack 146 = .ok (.goto 4, 3) := by decide +kernel
theorem dL_cutBack_149 : decode cL_cutBack 149 = .ok (.iconst 0, 1) := by decide +kernel
theorem dL_cutBack_150 : decode cL_cutBack 150 = .ok (.istore 5, 2) := by decide +kernel
theorem dL_cutBack_152 : decode cL_cutBack 152 = .ok (.iload 5, 2) := by decide +kernel
theorem dL_cutBack_154 : decode cL_cutBack 154 = .ok (.ifCond .eq 17, 3) := by decide +kernel
theorem dL_cutBack_157 : decode cL_cutBack 157 = .ok (.aload_n 0, 1) := by decide +kernel
theorem dL_cutBack_158 : decode cL_cutBack 158 = .ok (.iconst 3, 1) := by decide +kernel
theorem dL_cutBack_159 : decode cL_cutBack 159 = .ok (.iload 4, 2) := by decide +kernel
theorem dL_cutBack_161 : decode cL_cutBack 161 = .ok (.invokevirtual 37, 3) := by decide +kernel
theorem dL_cutBack_164 : decode cL_cutBack 164 = .ok (.ifCond .lt 7, 3) := by decide +kernel
theorem dL_cutBack_167 : decode cL_cutBack 167 = .ok (.iconst 1, 1) := by decide +kernel
theorem dL_cutBack_168 : decode cL_cutBack 168 = .ok (.goto 4, 3) := by decide +kernel
theorem dL_cutBack_171 : decode cL_cutBack 171 = .ok (.iconst 0, 1) := by decide +kernel
theorem dL_cutBack_172 : decode cL_cutBack 172 = .ok (.ireturn, 1) := by decide +kernel
theorem dL_kept_0 : decode cL_kept 0 = .ok (.aload_n 0, 1) := by decide +kernel
theorem dL_kept_1 : decode cL_kept 1 = .ok (.iconst 0, 1) := by decide +kernel
theorem dL_kept_2 : decode cL_kept 2 = .ok (.invokevirtual 99, 3) := by decide +kernel
theorem dL_kept_5 : decode cL_kept 5 = .ok (.istore_n 2, 1) := by decide +kernel
theorem dL_kept_6 : decode cL_kept 6 = .ok (.aload_n 0, 1) := by decide +kernel
theorem dL_kept_7 : decode cL_kept 7 = .ok (.iconst 2, 1) := by decide +kernel
theorem dL_kept_8 : decode cL_kept 8 = .ok (.invokevirtual 63, 3) := by decide +kernel
theorem dL_kept_11 : decode cL_kept 11 = .ok (.istore_n 3, 1) := by decide +kernel
theorem dL_kept_12 : decode cL_kept 12 = .ok (.aload_n 0, 1) := by decide +kernel
theorem dL_kept_13 : decode cL_kept 13 = .ok (.iconst 3, 1) := by decide +kernel
theorem dL_kept_14 : decode cL_kept 14 = .ok (.invokevirtual 63, 3) := by decide +kernel
theorem dL_kept_17 : decode cL_kept 17 = .ok (.istore 4, 2) := by decide +kernel
theorem dL_kept_19 : decode cL_kept 19 = .ok (.aload_n 0, 1) := by decide +kernel
theorem dL_kept_20 : decode cL_kept 20 = .ok (.iconst 1, 1) := by decide +kernel
theorem dL_kept_21 : decode cL_kept 21 = .ok (.iconst 2, 1) := by decide +kernel
theorem dL_kept_22 : decode cL_kept 22 = .ok (.invokevirtual 84, 3) := by decide +kernel
theorem dL_kept_25 : decode cL_kept 25 = .ok (.istore 5, 2) := by decide +kernel
theorem dL_kept_27 : decode cL_kept 27 = .ok (.aload_n 0, 1) := by decide +kernel
theorem dL_kept_28 : decode cL_kept 28 = .ok (.iconst 0, 1) := by decide +kernel
theorem dL_kept_29 : decode cL_kept 29 = .ok (.bipush 7, 2) := by decide +kernel
theorem dL_kept_31 : decode cL_kept 31 = .ok (.invokevirtual 75, 3) := by decide +kernel
theorem dL_kept_34 : decode cL_kept 34 = .ok (.istore 6, 2) := by decide +kernel
theorem dL_kept_36 : decode cL_kept 36 = .ok (.aload_n 0, 1) := by decide +kernel
theorem dL_kept_37 : decode cL_kept 37 = .ok (.invokevirtual 111, 3) := by decide +kernel
theorem dL_kept_40 : decode cL_kept 40 = .ok (.iload_n 2, 1) := by decide +kernel
theorem dL_kept_41 : decode cL_kept 41 = .ok (.if_icmp .ne 55, 3) := by decide +kernel
theorem dL_kept_44 : decode cL_kept 44 = .ok (.aload_n 0, 1) := by decide +kernel
theorem dL_kept_45 : decode cL_kept 45 = .ok (.iconst 0, 1) := by decide +kernel
theorem dL_kept_46 : decode cL_kept 46 = .ok (.invokevirtual 63, 3) := by decide +kernel
theorem dL_kept_49 : decode cL_kept 49 = .ok (.ifCond .ne 47, 3) := by decide +kernel
theorem dL_kept_52 : decode cL_kept 52 = .ok (.aload_n 0, 1) := by decide +kernel
theorem dL_kept_53 : decode cL_kept 53 = .ok (.iconst 2, 1) := by decide +kernel
theorem dL_kept_54 : decode cL_kept 54 = .ok (.invokevirtual 63, 3) := by decide +kernel
theorem dL_kept_57 : decode cL_kept 57 = .ok (.iload_n 3, 1) := by decide +kernel
theorem dL_kept_58 : decode cL_kept 58 = .ok (.if_icmp .ne 38, 3) := by decide +kernel
theorem dL_kept_61 : decode cL_kept 61 = .ok (.aload_n 0, 1) := by decide +kernel
theorem dL_kept_62 : decode cL_kept 62 = .ok (.iconst 3, 1) := by decide +kernel
theorem dL_kept_63 : decode cL_kept 63 = .ok (.invokevirtual 63, 3) := by decide +kernel
theorem dL_kept_66 : decode cL_kept 66 = .ok (.iload 4, 2) := by decide +kernel
theorem dL_kept_68 : decode cL_kept 68 = .ok (.if_icmp .ne 28, 3) := by decide +kernel
theorem dL_kept_71 : decode cL_kept 71 = .ok (.aload_n 0, 1) := by decide +kernel
theorem dL_kept_72 : decode cL_kept 72 = .ok (.iconst 4, 1) := by decide +kernel
theorem dL_kept_73 : decode cL_kept 73 = .ok (.invokevirtual 63, 3) := by decide +kernel
theorem dL_kept_76 : decode cL_kept 76 = .ok (.ifCond .ne 20, 3) := by decide +kernel
theorem dL_kept_79 : decode cL_kept 79 = .ok (.aload_n 0, 1) := by decide +kernel
theorem dL_kept_80 : decode cL_kept 80 = .ok (.iconst 5, 1) := by decide +kernel
theorem dL_kept_81 : decode cL_kept 81 = .ok (.invokevirtual 63, 3) := by decide +kernel
theorem dL_kept_84 : decode cL_kept 84 = .ok (.ifCond .ne 12, 3) := by decide +kernel
theorem dL_kept_87 : decode cL_kept 87 = .ok (.aload_n 0, 1) := by decide +kernel
theorem dL_kept_88 : decode cL_kept 88 = .ok (.bipush 7, 2) := by decide +kernel
theorem dL_kept_90 : decode cL_kept 90 = .ok (.invokevirtual 63, 3) := by decide +kernel
theorem dL_kept_93 : decode cL_kept 93 = .ok (.ifCond .eq 5, 3) := by decide +kernel
theorem dL_kept_96 : decode cL_kept 96 = .ok (.iconst 0, 1) := by decide +kernel
theorem dL_kept_97 : decode cL_kept 97 = .ok (.ireturn, 1) := by decide +kernel
theorem dL_kept_98 : decode cL_kept 98 = .ok (.iconst 0, 1) := by decide +kernel
theorem dL_kept_99 : decode cL_kept 99 = .ok (.istore 7, 2) := by decide +kernel
theorem dL_kept_101 : decode cL_kept 101 = .ok (.iload 7, 2) := by decide +kernel
theorem dL_kept_103 : decode cL_kept 103 = .ok (.aload_n 0, 1) := by decide +kernel
theorem dL_kept_104 : decode cL_kept 104 = .ok (.iconst 1, 1) := by decide +kernel
theorem dL_kept_105 : decode cL_kept 105 = .ok (.invokevirtual 63, 3) := by decide +kernel
theorem dL_kept_108 : decode cL_kept 108 = .ok (.if_icmp .ge 39, 3) := by decide +kernel
theorem dL_kept_111 : decode cL_kept 111 = .ok (.bipush 6, 2) := by decide +kernel
theorem dL_kept_113 : decode cL_kept 113 = .ok (.istore 8, 2) := by decide +kernel
theorem dL_kept_115 : decode cL_kept 115 = .ok (.iload 8, 2) := by decide +kernel
theorem dL_kept_117 : decode cL_kept 117 = .ok (.bipush 12, 2) := by decide +kernel
theorem dL_kept_119 : decode cL_kept 119 = .ok (.if_icmp .ge 22, 3) := by decide +kernel
theorem dL_kept_122 : decode cL_kept 122 = .ok (.aload_n 0, 1) := by decide +kernel
theorem dL_kept_123 : decode cL_kept 123 = .ok (.iload 7, 2) := by decide +kernel
theorem dL_kept_125 : decode cL_kept 125 = .ok (.iload 8, 2) := by decide +kernel
theorem dL_kept_127 : decode cL_kept 127 = .ok (.invokevirtual 75, 3) := by decide +kernel
theorem dL_kept_130 : decode cL_kept 130 = .ok (.ifCond .eq 5, 3) := by decide +kernel
theorem dL_kept_133 : decode cL_kept 133 = .ok (.iconst 0, 1) := by decide +kernel
theorem dL_kept_134 : decode cL_kept 134 = .ok (.ireturn, 1) := by decide +kernel
theorem dL_kept_135 : decode cL_kept 135 = .ok (.iinc 8 1, 3) := by decide +kernel
theorem dL_kept_138 : decode cL_kept 138 = .ok (.goto (-23), 3) := by decide +kernel
theorem dL_kept_141 : decode cL_kept 141 = .ok (.iinc 7 1, 3) := by decide +kernel
theorem dL_kept_144 : decode cL_kept 144 = .ok (.goto (-43), 3) := by decide +kernel
theorem dL_kept_147 : decode cL_kept 147 = .ok (.iconst 0, 1) := by decide +kernel
theorem dL_kept_148 : decode cL_kept 148 = .ok (.istore 7, 2) := by decide +kernel
theorem dL_kept_150 : decode cL_kept 150 = .ok (.iload 7, 2) := by decide +kernel
theorem dL_kept_152 : decode cL_kept 152 = .ok (.iconst 3, 1) := by decide +kernel
theorem dL_kept_153 : decode cL_kept 153 = .ok (.if_icmp .ge 37, 3) := by decide +kernel
theorem dL_kept_156 : decode cL_kept 156 = .ok (.iconst 2, 1) := by decide +kernel
theorem dL_kept_157 : decode cL_kept 157 = .ok (.istore 8, 2) := by decide +kernel
theorem dL_kept_159 : decode cL_kept 159 = .ok (.iload 8, 2) := by decide +kernel
theorem dL_kept_161 : decode cL_kept 161 = .ok (.iconst 5, 1) := by decide +kernel
theorem dL_kept_162 : decode cL_kept 162 = .ok (.if_icmp .ge 22, 3) := by decide +kernel
theorem dL_kept_165 : decode cL_kept 165 = .ok (.aload_n 0, 1) := by decide +kernel
theorem dL_kept_166 : decode cL_kept 166 = .ok (.iload 7, 2) := by decide +kernel
theorem dL_kept_168 : decode cL_kept 168 = .ok (.iload 8, 2) := by decide +kernel
theorem dL_kept_170 : decode cL_kept 170 = .ok (.invokevirtual 84, 3) := by decide +kernel
theorem dL_kept_173 : decode cL_kept 173 = .ok (.ifCond .eq 5, 3) := by decide +kernel
theorem dL_kept_176 : decode cL_kept 176 = .ok (.iconst 0, 1) := by decide +kernel
theorem dL_kept_177 : decode cL_kept 177 = .ok (.ireturn, 1) := by decide +kernel
theorem dL_kept_178 : decode cL_kept 178 = .ok (.iinc 8 1, 3) := by decide +kernel
theorem dL_kept_181 : decode cL_kept 181 = .ok (.goto (-22), 3) := by decide +kernel
theorem dL_kept_184 : decode cL_kept 184 = .ok (.iinc 7 1, 3) := by decide +kernel
theorem dL_kept_187 : decode cL_kept 187 = .ok (.goto (-37), 3) := by decide +kernel
theorem dL_kept_190 : decode cL_kept 190 = .ok (.iconst 1, 1) := by decide +kernel
theorem dL_kept_191 : decode cL_kept 191 = .ok (.iload_n 1, 1) := by decide +kernel
theorem dL_kept_192 : decode cL_kept 192 = .ok (.bipush 60, 2) := by decide +kernel
theorem dL_kept_194 : decode cL_kept 194 = .ok (.invokestatic 22, 3) := by decide +kernel
theorem dL_kept_197 : decode cL_kept 197 = .ok (.iadd, 1) := by decide +kernel
theorem dL_kept_198 : decode cL_kept 198 = .ok (.istore 7, 2) := by decide +kernel
theorem dL_kept_200 : decode cL_kept 200 = .ok (.aload_n 0, 1) := by decide +kernel
theorem dL_kept_201 : decode cL_kept 201 = .ok (.iload 7, 2) := by decide +kernel
theorem dL_kept_203 : decode cL_kept 203 = .ok (.iconst 1, 1) := by decide +kernel
theorem dL_kept_204 : decode cL_kept 204 = .ok (.iconst 0, 1) := by decide +kernel
theorem dL_kept_205 : decode cL_kept 205 = .ok (.invokevirtual 96, 3) := by decide +kernel
theorem dL_kept_208 : decode cL_kept 208 = .ok (.istore 8, 2) := by decide +kernel
theorem dL_kept_210 : decode cL_kept 210 = .ok (.aload_n 0, 1) := by decide +kernel
theorem dL_kept_211 : decode cL_kept 211 = .ok (.iload 7, 2) := by decide +kernel
theorem dL_kept_213 : decode cL_kept 213 = .ok (.invokevirtual 87, 3) := by decide +kernel
theorem dL_kept_216 : decode cL_kept 216 = .ok (.iload 7, 2) := by decide +kernel
theorem dL_kept_218 : decode cL_kept 218 = .ok (.if_icmp .ne 25, 3) := by decide +kernel
theorem dL_kept_221 : decode cL_kept 221 = .ok (.aload_n 0, 1) := by decide +kernel
theorem dL_kept_222 : decode cL_kept 222 = .ok (.invokevirtual 111, 3) := by decide +kernel
theorem dL_kept_225 : decode cL_kept 225 = .ok (.iload 7, 2) := by decide +kernel
theorem dL_kept_227 : decode cL_kept 227 = .ok (.if_icmp .ne 16, 3) := by decide +kernel
theorem dL_kept_230 : decode cL_kept 230 = .ok (.aload_n 0, 1) := by decide +kernel
theorem dL_kept_231 : decode cL_kept 231 = .ok (.iload 7, 2) := by decide +kernel
theorem dL_kept_233 : decode cL_kept 233 = .ok (.iconst 1, 1) := by decide +kernel
theorem dL_kept_234 : decode cL_kept 234 = .ok (.iconst 0, 1) := by decide +kernel
theorem dL_kept_235 : decode cL_kept 235 = .ok (.invokevirtual 96, 3) := by decide +kernel
theorem dL_kept_238 : decode cL_kept 238 = .ok (.iload 8, 2) := by decide +kernel
theorem dL_kept_240 : decode cL_kept 240 = .ok (.if_icmp .eq 5, 3) := by decide +kernel
theorem dL_kept_243 : decode cL_kept 243 = .ok (.iconst 0, 1) := by decide +kernel
theorem dL_kept_244 : decode cL_kept 244 = .ok (.ireturn, 1) := by decide +kernel
theorem dL_kept_245 : decode cL_kept 245 = .ok (.aload_n 0, 1) := by decide +kernel
theorem dL_kept_246 : decode cL_kept 246 = .ok (.iconst 1, 1) := by decide +kernel
theorem dL_kept_247 : decode cL_kept 247 = .ok (.iload_n 1, 1) := by decide +kernel
theorem dL_kept_248 : decode cL_kept 248 = .ok (.bipush 6, 2) := by decide +kernel
theorem dL_kept_250 : decode cL_kept 250 = .ok (.ishr, 1) := by decide +kernel
theorem dL_kept_251 : decode cL_kept 251 = .ok (.bipush 12, 2) := by decide +kernel
theorem dL_kept_253 : decode cL_kept 253 = .ok (.invokestatic 22, 3) := by decide +kernel
theorem dL_kept_256 : decode cL_kept 256 = .ok (.iadd, 1) := by decide +kernel
theorem dL_kept_257 : decode cL_kept 257 = .ok (.invokevirtual 26, 3) := by decide +kernel
theorem dL_kept_260 : decode cL_kept 260 = .ok (.pop, 1) := by decide +kernel
theorem dL_kept_261 : decode cL_kept 261 = .ok (.aload_n 0, 1) := by decide +kernel
theorem dL_kept_262 : decode cL_kept 262 = .ok (.iconst 2, 1) := by decide +kernel
theorem dL_kept_263 : decode cL_kept 263 = .ok (.invokevirtual 63, 3) := by decide +kernel
theorem dL_kept_266 : decode cL_kept 266 = .ok (.ifCond .ne 77, 3) := by decide +kernel
theorem dL_kept_269 : decode cL_kept 269 = .ok (.aload_n 0, 1) := by decide +kernel
theorem dL_kept_270 : decode cL_kept 270 = .ok (.iconst 3, 1) := by decide +kernel
theorem dL_kept_271 : decode cL_kept 271 = .ok (.invokevirtual 63, 3) := by decide +kernel
theorem dL_kept_274 : decode cL_kept 274 = .ok (.ifCond .ne 69, 3) := by decide +kernel
theorem dL_kept_277 : decode cL_kept 277 = .ok (.aload_n 0, 1) := by decide +kernel
theorem dL_kept_278 : decode cL_kept 278 = .ok (.iconst 0, 1) := by decide +kernel
theorem dL_kept_279 : decode cL_kept 279 = .ok (.iconst 0, 1) := by decide +kernel
theorem dL_kept_280 : decode cL_kept 280 = .ok (.invokevirtual 84, 3) := by decide +kernel
theorem dL_kept_283 : decode cL_kept 283 = .ok (.bipush 100, 2) := by decide +kernel
theorem dL_kept_285 : decode cL_kept 285 = .ok (.if_icmp .ne 58, 3) := by decide +kernel
theorem dL_kept_288 : decode cL_kept 288 = .ok (.aload_n 0, 1) := by decide +kernel
theorem dL_kept_289 : decode cL_kept 289 = .ok (.iconst 0, 1) := by decide +kernel
theorem dL_kept_290 : decode cL_kept 290 = .ok (.invokevirtual 102, 3) := by decide +kernel
theorem dL_kept_293 : decode cL_kept 293 = .ok (.iload_n 2, 1) := by decide +kernel
theorem dL_kept_294 : decode cL_kept 294 = .ok (.if_icmp .ne 49, 3) := by decide +kernel
theorem dL_kept_297 : decode cL_kept 297 = .ok (.aload_n 0, 1) := by decide +kernel
theorem dL_kept_298 : decode cL_kept 298 = .ok (.iconst 2, 1) := by decide +kernel
theorem dL_kept_299 : decode cL_kept 299 = .ok (.invokevirtual 63, 3) := by decide +kernel
theorem dL_kept_302 : decode cL_kept 302 = .ok (.iload_n 3, 1) := by decide +kernel
theorem dL_kept_303 : decode cL_kept 303 = .ok (.if_icmp .ne 40, 3) := by decide +kernel
theorem dL_kept_306 : decode cL_kept 306 = .ok (.aload_n 0, 1) := by decide +kernel
theorem dL_kept_307 : decode cL_kept 307 = .ok (.iconst 1, 1) := by decide +kernel
theorem dL_kept_308 : decode cL_kept 308 = .ok (.iconst 2, 1) := by decide +kernel
theorem dL_kept_309 : decode cL_kept 309 = .ok (.invokevirtual 84, 3) := by decide +kernel
theorem dL_kept_312 : decode cL_kept 312 = .ok (.iload 5, 2) := by decide +kernel
theorem dL_kept_314 : decode cL_kept 314 = .ok (.if_icmp .ne 29, 3) := by decide +kernel
theorem dL_kept_317 : decode cL_kept 317 = .ok (.aload_n 0, 1) := by decide +kernel
theorem dL_kept_318 : decode cL_kept 318 = .ok (.iconst 0, 1) := by decide +kernel
theorem dL_kept_319 : decode cL_kept 319 = .ok (.bipush 7, 2) := by decide +kernel
theorem dL_kept_321 : decode cL_kept 321 = .ok (.invokevirtual 75, 3) := by decide +kernel
theorem dL_kept_324 : decode cL_kept 324 = .ok (.iload 6, 2) := by decide +kernel
theorem dL_kept_326 : decode cL_kept 326 = .ok (.if_icmp .ne 17, 3) := by decide +kernel
theorem dL_kept_329 : decode cL_kept 329 = .ok (.aload_n 0, 1) := by decide +kernel
theorem dL_kept_330 : decode cL_kept 330 = .ok (.iconst 3, 1) := by decide +kernel
theorem dL_kept_331 : decode cL_kept 331 = .ok (.invokevirtual 63, 3) := by decide +kernel
theorem dL_kept_334 : decode cL_kept 334 = .ok (.iload 4, 2) := by decide +kernel
theorem dL_kept_336 : decode cL_kept 336 = .ok (.if_icmp .ne 7, 3) := by decide +kernel
theorem dL_kept_339 : decode cL_kept 339 = .ok (.iconst 1, 1) := by decide +kernel
theorem dL_kept_340 : decode cL_kept 340 = .ok (.goto 4, 3) := by decide +kernel
theorem dL_kept_343 : decode cL_kept 343 = .ok (.iconst 0, 1) := by decide +kernel
theorem dL_kept_344 : decode cL_kept 344 = .ok (.ireturn, 1) := by decide +kernel
theorem dL_refused_0 : decode cL_refused 0 = .ok (.iload_n 1, 1) := by decide +kernel
theorem dL_refused_1 : decode cL_refused 1 = .ok (.ifCond .ge 15, 3) := by decide +kernel
theorem dL_refused_4 : decode cL_refused 4 = .ok (.bipush (-11), 2) := by decide +kernel
theorem dL_refused_6 : decode cL_refused 6 = .ok (.iload_n 1, 1) := by decide +kernel
theorem dL_refused_7 : decode cL_refused 7 = .ok (.ldc 115, 2) := by decide +kernel
theorem dL_refused_9 : decode cL_refused 9 = .ok (.invokestatic 22, 3) := by decide +kernel
theorem dL_refused_12 : decode cL_refused 12 = .ok (.isub, 1) := by decide +kernel
theorem dL_refused_13 : decode cL_refused 13 = .ok (.goto 10, 3) := by decide +kernel
theorem dL_refused_16 : decode cL_refused 16 = .ok (.iload_n 1, 1) := by decide +kernel
theorem dL_refused_17 : decode cL_refused 17 = .ok (.ldc 115, 2) := by decide +kernel
theorem dL_refused_19 : decode cL_refused 19 = .ok (.irem, 1) := by decide +kernel
theorem dL_refused_20 : decode cL_refused 20 = .ok (.ldc 116, 2) := by decide +kernel
theorem dL_refused_22 : decode cL_refused 22 = .ok (.iadd, 1) := by decide +kernel
theorem dL_refused_23 : decode cL_refused 23 = .ok (.istore_n 2, 1) := by decide +kernel
theorem dL_refused_24 : decode cL_refused 24 = .ok (.aload_n 0, 1) := by decide +kernel
theorem dL_refused_25 : decode cL_refused 25 = .ok (.iload_n 2, 1) := by decide +kernel
theorem dL_refused_26 : decode cL_refused 26 = .ok (.invokevirtual 26, 3) := by decide +kernel
theorem dL_refused_29 : decode cL_refused 29 = .ok (.bipush (-2), 2) := by decide +kernel
theorem dL_refused_31 : decode cL_refused 31 = .ok (.if_icmp .ne 360, 3) := by decide +kernel
theorem dL_refused_34 : decode cL_refused 34 = .ok (.aload_n 0, 1) := by decide +kernel
theorem dL_refused_35 : decode cL_refused 35 = .ok (.iload_n 2, 1) := by decide +kernel
theorem dL_refused_36 : decode cL_refused 36 = .ok (.iconst 0, 1) := by decide +kernel
theorem dL_refused_37 : decode cL_refused 37 = .ok (.iconst 1, 1) := by decide +kernel
theorem dL_refused_38 : decode cL_refused 38 = .ok (.invokevirtual 30, 3) := by decide +kernel
theorem dL_refused_41 : decode cL_refused 41 = .ok (.iconst (-1), 1) := by decide +kernel
theorem dL_refused_42 : decode cL_refused 42 = .ok (.if_icmp .ne 349, 3) := by decide +kernel
theorem dL_refused_45 : decode cL_refused 45 = .ok (.aload_n 0, 1) := by decide +kernel
theorem dL_refused_46 : decode cL_refused 46 = .ok (.iconst 0, 1) := by decide +kernel
theorem dL_refused_47 : decode cL_refused 47 = .ok (.iload_n 2, 1) := by decide +kernel
theorem dL_refused_48 : decode cL_refused 48 = .ok (.iconst 1, 1) := by decide +kernel
theorem dL_refused_49 : decode cL_refused 49 = .ok (.invokevirtual 30, 3) := by decide +kernel
theorem dL_refused_52 : decode cL_refused 52 = .ok (.bipush (-2), 2) := by decide +kernel
theorem dL_refused_54 : decode cL_refused 54 = .ok (.if_icmp .ne 337, 3) := by decide +kernel
theorem dL_refused_57 : decode cL_refused 57 = .ok (.aload_n 0, 1) := by decide +kernel
theorem dL_refused_58 : decode cL_refused 58 = .ok (.iconst 0, 1) := by decide +kernel
theorem dL_refused_59 : decode cL_refused 59 = .ok (.iconst 0, 1) := by decide +kernel
theorem dL_refused_60 : decode cL_refused 60 = .ok (.iload_n 2, 1) := by decide +kernel
theorem dL_refused_61 : decode cL_refused 61 = .ok (.invokevirtual 30, 3) := by decide +kernel
theorem dL_refused_64 : decode cL_refused 64 = .ok (.bipush (-2), 2) := by decide +kernel
theorem dL_refused_66 : decode cL_refused 66 = .ok (.if_icmp .ne 325, 3) := by decide +kernel
theorem dL_refused_69 : decode cL_refused 69 = .ok (.aload_n 0, 1) := by decide +kernel
theorem dL_refused_70 : decode cL_refused 70 = .ok (.iload_n 2, 1) := by decide +kernel
theorem dL_refused_71 : decode cL_refused 71 = .ok (.iconst 0, 1) := by decide +kernel
theorem dL_refused_72 : decode cL_refused 72 = .ok (.iconst 1, 1) := by decide +kernel
theorem dL_refused_73 : decode cL_refused 73 = .ok (.invokevirtual 34, 3) := by decide +kernel
theorem dL_refused_76 : decode cL_refused 76 = .ok (.iconst (-1), 1) := by decide +kernel
theorem dL_refused_77 : decode cL_refused 77 = .ok (.if_icmp .ne 314, 3) := by decide +kernel
theorem dL_refused_80 : decode cL_refused 80 = .ok (.aload_n 0, 1) := by decide +kernel
theorem dL_refused_81 : decode cL_refused 81 = .ok (.iconst 0, 1) := by decide +kernel
theorem dL_refused_82 : decode cL_refused 82 = .ok (.iload_n 2, 1) := by decide +kernel
theorem dL_refused_83 : decode cL_refused 83 = .ok (.iconst 1, 1) := by decide +kernel
theorem dL_refused_84 : decode cL_refused 84 = .ok (.invokevirtual 34, 3) := by decide +kernel
theorem dL_refused_87 : decode cL_refused 87 = .ok (.bipush (-2), 2) := by decide +kernel
theorem dL_refused_89 : decode cL_refused 89 = .ok (.if_icmp .ne 302, 3) := by decide +kernel
theorem dL_refused_92 : decode cL_refused 92 = .ok (.aload_n 0, 1) := by decide +kernel
theorem dL_refused_93 : decode cL_refused 93 = .ok (.iconst 0, 1) := by decide +kernel
theorem dL_refused_94 : decode cL_refused 94 = .ok (.iconst 0, 1) := by decide +kernel
theorem dL_refused_95 : decode cL_refused 95 = .ok (.iload_n 2, 1) := by decide +kernel
theorem dL_refused_96 : decode cL_refused 96 = .ok (.invokevirtual 34, 3) := by decide +kernel
theorem dL_refused_99 : decode cL_refused 99 = .ok (.bipush (-2), 2) := by decide +kernel
theorem dL_refused_101 : decode cL_refused 101 = .ok (.if_icmp .ne 290, 3) := by decide +kernel
theorem dL_refused_104 : decode cL_refused 104 = .ok (.aload_n 0, 1) := by decide +kernel
theorem dL_refused_105 : decode cL_refused 105 = .ok (.iload_n 2, 1) := by decide +kernel
theorem dL_refused_106 : decode cL_refused 106 = .ok (.iconst 1, 1) := by decide +kernel
theorem dL_refused_107 : decode cL_refused 107 = .ok (.invokevirtual 37, 3) := by decide +kernel
theorem dL_refused_110 : decode cL_refused 110 = .ok (.bipush (-2), 2) := by decide +kernel
theorem dL_refused_112 : decode cL_refused 112 = .ok (.if_icmp .ne 279, 3) := by decide +kernel
theorem dL_refused_115 : decode cL_refused 115 = .ok (.aload_n 0, 1) := by decide +kernel
theorem dL_refused_116 : decode cL_refused 116 = .ok (.iconst 0, 1) := by decide +kernel
theorem dL_refused_117 : decode cL_refused 117 = .ok (.iload_n 2, 1) := by decide +kernel
theorem dL_refused_118 : decode cL_refused 118 = .ok (.invokevirtual 37, 3) := by decide +kernel
theorem dL_refused_121 : decode cL_refused 121 = .ok (.bipush (-2), 2) := by decide +kernel
theorem dL_refused_123 : decode cL_refused 123 = .ok (.if_icmp .ne 268, 3) := by decide +kernel
theorem dL_refused_126 : decode cL_refused 126 = .ok (.aload_n 0, 1) := by decide +kernel
theorem dL_refused_127 : decode cL_refused 127 = .ok (.iload_n 2, 1) := by decide +kernel
theorem dL_refused_128 : decode cL_refused 128 = .ok (.invokevirtual 78, 3) := by decide +kernel
theorem dL_refused_131 : decode cL_refused 131 = .ok (.bipush (-2), 2) := by decide +kernel
theorem dL_refused_133 : decode cL_refused 133 = .ok (.if_icmp .ne 258, 3) := by decide +kernel
theorem dL_refused_136 : decode cL_refused 136 = .ok (.aload_n 0, 1) := by decide +kernel
theorem dL_refused_137 : decode cL_refused 137 = .ok (.iload_n 2, 1) := by decide +kernel
theorem dL_refused_138 : decode cL_refused 138 = .ok (.iconst 1, 1) := by decide +kernel
theorem dL_refused_139 : decode cL_refused 139 = .ok (.iconst 1, 1) := by decide +kernel
theorem dL_refused_140 : decode cL_refused 140 = .ok (.invokevirtual 66, 3) := by decide +kernel
theorem dL_refused_143 : decode cL_refused 143 = .ok (.bipush (-2), 2) := by decide +kernel
theorem dL_refused_145 : decode cL_refused 145 = .ok (.if_icmp .ne 246, 3) := by decide +kernel
theorem dL_refused_148 : decode cL_refused 148 = .ok (.aload_n 0, 1) := by decide +kernel
theorem dL_refused_149 : decode cL_refused 149 = .ok (.iconst 0, 1) := by decide +kernel
theorem dL_refused_150 : decode cL_refused 150 = .ok (.iload_n 2, 1) := by decide +kernel
theorem dL_refused_151 : decode cL_refused 151 = .ok (.iconst 1, 1) := by decide +kernel
theorem dL_refused_152 : decode cL_refused 152 = .ok (.invokevirtual 66, 3) := by decide +kernel
theorem dL_refused_155 : decode cL_refused 155 = .ok (.bipush (-2), 2) := by decide +kernel
theorem dL_refused_157 : decode cL_refused 157 = .ok (.if_icmp .ne 234, 3) := by decide +kernel
theorem dL_refused_160 : decode cL_refused 160 = .ok (.aload_n 0, 1) := by decide +kernel
theorem dL_refused_161 : decode cL_refused 161 = .ok (.iconst 0, 1) := by decide +kernel
theorem dL_refused_162 : decode cL_refused 162 = .ok (.iconst 1, 1) := by decide +kernel
theorem dL_refused_163 : decode cL_refused 163 = .ok (.iload_n 2, 1) := by decide +kernel
theorem dL_refused_164 : decode cL_refused 164 = .ok (.invokevirtual 66, 3) := by decide +kernel
theorem dL_refused_167 : decode cL_refused 167 = .ok (.bipush (-2), 2) := by decide +kernel
theorem dL_refused_169 : decode cL_refused 169 = .ok (.if_icmp .ne 222, 3) := by decide +kernel
theorem dL_refused_172 : decode cL_refused 172 = .ok (.aload_n 0, 1) := by decide +kernel
theorem dL_refused_173 : decode cL_refused 173 = .ok (.iload_n 2, 1) := by decide +kernel
theorem dL_refused_174 : decode cL_refused 174 = .ok (.invokevirtual 117, 3) := by decide +kernel
theorem dL_refused_177 : decode cL_refused 177 = .ok (.iconst (-1), 1) := by decide +kernel
theorem dL_refused_178 : decode cL_refused 178 = .ok (.if_icmp .ne 213, 3) := by decide +kernel
theorem dL_refused_181 : decode cL_refused 181 = .ok (.aload_n 0, 1) := by decide +kernel
theorem dL_refused_182 : decode cL_refused 182 = .ok (.iload_n 2, 1) := by decide +kernel
theorem dL_refused_183 : decode cL_refused 183 = .ok (.iconst 0, 1) := by decide +kernel
theorem dL_refused_184 : decode cL_refused 184 = .ok (.invokevirtual 81, 3) := by decide +kernel
theorem dL_refused_187 : decode cL_refused 187 = .ok (.iconst (-1), 1) := by decide +kernel
theorem dL_refused_188 : decode cL_refused 188 = .ok (.if_icmp .ne 203, 3) := by decide +kernel
theorem dL_refused_191 : decode cL_refused 191 = .ok (.aload_n 0, 1) := by decide +kernel
theorem dL_refused_192 : decode cL_refused 192 = .ok (.iload_n 2, 1) := by decide +kernel
theorem dL_refused_193 : decode cL_refused 193 = .ok (.iconst 0, 1) := by decide +kernel
theorem dL_refused_194 : decode cL_refused 194 = .ok (.invokevirtual 69, 3) := by decide +kernel
theorem dL_refused_197 : decode cL_refused 197 = .ok (.iconst (-1), 1) := by decide +kernel
theorem dL_refused_198 : decode cL_refused 198 = .ok (.if_icmp .ne 193, 3) := by decide +kernel
theorem dL_refused_201 : decode cL_refused 201 = .ok (.aload_n 0, 1) := by decide +kernel
theorem dL_refused_202 : decode cL_refused 202 = .ok (.iload_n 2, 1) := by decide +kernel
theorem dL_refused_203 : decode cL_refused 203 = .ok (.iconst 0, 1) := by decide +kernel
theorem dL_refused_204 : decode cL_refused 204 = .ok (.invokevirtual 72, 3) := by decide +kernel
theorem dL_refused_207 : decode cL_refused 207 = .ok (.bipush (-2), 2) := by decide +kernel
theorem dL_refused_209 : decode cL_refused 209 = .ok (.if_icmp .ne 182, 3) := by decide +kernel
theorem dL_refused_212 : decode cL_refused 212 = .ok (.aload_n 0, 1) := by decide +kernel
theorem dL_refused_213 : decode cL_refused 213 = .ok (.iload_n 2, 1) := by decide +kernel
theorem dL_refused_214 : decode cL_refused 214 = .ok (.invokevirtual 87, 3) := by decide +kernel
theorem dL_refused_217 : decode cL_refused 217 = .ok (.bipush (-2), 2) := by decide +kernel
theorem dL_refused_219 : decode cL_refused 219 = .ok (.if_icmp .ne 172, 3) := by decide +kernel
theorem dL_refused_222 : decode cL_refused 222 = .ok (.aload_n 0, 1) := by decide +kernel
theorem dL_refused_223 : decode cL_refused 223 = .ok (.iload_n 2, 1) := by decide +kernel
theorem dL_refused_224 : decode cL_refused 224 = .ok (.iconst 0, 1) := by decide +kernel
theorem dL_refused_225 : decode cL_refused 225 = .ok (.invokevirtual 75, 3) := by decide +kernel
theorem dL_refused_228 : decode cL_refused 228 = .ok (.iconst (-1), 1) := by decide +kernel
theorem dL_refused_229 : decode cL_refused 229 = .ok (.if_icmp .ne 162, 3) := by decide +kernel
theorem dL_refused_232 : decode cL_refused 232 = .ok (.aload_n 0, 1) := by decide +kernel
theorem dL_refused_233 : decode cL_refused 233 = .ok (.iconst 0, 1) := by decide +kernel
theorem dL_refused_234 : decode cL_refused 234 = .ok (.iload_n 2, 1) := by decide +kernel
theorem dL_refused_235 : decode cL_refused 235 = .ok (.invokevirtual 75, 3) := by decide +kernel
theorem dL_refused_238 : decode cL_refused 238 = .ok (.bipush (-2), 2) := by decide +kernel
theorem dL_refused_240 : decode cL_refused 240 = .ok (.if_icmp .ne 151, 3) := by decide +kernel
theorem dL_refused_243 : decode cL_refused 243 = .ok (.aload_n 0, 1) := by decide +kernel
theorem dL_refused_244 : decode cL_refused 244 = .ok (.iload_n 2, 1) := by decide +kernel
theorem dL_refused_245 : decode cL_refused 245 = .ok (.iconst 0, 1) := by decide +kernel
theorem dL_refused_246 : decode cL_refused 246 = .ok (.invokevirtual 84, 3) := by decide +kernel
theorem dL_refused_249 : decode cL_refused 249 = .ok (.iconst (-1), 1) := by decide +kernel
theorem dL_refused_250 : decode cL_refused 250 = .ok (.if_icmp .ne 141, 3) := by decide +kernel
theorem dL_refused_253 : decode cL_refused 253 = .ok (.aload_n 0, 1) := by decide +kernel
theorem dL_refused_254 : decode cL_refused 254 = .ok (.iconst 0, 1) := by decide +kernel
theorem dL_refused_255 : decode cL_refused 255 = .ok (.iload_n 2, 1) := by decide +kernel
theorem dL_refused_256 : decode cL_refused 256 = .ok (.invokevirtual 84, 3) := by decide +kernel
theorem dL_refused_259 : decode cL_refused 259 = .ok (.bipush (-2), 2) := by decide +kernel
theorem dL_refused_261 : decode cL_refused 261 = .ok (.if_icmp .ne 130, 3) := by decide +kernel
theorem dL_refused_264 : decode cL_refused 264 = .ok (.aload_n 0, 1) := by decide +kernel
theorem dL_refused_265 : decode cL_refused 265 = .ok (.iload_n 2, 1) := by decide +kernel
theorem dL_refused_266 : decode cL_refused 266 = .ok (.invokevirtual 120, 3) := by decide +kernel
theorem dL_refused_269 : decode cL_refused 269 = .ok (.ldc 124, 2) := by decide +kernel
theorem dL_refused_271 : decode cL_refused 271 = .ok (.fcmp .l, 1) := by decide +kernel
theorem dL_refused_272 : decode cL_refused 272 = .ok (.ifCond .ne 119, 3) := by decide +kernel
theorem dL_refused_275 : decode cL_refused 275 = .ok (.aload_n 0, 1) := by decide +kernel
theorem dL_refused_276 : decode cL_refused 276 = .ok (.iload_n 2, 1) := by decide +kernel
theorem dL_refused_277 : decode cL_refused 277 = .ok (.invokevirtual 63, 3) := by decide +kernel
theorem dL_refused_280 : decode cL_refused 280 = .ok (.bipush (-2), 2) := by decide +kernel
theorem dL_refused_282 : decode cL_refused 282 = .ok (.if_icmp .ne 109, 3) := by decide +kernel
theorem dL_refused_285 : decode cL_refused 285 = .ok (.aload_n 0, 1) := by decide +kernel
theorem dL_refused_286 : decode cL_refused 286 = .ok (.iload_n 2, 1) := by decide +kernel
theorem dL_refused_287 : decode cL_refused 287 = .ok (.iconst 0, 1) := by decide +kernel
theorem dL_refused_288 : decode cL_refused 288 = .ok (.iconst 0, 1) := by decide +kernel
theorem dL_refused_289 : decode cL_refused 289 = .ok (.invokevirtual 96, 3) := by decide +kernel
theorem dL_refused_292 : decode cL_refused 292 = .ok (.bipush (-2), 2) := by decide +kernel
theorem dL_refused_294 : decode cL_refused 294 = .ok (.if_icmp .ne 97, 3) := by decide +kernel
theorem dL_refused_297 : decode cL_refused 297 = .ok (.aload_n 0, 1) := by decide +kernel
theorem dL_refused_298 : decode cL_refused 298 = .ok (.iconst 1, 1) := by decide +kernel
theorem dL_refused_299 : decode cL_refused 299 = .ok (.iload_n 2, 1) := by decide +kernel
theorem dL_refused_300 : decode cL_refused 300 = .ok (.iconst 0, 1) := by decide +kernel
theorem dL_refused_301 : decode cL_refused 301 = .ok (.invokevirtual 96, 3) := by decide +kernel
theorem dL_refused_304 : decode cL_refused 304 = .ok (.iconst (-1), 1) := by decide +kernel
theorem dL_refused_305 : decode cL_refused 305 = .ok (.if_icmp .ne 86, 3) := by decide +kernel
theorem dL_refused_308 : decode cL_refused 308 = .ok (.aload_n 0, 1) := by decide +kernel
theorem dL_refused_309 : decode cL_refused 309 = .ok (.iconst 1, 1) := by decide +kernel
theorem dL_refused_310 : decode cL_refused 310 = .ok (.iload_n 2, 1) := by decide +kernel
theorem dL_refused_311 : decode cL_refused 311 = .ok (.iconst 3, 1) := by decide +kernel
theorem dL_refused_312 : decode cL_refused 312 = .ok (.invokevirtual 96, 3) := by decide +kernel
theorem dL_refused_315 : decode cL_refused 315 = .ok (.ifCond .ne 76, 3) := by decide +kernel
theorem dL_refused_318 : decode cL_refused 318 = .ok (.aload_n 0, 1) := by decide +kernel
theorem dL_refused_319 : decode cL_refused 319 = .ok (.iload_n 2, 1) := by decide +kernel
theorem dL_refused_320 : decode cL_refused 320 = .ok (.iconst 0, 1) := by decide +kernel
theorem dL_refused_321 : decode cL_refused 321 = .ok (.iconst 1, 1) := by decide +kernel
theorem dL_refused_322 : decode cL_refused 322 = .ok (.invokevirtual 105, 3) := by decide +kernel
theorem dL_refused_325 : decode cL_refused 325 = .ok (.iconst (-1), 1) := by decide +kernel
theorem dL_refused_326 : decode cL_refused 326 = .ok (.if_icmp .ne 65, 3) := by decide +kernel
theorem dL_refused_329 : decode cL_refused 329 = .ok (.aload_n 0, 1) := by decide +kernel
theorem dL_refused_330 : decode cL_refused 330 = .ok (.iload_n 2, 1) := by decide +kernel
theorem dL_refused_331 : decode cL_refused 331 = .ok (.invokevirtual 108, 3) := by decide +kernel
theorem dL_refused_334 : decode cL_refused 334 = .ok (.bipush (-2), 2) := by decide +kernel
theorem dL_refused_336 : decode cL_refused 336 = .ok (.if_icmp .ne 55, 3) := by decide +kernel
theorem dL_refused_339 : decode cL_refused 339 = .ok (.aload_n 0, 1) := by decide +kernel
theorem dL_refused_340 : decode cL_refused 340 = .ok (.iload_n 2, 1) := by decide +kernel
theorem dL_refused_341 : decode cL_refused 341 = .ok (.invokevirtual 125, 3) := by decide +kernel
theorem dL_refused_344 : decode cL_refused 344 = .ok (.bipush (-2), 2) := by decide +kernel
theorem dL_refused_346 : decode cL_refused 346 = .ok (.if_icmp .ne 45, 3) := by decide +kernel
theorem dL_refused_349 : decode cL_refused 349 = .ok (.aload_n 0, 1) := by decide +kernel
theorem dL_refused_350 : decode cL_refused 350 = .ok (.iload_n 2, 1) := by decide +kernel
theorem dL_refused_351 : decode cL_refused 351 = .ok (.invokevirtual 128, 3) := by decide +kernel
theorem dL_refused_354 : decode cL_refused 354 = .ok (.bipush (-3), 2) := by decide +kernel
theorem dL_refused_356 : decode cL_refused 356 = .ok (.if_icmp .ne 35, 3) := by decide +kernel
theorem dL_refused_359 : decode cL_refused 359 = .ok (.aload_n 0, 1) := by decide +kernel
theorem dL_refused_360 : decode cL_refused 360 = .ok (.iload_n 2, 1) := by decide +kernel
theorem dL_refused_361 : decode cL_refused 361 = .ok (.invokevirtual 99, 3) := by decide +kernel
theorem dL_refused_364 : decode cL_refused 364 = .ok (.bipush (-2), 2) := by decide +kernel
theorem dL_refused_366 : decode cL_refused 366 = .ok (.if_icmp .ne 25, 3) := by decide +kernel
theorem dL_refused_369 : decode cL_refused 369 = .ok (.aload_n 0, 1) := by decide +kernel
theorem dL_refused_370 : decode cL_refused 370 = .ok (.iload_n 2, 1) := by decide +kernel
theorem dL_refused_371 : decode cL_refused 371 = .ok (.invokevirtual 102, 3) := by decide +kernel
theorem dL_refused_374 : decode cL_refused 374 = .ok (.bipush (-2), 2) := by decide +kernel
theorem dL_refused_376 : decode cL_refused 376 = .ok (.if_icmp .ne 15, 3) := by decide +kernel
theorem dL_refused_379 : decode cL_refused 379 = .ok (.aload_n 0, 1) := by decide +kernel
theorem dL_refused_380 : decode cL_refused 380 = .ok (.iconst 0, 1) := by decide +kernel
theorem dL_refused_381 : decode cL_refused 381 = .ok (.invokevirtual 63, 3) := by decide +kernel
theorem dL_refused_384 : decode cL_refused 384 = .ok (.ifCond .ne 7, 3) := by decide +kernel
theorem dL_refused_387 : decode cL_refused 387 = .ok (.iconst 1, 1) := by decide +kernel
theorem dL_refused_388 : decode cL_refused 388 = .ok (.goto 4, 3) := by decide +kernel
theorem dL_refused_391 : decode cL_refused 391 = .ok (.iconst 0, 1) := by decide +kernel
theorem dL_refused_392 : decode cL_refused 392 = .ok (.ireturn, 1) := by decide +kernel
