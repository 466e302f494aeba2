theorem dL_cell_0 : decode cL_cell 0 = .ok (.iload_n 1, 1) := by decide +kernel
theorem dL_cell_1 : decode cL_cell 1 = .ok (.aload_n 0, 1) := by decide +kernel
theorem dL_cell_2 : decode cL_cell 2 = .ok (.arraylength, 1) := by decide +kernel
theorem dL_cell_3 : decode cL_cell 3 = .ok (.if_icmp .ge 9, 3) := by decide +kernel
theorem dL_cell_6 : decode cL_cell 6 = .ok (.aload_n 0, 1) := by decide +kernel
theorem dL_cell_7 : decode cL_cell 7 = .ok (.iload_n 1, 1) := by decide +kernel
theorem dL_cell_8 : decode cL_cell 8 = .ok (.iaload, 1) := by decide +kernel
theorem dL_cell_9 : decode cL_cell 9 = .ok (.goto 15, 3) := by decide +kernel
theorem dL_cell_12 : decode cL_cell 12 = .ok (.sipush 7919, 3) := by decide +kernel
theorem dL_cell_15 : decode cL_cell 15 = .ok (.iload_n 1, 1) := by decide +kernel
theorem dL_cell_16 : decode cL_cell 16 = .ok (.iconst 3, 1) := by decide +kernel
theorem dL_cell_17 : decode cL_cell 17 = .ok (.iadd, 1) := by decide +kernel
theorem dL_cell_18 : decode cL_cell 18 = .ok (.imul, 1) := by decide +kernel
theorem dL_cell_19 : decode cL_cell 19 = .ok (.iload_n 1, 1) := by decide +kernel
theorem dL_cell_20 : decode cL_cell 20 = .ok (.bipush 11, 2) := by decide +kernel
theorem dL_cell_22 : decode cL_cell 22 = .ok (.iadd, 1) := by decide +kernel
theorem dL_cell_23 : decode cL_cell 23 = .ok (.imul, 1) := by decide +kernel
theorem dL_cell_24 : decode cL_cell 24 = .ok (.ireturn, 1) := by decide +kernel
theorem dL_low_0 : decode cL_low 0 = .ok (.iload_n 0, 1) := by decide +kernel
theorem dL_low_1 : decode cL_low 1 = .ok (.ldc 7, 2) := by decide +kernel
theorem dL_low_3 : decode cL_low 3 = .ok (.iand, 1) := by decide +kernel
theorem dL_low_4 : decode cL_low 4 = .ok (.iload_n 1, 1) := by decide +kernel
theorem dL_low_5 : decode cL_low 5 = .ok (.irem, 1) := by decide +kernel
theorem dL_low_6 : decode cL_low 6 = .ok (.ireturn, 1) := by decide +kernel
theorem dL_jar_0 : decode cL_jar 0 = .ok (.aload_n 0, 1) := by decide +kernel
theorem dL_jar_1 : decode cL_jar 1 = .ok (.iconst 0, 1) := by decide +kernel
theorem dL_jar_2 : decode cL_jar 2 = .ok (.invokevirtual 8, 3) := by decide +kernel
theorem dL_jar_5 : decode cL_jar 5 = .ok (.istore_n 2, 1) := by decide +kernel
theorem dL_jar_6 : decode cL_jar 6 = .ok (.iload_n 2, 1) := by decide +kernel
theorem dL_jar_7 : decode cL_jar 7 = .ok (.ifCond .ne 7, 3) := by decide +kernel
theorem dL_jar_10 : decode cL_jar 10 = .ok (.iconst (-1), 1) := by decide +kernel
theorem dL_jar_11 : decode cL_jar 11 = .ok (.goto 12, 3) := by decide +kernel
theorem dL_jar_14 : decode cL_jar 14 = .ok (.aload_n 0, 1) := by decide +kernel
theorem dL_jar_15 : decode cL_jar 15 = .ok (.iload_n 1, 1) := by decide +kernel
theorem dL_jar_16 : decode cL_jar 16 = .ok (.iload_n 2, 1) := by decide +kernel
theorem dL_jar_17 : decode cL_jar 17 = .ok (.invokestatic 14, 3) := by decide +kernel
theorem dL_jar_20 : decode cL_jar 20 = .ok (.invokevirtual 20, 3) := by decide +kernel
theorem dL_jar_23 : decode cL_jar 23 = .ok (.ireturn, 1) := by decide +kernel
theorem dL_mix_0 : decode cL_mix 0 = .ok (.iload_n 0, 1) := by decide +kernel
theorem dL_mix_1 : decode cL_mix 1 = .ok (.sipush 6561, 3) := by decide +kernel
theorem dL_mix_4 : decode cL_mix 4 = .ok (.invokestatic 14, 3) := by decide +kernel
theorem dL_mix_7 : decode cL_mix 7 = .ok (.istore_n 1, 1) := by decide +kernel
theorem dL_mix_8 : decode cL_mix 8 = .ok (.iload_n 0, 1) := by decide +kernel
theorem dL_mix_9 : decode cL_mix 9 = .ok (.iconst 3, 1) := by decide +kernel
theorem dL_mix_10 : decode cL_mix 10 = .ok (.ishr, 1) := by decide +kernel
theorem dL_mix_11 : decode cL_mix 11 = .ok (.iconst 1, 1) := by decide +kernel
theorem dL_mix_12 : decode cL_mix 12 = .ok (.iand, 1) := by decide +kernel
theorem dL_mix_13 : decode cL_mix 13 = .ok (.ifCond .ne 7, 3) := by decide +kernel
theorem dL_mix_16 : decode cL_mix 16 = .ok (.iload_n 1, 1) := by decide +kernel
theorem dL_mix_17 : decode cL_mix 17 = .ok (.goto 25, 3) := by decide +kernel
theorem dL_mix_20 : decode cL_mix 20 = .ok (.iload_n 0, 1) := by decide +kernel
theorem dL_mix_21 : decode cL_mix 21 = .ok (.iconst 4, 1) := by decide +kernel
theorem dL_mix_22 : decode cL_mix 22 = .ok (.ishr, 1) := by decide +kernel
theorem dL_mix_23 : decode cL_mix 23 = .ok (.iconst 1, 1) := by decide +kernel
theorem dL_mix_24 : decode cL_mix 24 = .ok (.iand, 1) := by decide +kernel
theorem dL_mix_25 : decode cL_mix 25 = .ok (.ifCond .ne 10, 3) := by decide +kernel
theorem dL_mix_28 : decode cL_mix 28 = .ok (.iload_n 1, 1) := by decide +kernel
theorem dL_mix_29 : decode cL_mix 29 = .ok (.bipush 81, 2) := by decide +kernel
theorem dL_mix_31 : decode cL_mix 31 = .ok (.irem, 1) := by decide +kernel
theorem dL_mix_32 : decode cL_mix 32 = .ok (.goto 10, 3) := by decide +kernel
theorem dL_mix_35 : decode cL_mix 35 = .ok (.iload_n 1, 1) := by decide +kernel
theorem dL_mix_36 : decode cL_mix 36 = .ok (.bipush 9, 2) := by decide +kernel
theorem dL_mix_38 : decode cL_mix 38 = .ok (.irem, 1) := by decide +kernel
theorem dL_mix_39 : decode cL_mix 39 = .ok (.bipush 81, 2) := by decide +kernel
theorem dL_mix_41 : decode cL_mix 41 = .ok (.imul, 1) := by decide +kernel
theorem dL_mix_42 : decode cL_mix 42 = .ok (.ireturn, 1) := by decide +kernel
theorem dL_does_0 : decode cL_does 0 = .ok (.aload_n 0, 1) := by decide +kernel
theorem dL_does_1 : decode cL_does 1 = .ok (.iload_n 1, 1) := by decide +kernel
theorem dL_does_2 : decode cL_does 2 = .ok (.iconst 4, 1) := by decide +kernel
theorem dL_does_3 : decode cL_does 3 = .ok (.ishr, 1) := by decide +kernel
theorem dL_does_4 : decode cL_does 4 = .ok (.invokestatic 23, 3) := by decide +kernel
theorem dL_does_7 : decode cL_does 7 = .ok (.istore_n 2, 1) := by decide +kernel
theorem dL_does_8 : decode cL_does 8 = .ok (.aload_n 0, 1) := by decide +kernel
theorem dL_does_9 : decode cL_does 9 = .ok (.iload_n 1, 1) := by decide +kernel
theorem dL_does_10 : decode cL_does 10 = .ok (.bipush 8, 2) := by decide +kernel
theorem dL_does_12 : decode cL_does 12 = .ok (.ishr, 1) := by decide +kernel
theorem dL_does_13 : decode cL_does 13 = .ok (.invokestatic 23, 3) := by decide +kernel
theorem dL_does_16 : decode cL_does 16 = .ok (.istore_n 3, 1) := by decide +kernel
theorem dL_does_17 : decode cL_does 17 = .ok (.iconst 0, 1) := by decide +kernel
theorem dL_does_18 : decode cL_does 18 = .ok (.istore 4, 2) := by decide +kernel
theorem dL_does_20 : decode cL_does 20 = .ok (.iload_n 1, 1) := by decide +kernel
theorem dL_does_21 : decode cL_does 21 = .ok (.bipush 15, 2) := by decide +kernel
theorem dL_does_23 : decode cL_does 23 = .ok (.iand, 1) := by decide +kernel
theorem dL_does_24 : decode cL_does 24 = .ok (.tableswitch 332 0 13 #[72, 72, 72, 72, 97, 97, 132, 161, 184, 184, 220, 248, 285, 285], 72) := by decide +kernel
theorem dL_does_96 : decode cL_does 96 = .ok (.aload_n 0, 1) := by decide +kernel
theorem dL_does_97 : decode cL_does 97 = .ok (.iconst 0, 1) := by decide +kernel
theorem dL_does_98 : decode cL_does 98 = .ok (.invokevirtual 8, 3) := by decide +kernel
theorem dL_does_101 : decode cL_does 101 = .ok (.bipush 6, 2) := by decide +kernel
theorem dL_does_103 : decode cL_does 103 = .ok (.if_icmp .le 7, 3) := by decide +kernel
theorem dL_does_106 : decode cL_does 106 = .ok (.iconst 0, 1) := by decide +kernel
theorem dL_does_107 : decode cL_does 107 = .ok (.goto 13, 3) := by decide +kernel
theorem dL_does_110 : decode cL_does 110 = .ok (.aload_n 0, 1) := by decide +kernel
theorem dL_does_111 : decode cL_does 111 = .ok (.iload_n 1, 1) := by decide +kernel
theorem dL_does_112 : decode cL_does 112 = .ok (.iconst 4, 1) := by decide +kernel
theorem dL_does_113 : decode cL_does 113 = .ok (.ishr, 1) := by decide +kernel
theorem dL_does_114 : decode cL_does 114 = .ok (.invokestatic 27, 3) := by decide +kernel
theorem dL_does_117 : decode cL_does 117 = .ok (.invokevirtual 30, 3) := by decide +kernel
theorem dL_does_120 : decode cL_does 120 = .ok (.ireturn, 1) := by decide +kernel
theorem dL_does_121 : decode cL_does 121 = .ok (.iload_n 2, 1) := by decide +kernel
theorem dL_does_122 : decode cL_does 122 = .ok (.ifCond .lt 8, 3) := by decide +kernel
theorem dL_does_125 : decode cL_does 125 = .ok (.iload_n 2, 1) := by decide +kernel
theorem dL_does_126 : decode cL_does 126 = .ok (.iload_n 3, 1) := by decide +kernel
theorem dL_does_127 : decode cL_does 127 = .ok (.if_icmp .ne 7, 3) := by decide +kernel
theorem dL_does_130 : decode cL_does 130 = .ok (.iconst 0, 1) := by decide +kernel
theorem dL_does_131 : decode cL_does 131 = .ok (.goto 9, 3) := by decide +kernel
theorem dL_does_134 : decode cL_does 134 = .ok (.aload_n 0, 1) := by decide +kernel
theorem dL_does_135 : decode cL_does 135 = .ok (.iload_n 2, 1) := by decide +kernel
theorem dL_does_136 : decode cL_does 136 = .ok (.iload_n 3, 1) := by decide +kernel
theorem dL_does_137 : decode cL_does 137 = .ok (.invokevirtual 32, 3) := by decide +kernel
theorem dL_does_140 : decode cL_does 140 = .ok (.istore 4, 2) := by decide +kernel
theorem dL_does_142 : decode cL_does 142 = .ok (.iload 4, 2) := by decide +kernel
theorem dL_does_144 : decode cL_does 144 = .ok (.bipush (-5), 2) := by decide +kernel
theorem dL_does_146 : decode cL_does 146 = .ok (.if_icmp .ne 7, 3) := by decide +kernel
theorem dL_does_149 : decode cL_does 149 = .ok (.iconst 0, 1) := by decide +kernel
theorem dL_does_150 : decode cL_does 150 = .ok (.goto 5, 3) := by decide +kernel
theorem dL_does_153 : decode cL_does 153 = .ok (.iload 4, 2) := by decide +kernel
theorem dL_does_155 : decode cL_does 155 = .ok (.ireturn, 1) := by decide +kernel
theorem dL_does_156 : decode cL_does 156 = .ok (.iload_n 2, 1) := by decide +kernel
theorem dL_does_157 : decode cL_does 157 = .ok (.ifCond .ge 7, 3) := by decide +kernel
theorem dL_does_160 : decode cL_does 160 = .ok (.iconst 0, 1) := by decide +kernel
theorem dL_does_161 : decode cL_does 161 = .ok (.goto 8, 3) := by decide +kernel
theorem dL_does_164 : decode cL_does 164 = .ok (.aload_n 0, 1) := by decide +kernel
theorem dL_does_165 : decode cL_does 165 = .ok (.iload_n 2, 1) := by decide +kernel
theorem dL_does_166 : decode cL_does 166 = .ok (.invokevirtual 35, 3) := by decide +kernel
theorem dL_does_169 : decode cL_does 169 = .ok (.istore 4, 2) := by decide +kernel
theorem dL_does_171 : decode cL_does 171 = .ok (.iload 4, 2) := by decide +kernel
theorem dL_does_173 : decode cL_does 173 = .ok (.bipush (-5), 2) := by decide +kernel
theorem dL_does_175 : decode cL_does 175 = .ok (.if_icmp .ne 7, 3) := by decide +kernel
theorem dL_does_178 : decode cL_does 178 = .ok (.iconst 0, 1) := by decide +kernel
theorem dL_does_179 : decode cL_does 179 = .ok (.goto 5, 3) := by decide +kernel
theorem dL_does_182 : decode cL_does 182 = .ok (.iload 4, 2) := by decide +kernel
theorem dL_does_184 : decode cL_does 184 = .ok (.ireturn, 1) := by decide +kernel
theorem dL_does_185 : decode cL_does 185 = .ok (.iload_n 2, 1) := by decide +kernel
theorem dL_does_186 : decode cL_does 186 = .ok (.ifCond .lt 12, 3) := by decide +kernel
theorem dL_does_189 : decode cL_does 189 = .ok (.iload_n 1, 1) := by decide +kernel
theorem dL_does_190 : decode cL_does 190 = .ok (.bipush 12, 2) := by decide +kernel
theorem dL_does_192 : decode cL_does 192 = .ok (.ishr, 1) := by decide +kernel
theorem dL_does_193 : decode cL_does 193 = .ok (.iconst 1, 1) := by decide +kernel
theorem dL_does_194 : decode cL_does 194 = .ok (.iand, 1) := by decide +kernel
theorem dL_does_195 : decode cL_does 195 = .ok (.ifCond .ne 7, 3) := by decide +kernel
theorem dL_does_198 : decode cL_does 198 = .ok (.iconst 0, 1) := by decide +kernel
theorem dL_does_199 : decode cL_does 199 = .ok (.goto 8, 3) := by decide +kernel
theorem dL_does_202 : decode cL_does 202 = .ok (.aload_n 0, 1) := by decide +kernel
theorem dL_does_203 : decode cL_does 203 = .ok (.iload_n 2, 1) := by decide +kernel
theorem dL_does_204 : decode cL_does 204 = .ok (.invokevirtual 38, 3) := by decide +kernel
theorem dL_does_207 : decode cL_does 207 = .ok (.ireturn, 1) := by decide +kernel
theorem dL_does_208 : decode cL_does 208 = .ok (.aload_n 0, 1) := by decide +kernel
theorem dL_does_209 : decode cL_does 209 = .ok (.iconst 1, 1) := by decide +kernel
theorem dL_does_210 : decode cL_does 210 = .ok (.invokevirtual 8, 3) := by decide +kernel
theorem dL_does_213 : decode cL_does 213 = .ok (.bipush 8, 2) := by decide +kernel
theorem dL_does_215 : decode cL_does 215 = .ok (.if_icmp .ne 18, 3) := by decide +kernel
theorem dL_does_218 : decode cL_does 218 = .ok (.aload_n 0, 1) := by decide +kernel
theorem dL_does_219 : decode cL_does 219 = .ok (.iload_n 1, 1) := by decide +kernel
theorem dL_does_220 : decode cL_does 220 = .ok (.iconst 4, 1) := by decide +kernel
theorem dL_does_221 : decode cL_does 221 = .ok (.ishr, 1) := by decide +kernel
theorem dL_does_222 : decode cL_does 222 = .ok (.bipush 8, 2) := by decide +kernel
theorem dL_does_224 : decode cL_does 224 = .ok (.invokestatic 14, 3) := by decide +kernel
theorem dL_does_227 : decode cL_does 227 = .ok (.invokevirtual 41, 3) := by decide +kernel
theorem dL_does_230 : decode cL_does 230 = .ok (.goto 13, 3) := by decide +kernel
theorem dL_does_233 : decode cL_does 233 = .ok (.aload_n 0, 1) := by decide +kernel
theorem dL_does_234 : decode cL_does 234 = .ok (.iload_n 1, 1) := by decide +kernel
theorem dL_does_235 : decode cL_does 235 = .ok (.iconst 4, 1) := by decide +kernel
theorem dL_does_236 : decode cL_does 236 = .ok (.ishr, 1) := by decide +kernel
theorem dL_does_237 : decode cL_does 237 = .ok (.invokestatic 27, 3) := by decide +kernel
theorem dL_does_240 : decode cL_does 240 = .ok (.invokevirtual 44, 3) := by decide +kernel
theorem dL_does_243 : decode cL_does 243 = .ok (.ireturn, 1) := by decide +kernel
theorem dL_does_244 : decode cL_does 244 = .ok (.aload_n 0, 1) := by decide +kernel
theorem dL_does_245 : decode cL_does 245 = .ok (.iconst 1, 1) := by decide +kernel
theorem dL_does_246 : decode cL_does 246 = .ok (.invokevirtual 8, 3) := by decide +kernel
theorem dL_does_249 : decode cL_does 249 = .ok (.ifCond .ne 7, 3) := by decide +kernel
theorem dL_does_252 : decode cL_does 252 = .ok (.iconst 0, 1) := by decide +kernel
theorem dL_does_253 : decode cL_does 253 = .ok (.goto 18, 3) := by decide +kernel
theorem dL_does_256 : decode cL_does 256 = .ok (.aload_n 0, 1) := by decide +kernel
theorem dL_does_257 : decode cL_does 257 = .ok (.iload_n 1, 1) := by decide +kernel
theorem dL_does_258 : decode cL_does 258 = .ok (.iconst 4, 1) := by decide +kernel
theorem dL_does_259 : decode cL_does 259 = .ok (.ishr, 1) := by decide +kernel
theorem dL_does_260 : decode cL_does 260 = .ok (.aload_n 0, 1) := by decide +kernel
theorem dL_does_261 : decode cL_does 261 = .ok (.iconst 1, 1) := by decide +kernel
theorem dL_does_262 : decode cL_does 262 = .ok (.invokevirtual 8, 3) := by decide +kernel
theorem dL_does_265 : decode cL_does 265 = .ok (.invokestatic 14, 3) := by decide +kernel
theorem dL_does_268 : decode cL_does 268 = .ok (.invokevirtual 41, 3) := by decide +kernel
theorem dL_does_271 : decode cL_does 271 = .ok (.ireturn, 1) := by decide +kernel
theorem dL_does_272 : decode cL_does 272 = .ok (.aload_n 0, 1) := by decide +kernel
theorem dL_does_273 : decode cL_does 273 = .ok (.iload_n 1, 1) := by decide +kernel
theorem dL_does_274 : decode cL_does 274 = .ok (.iconst 4, 1) := by decide +kernel
theorem dL_does_275 : decode cL_does 275 = .ok (.ishr, 1) := by decide +kernel
theorem dL_does_276 : decode cL_does 276 = .ok (.bipush 8, 2) := by decide +kernel
theorem dL_does_278 : decode cL_does 278 = .ok (.invokestatic 14, 3) := by decide +kernel
theorem dL_does_281 : decode cL_does 281 = .ok (.iload_n 1, 1) := by decide +kernel
theorem dL_does_282 : decode cL_does 282 = .ok (.bipush 7, 2) := by decide +kernel
theorem dL_does_284 : decode cL_does 284 = .ok (.ishr, 1) := by decide +kernel
theorem dL_does_285 : decode cL_does 285 = .ok (.bipush 100, 2) := by decide +kernel
theorem dL_does_287 : decode cL_does 287 = .ok (.invokestatic 14, 3) := by decide +kernel
theorem dL_does_290 : decode cL_does 290 = .ok (.invokevirtual 47, 3) := by decide +kernel
theorem dL_does_293 : decode cL_does 293 = .ok (.istore 4, 2) := by decide +kernel
theorem dL_does_295 : decode cL_does 295 = .ok (.iload 4, 2) := by decide +kernel
theorem dL_does_297 : decode cL_does 297 = .ok (.bipush (-5), 2) := by decide +kernel
theorem dL_does_299 : decode cL_does 299 = .ok (.if_icmp .ne 7, 3) := by decide +kernel
theorem dL_does_302 : decode cL_does 302 = .ok (.iconst 0, 1) := by decide +kernel
theorem dL_does_303 : decode cL_does 303 = .ok (.goto 5, 3) := by decide +kernel
theorem dL_does_306 : decode cL_does 306 = .ok (.iload 4, 2) := by decide +kernel
theorem dL_does_308 : decode cL_does 308 = .ok (.ireturn, 1) := by decide +kernel
theorem dL_does_309 : decode cL_does 309 = .ok (.aload_n 0, 1) := by decide +kernel
theorem dL_does_310 : decode cL_does 310 = .ok (.bipush 6, 2) := by decide +kernel
theorem dL_does_312 : decode cL_does 312 = .ok (.invokevirtual 8, 3) := by decide +kernel
theorem dL_does_315 : decode cL_does 315 = .ok (.bipush 8, 2) := by decide +kernel
theorem dL_does_317 : decode cL_does 317 = .ok (.if_icmp .ne 7, 3) := by decide +kernel
theorem dL_does_320 : decode cL_does 320 = .ok (.iconst 0, 1) := by decide +kernel
theorem dL_does_321 : decode cL_does 321 = .ok (.goto 34, 3) := by decide +kernel
theorem dL_does_324 : decode cL_does 324 = .ok (.aload_n 0, 1) := by decide +kernel
theorem dL_does_325 : decode cL_does 325 = .ok (.iload_n 2, 1) := by decide +kernel
theorem dL_does_326 : decode cL_does 326 = .ok (.ifCond .lt 11, 3) := by decide +kernel
theorem dL_does_329 : decode cL_does 329 = .ok (.iload_n 1, 1) := by decide +kernel
theorem dL_does_330 : decode cL_does 330 = .ok (.iconst 4, 1) := by decide +kernel
theorem dL_does_331 : decode cL_does 331 = .ok (.ishr, 1) := by decide +kernel
theorem dL_does_332 : decode cL_does 332 = .ok (.iconst 1, 1) := by decide +kernel
theorem dL_does_333 : decode cL_does 333 = .ok (.iand, 1) := by decide +kernel
theorem dL_does_334 : decode cL_does 334 = .ok (.ifCond .ne 12, 3) := by decide +kernel
theorem dL_does_337 : decode cL_does 337 = .ok (.iload_n 1, 1) := by decide +kernel
theorem dL_does_338 : decode cL_does 338 = .ok (.iconst 5, 1) := by decide +kernel
theorem dL_does_339 : decode cL_does 339 = .ok (.ishr, 1) := by decide +kernel
theorem dL_does_340 : decode cL_does 340 = .ok (.invokestatic 27, 3) := by decide +kernel
theorem dL_does_343 : decode cL_does 343 = .ok (.goto 9, 3) := by decide +kernel
theorem dL_does_346 : decode cL_does 346 = .ok (.aload_n 0, 1) := by decide +kernel
theorem dL_does_347 : decode cL_does 347 = .ok (.iload_n 2, 1) := by decide +kernel
theorem dL_does_348 : decode cL_does 348 = .ok (.iconst 0, 1) := by decide +kernel
theorem dL_does_349 : decode cL_does 349 = .ok (.invokevirtual 50, 3) := by decide +kernel
theorem dL_does_352 : decode cL_does 352 = .ok (.invokevirtual 53, 3) := by decide +kernel
theorem dL_does_355 : decode cL_does 355 = .ok (.ireturn, 1) := by decide +kernel
theorem dL_does_356 : decode cL_does 356 = .ok (.aload_n 0, 1) := by decide +kernel
theorem dL_does_357 : decode cL_does 357 = .ok (.invokevirtual 56, 3) := by decide +kernel
theorem dL_does_360 : decode cL_does 360 = .ok (.istore 4, 2) := by decide +kernel
theorem dL_does_362 : decode cL_does 362 = .ok (.iload 4, 2) := by decide +kernel
theorem dL_does_364 : decode cL_does 364 = .ok (.bipush (-5), 2) := by decide +kernel
theorem dL_does_366 : decode cL_does 366 = .ok (.if_icmp .ne 7, 3) := by decide +kernel
theorem dL_does_369 : decode cL_does 369 = .ok (.iconst 0, 1) := by decide +kernel
theorem dL_does_370 : decode cL_does 370 = .ok (.goto 5, 3) := by decide +kernel
theorem dL_does_373 : decode cL_does 373 = .ok (.iload 4, 2) := by decide +kernel
theorem dL_does_375 : decode cL_does 375 = .ok (.ireturn, 1) := by decide +kernel
theorem dL_areAccountsSo_0 : decode cL_areAccountsSo 0 = .ok (.iconst 0, 1) := by decide +kernel
theorem dL_areAccountsSo_1 : decode cL_areAccountsSo 1 = .ok (.istore_n 2, 1) := by decide +kernel
theorem dL_areAccountsSo_2 : decode cL_areAccountsSo 2 = .ok (.iconst 0, 1) := by decide +kernel
theorem dL_areAccountsSo_3 : decode cL_areAccountsSo 3 = .ok (.istore_n 3, 1) := by decide +kernel
theorem dL_areAccountsSo_4 : decode cL_areAccountsSo 4 = .ok (.iconst (-1), 1) := by decide +kernel
theorem dL_areAccountsSo_5 : decode cL_areAccountsSo 5 = .ok (.istore 4, 2) := by decide +kernel
theorem dL_areAccountsSo_7 : decode cL_areAccountsSo 7 = .ok (.iconst 1, 1) := by decide +kernel
theorem dL_areAccountsSo_8 : decode cL_areAccountsSo 8 = .ok (.istore 5, 2) := by decide +kernel
theorem dL_areAccountsSo_10 : decode cL_areAccountsSo 10 = .ok (.iconst 0, 1) := by decide +kernel
theorem dL_areAccountsSo_11 : decode cL_areAccountsSo 11 = .ok (.istore 6, 2) := by decide +kernel
theorem dL_areAccountsSo_13 : decode cL_areAccountsSo 13 = .ok (.iload 6, 2) := by decide +kernel
theorem dL_areAccountsSo_15 : decode cL_areAccountsSo 15 = .ok (.aload_n 0, 1) := by decide +kernel
theorem dL_areAccountsSo_16 : decode cL_areAccountsSo 16 = .ok (.iconst 0, 1) := by decide +kernel
theorem dL_areAccountsSo_17 : decode cL_areAccountsSo 17 = .ok (.invokevirtual 8, 3) := by decide +kernel
theorem dL_areAccountsSo_20 : decode cL_areAccountsSo 20 = .ok (.if_icmp .ge 141, 3) := by decide +kernel
theorem dL_areAccountsSo_23 : decode cL_areAccountsSo 23 = .ok (.aload_n 0, 1) := by decide +kernel
theorem dL_areAccountsSo_24 : decode cL_areAccountsSo 24 = .ok (.iload 6, 2) := by decide +kernel
theorem dL_areAccountsSo_26 : decode cL_areAccountsSo 26 = .ok (.invokevirtual 20, 3) := by decide +kernel
theorem dL_areAccountsSo_29 : decode cL_areAccountsSo 29 = .ok (.istore 7, 2) := by decide +kernel
theorem dL_areAccountsSo_31 : decode cL_areAccountsSo 31 = .ok (.iload_n 2, 1) := by decide +kernel
theorem dL_areAccountsSo_32 : decode cL_areAccountsSo 32 = .ok (.aload_n 0, 1) := by decide +kernel
theorem dL_areAccountsSo_33 : decode cL_areAccountsSo 33 = .ok (.iload 7, 2) := by decide +kernel
theorem dL_areAccountsSo_35 : decode cL_areAccountsSo 35 = .ok (.iconst 1, 1) := by decide +kernel
theorem dL_areAccountsSo_36 : decode cL_areAccountsSo 36 = .ok (.invokevirtual 50, 3) := by decide +kernel
theorem dL_areAccountsSo_39 : decode cL_areAccountsSo 39 = .ok (.iadd, 1) := by decide +kernel
theorem dL_areAccountsSo_40 : decode cL_areAccountsSo 40 = .ok (.istore_n 2, 1) := by decide +kernel
theorem dL_areAccountsSo_41 : decode cL_areAccountsSo 41 = .ok (.iload 5, 2) := by decide +kernel
theorem dL_areAccountsSo_43 : decode cL_areAccountsSo 43 = .ok (.ifCond .eq 105, 3) := by decide +kernel
theorem dL_areAccountsSo_46 : decode cL_areAccountsSo 46 = .ok (.iload 7, 2) := by decide +kernel
theorem dL_areAccountsSo_48 : decode cL_areAccountsSo 48 = .ok (.iload 4, 2) := by decide +kernel
theorem dL_areAccountsSo_50 : decode cL_areAccountsSo 50 = .ok (.if_icmp .le 98, 3) := by decide +kernel
theorem dL_areAccountsSo_53 : decode cL_areAccountsSo 53 = .ok (.aload_n 0, 1) := by decide +kernel
theorem dL_areAccountsSo_54 : decode cL_areAccountsSo 54 = .ok (.iload 7, 2) := by decide +kernel
theorem dL_areAccountsSo_56 : decode cL_areAccountsSo 56 = .ok (.iconst 1, 1) := by decide +kernel
theorem dL_areAccountsSo_57 : decode cL_areAccountsSo 57 = .ok (.invokevirtual 50, 3) := by decide +kernel
theorem dL_areAccountsSo_60 : decode cL_areAccountsSo 60 = .ok (.aload_n 0, 1) := by decide +kernel
theorem dL_areAccountsSo_61 : decode cL_areAccountsSo 61 = .ok (.aload_n 0, 1) := by decide +kernel
theorem dL_areAccountsSo_62 : decode cL_areAccountsSo 62 = .ok (.iload 7, 2) := by decide +kernel
theorem dL_areAccountsSo_64 : decode cL_areAccountsSo 64 = .ok (.iconst 0, 1) := by decide +kernel
theorem dL_areAccountsSo_65 : decode cL_areAccountsSo 65 = .ok (.invokevirtual 50, 3) := by decide +kernel
theorem dL_areAccountsSo_68 : decode cL_areAccountsSo 68 = .ok (.iconst 0, 1) := by decide +kernel
theorem dL_areAccountsSo_69 : decode cL_areAccountsSo 69 = .ok (.invokevirtual 60, 3) := by decide +kernel
theorem dL_areAccountsSo_72 : decode cL_areAccountsSo 72 = .ok (.if_icmp .ne 76, 3) := by decide +kernel
theorem dL_areAccountsSo_75 : decode cL_areAccountsSo 75 = .ok (.aload_n 0, 1) := by decide +kernel
theorem dL_areAccountsSo_76 : decode cL_areAccountsSo 76 = .ok (.iload 7, 2) := by decide +kernel
theorem dL_areAccountsSo_78 : decode cL_areAccountsSo 78 = .ok (.iconst 2, 1) := by decide +kernel
theorem dL_areAccountsSo_79 : decode cL_areAccountsSo 79 = .ok (.invokevirtual 50, 3) := by decide +kernel
theorem dL_areAccountsSo_82 : decode cL_areAccountsSo 82 = .ok (.aload_n 0, 1) := by decide +kernel
theorem dL_areAccountsSo_83 : decode cL_areAccountsSo 83 = .ok (.aload_n 0, 1) := by decide +kernel
theorem dL_areAccountsSo_84 : decode cL_areAccountsSo 84 = .ok (.iload 7, 2) := by decide +kernel
theorem dL_areAccountsSo_86 : decode cL_areAccountsSo 86 = .ok (.iconst 0, 1) := by decide +kernel
theorem dL_areAccountsSo_87 : decode cL_areAccountsSo 87 = .ok (.invokevirtual 50, 3) := by decide +kernel
theorem dL_areAccountsSo_90 : decode cL_areAccountsSo 90 = .ok (.iconst 1, 1) := by decide +kernel
theorem dL_areAccountsSo_91 : decode cL_areAccountsSo 91 = .ok (.invokevirtual 60, 3) := by decide +kernel
theorem dL_areAccountsSo_94 : decode cL_areAccountsSo 94 = .ok (.if_icmp .ne 54, 3) := by decide +kernel
theorem dL_areAccountsSo_97 : decode cL_areAccountsSo 97 = .ok (.aload_n 0, 1) := by decide +kernel
theorem dL_areAccountsSo_98 : decode cL_areAccountsSo 98 = .ok (.iload 7, 2) := by decide +kernel
theorem dL_areAccountsSo_100 : decode cL_areAccountsSo 100 = .ok (.iconst 3, 1) := by decide +kernel
theorem dL_areAccountsSo_101 : decode cL_areAccountsSo 101 = .ok (.invokevirtual 50, 3) := by decide +kernel
theorem dL_areAccountsSo_104 : decode cL_areAccountsSo 104 = .ok (.aload_n 0, 1) := by decide +kernel
theorem dL_areAccountsSo_105 : decode cL_areAccountsSo 105 = .ok (.aload_n 0, 1) := by decide +kernel
theorem dL_areAccountsSo_106 : decode cL_areAccountsSo 106 = .ok (.iload 7, 2) := by decide +kernel
theorem dL_areAccountsSo_108 : decode cL_areAccountsSo 108 = .ok (.iconst 0, 1) := by decide +kernel
theorem dL_areAccountsSo_109 : decode cL_areAccountsSo 109 = .ok (.invokevirtual 50, 3) := by decide +kernel
theorem dL_areAccountsSo_112 : decode cL_areAccountsSo 112 = .ok (.iconst 2, 1) := by decide +kernel
theorem dL_areAccountsSo_113 : decode cL_areAccountsSo 113 = .ok (.invokevirtual 60, 3) := by decide +kernel
theorem dL_areAccountsSo_116 : decode cL_areAccountsSo 116 = .ok (.if_icmp .ne 32, 3) := by decide +kernel
theorem dL_areAccountsSo_119 : decode cL_areAccountsSo 119 = .ok (.aload_n 0, 1) := by decide +kernel
theorem dL_areAccountsSo_120 : decode cL_areAccountsSo 120 = .ok (.iload 7, 2) := by decide +kernel
theorem dL_areAccountsSo_122 : decode cL_areAccountsSo 122 = .ok (.iconst 4, 1) := by decide +kernel
theorem dL_areAccountsSo_123 : decode cL_areAccountsSo 123 = .ok (.invokevirtual 50, 3) := by decide +kernel
theorem dL_areAccountsSo_126 : decode cL_areAccountsSo 126 = .ok (.aload_n 0, 1) := by decide +kernel
theorem dL_areAccountsSo_127 : decode cL_areAccountsSo 127 = .ok (.iload 7, 2) := by decide +kernel
theorem dL_areAccountsSo_129 : decode cL_areAccountsSo 129 = .ok (.iconst 3, 1) := by decide +kernel
theorem dL_areAccountsSo_130 : decode cL_areAccountsSo 130 = .ok (.invokevirtual 50, 3) := by decide +kernel
theorem dL_areAccountsSo_133 : decode cL_areAccountsSo 133 = .ok (.ifCond .ne 7, 3) := by decide +kernel
theorem dL_areAccountsSo_136 : decode cL_areAccountsSo 136 = .ok (.iconst 1, 1) := by decide +kernel
theorem dL_areAccountsSo_137 : decode cL_areAccountsSo 137 = .ok (.goto 4, 3) := by decide +kernel
theorem dL_areAccountsSo_140 : decode cL_areAccountsSo 140 = .ok (.iconst 0, 1) := by decide +kernel
theorem dL_areAccountsSo_141 : decode cL_areAccountsSo 141 = .ok (.if_icmp .ne 7, 3) := by decide +kernel
theorem dL_areAccountsSo_144 : decode cL_areAccountsSo 144 = .ok (.iconst 1, 1) := by decide +kernel
theorem dL_areAccountsSo_145 : decode cL_areAccountsSo 145 = .ok (.goto 4, 3) := by decide +kernel
theorem dL_areAccountsSo_148 : decode cL_areAccountsSo 148 = .ok (.iconst 0, 1) := by decide +kernel
theorem dL_areAccountsSo_149 : decode cL_areAccountsSo 149 = .ok (.istore 5, 2) := by decide +kernel
theorem dL_areAccountsSo_151 : decode cL_areAccountsSo 151 = .ok (.iload 7, 2) := by decide +kernel
theorem dL_areAccountsSo_153 : decode cL_areAccountsSo 153 = .ok (.istore 4, 2) := by decide +kernel
theorem dL_areAccountsSo_155 : decode cL_areAccountsSo 155 = .ok (.iinc 6 1, 3) := by decide +kernel
theorem dL_areAccountsSo_158 : decode cL_areAccountsSo 158 = .ok (.goto (-145), 3) := by decide +kernel
theorem dL_areAccountsSo_161 : decode cL_areAccountsSo 161 = .ok (.iconst (-1), 1) := by decide +kernel
theorem dL_areAccountsSo_162 : decode cL_areAccountsSo 162 = .ok (.istore 6, 2) := by decide +kernel
theorem dL_areAccountsSo_164 : decode cL_areAccountsSo 164 = .ok (.iconst 0, 1) := by decide +kernel
theorem dL_areAccountsSo_165 : decode cL_areAccountsSo 165 = .ok (.istore 7, 2) := by decide +kernel
theorem dL_areAccountsSo_167 : decode cL_areAccountsSo 167 = .ok (.iload 7, 2) := by decide +kernel
theorem dL_areAccountsSo_169 : decode cL_areAccountsSo 169 = .ok (.aload_n 0, 1) := by decide +kernel
theorem dL_areAccountsSo_170 : decode cL_areAccountsSo 170 = .ok (.iconst 5, 1) := by decide +kernel
theorem dL_areAccountsSo_171 : decode cL_areAccountsSo 171 = .ok (.invokevirtual 8, 3) := by decide +kernel
theorem dL_areAccountsSo_174 : decode cL_areAccountsSo 174 = .ok (.if_icmp .ge 173, 3) := by decide +kernel
theorem dL_areAccountsSo_177 : decode cL_areAccountsSo 177 = .ok (.iload 5, 2) := by decide +kernel
theorem dL_areAccountsSo_179 : decode cL_areAccountsSo 179 = .ok (.ifCond .eq 140, 3) := by decide +kernel
theorem dL_areAccountsSo_182 : decode cL_areAccountsSo 182 = .ok (.aload_n 0, 1) := by decide +kernel
theorem dL_areAccountsSo_183 : decode cL_areAccountsSo 183 = .ok (.iload 7, 2) := by decide +kernel
theorem dL_areAccountsSo_185 : decode cL_areAccountsSo 185 = .ok (.iconst 0, 1) := by decide +kernel
theorem dL_areAccountsSo_186 : decode cL_areAccountsSo 186 = .ok (.invokevirtual 63, 3) := by decide +kernel
theorem dL_areAccountsSo_189 : decode cL_areAccountsSo 189 = .ok (.iload 6, 2) := by decide +kernel
theorem dL_areAccountsSo_191 : decode cL_areAccountsSo 191 = .ok (.if_icmp .le 128, 3) := by decide +kernel
theorem dL_areAccountsSo_194 : decode cL_areAccountsSo 194 = .ok (.aload_n 0, 1) := by decide +kernel
theorem dL_areAccountsSo_195 : decode cL_areAccountsSo 195 = .ok (.iload 7, 2) := by decide +kernel
theorem dL_areAccountsSo_197 : decode cL_areAccountsSo 197 = .ok (.iconst 1, 1) := by decide +kernel
theorem dL_areAccountsSo_198 : decode cL_areAccountsSo 198 = .ok (.invokevirtual 63, 3) := by decide +kernel
theorem dL_areAccountsSo_201 : decode cL_areAccountsSo 201 = .ok (.ifCond .le 118, 3) := by decide +kernel
theorem dL_areAccountsSo_204 : decode cL_areAccountsSo 204 = .ok (.aload_n 0, 1) := by decide +kernel
theorem dL_areAccountsSo_205 : decode cL_areAccountsSo 205 = .ok (.aload_n 0, 1) := by decide +kernel
theorem dL_areAccountsSo_206 : decode cL_areAccountsSo 206 = .ok (.iload 7, 2) := by decide +kernel
theorem dL_areAccountsSo_208 : decode cL_areAccountsSo 208 = .ok (.iconst 2, 1) := by decide +kernel
theorem dL_areAccountsSo_209 : decode cL_areAccountsSo 209 = .ok (.invokevirtual 63, 3) := by decide +kernel
theorem dL_areAccountsSo_212 : decode cL_areAccountsSo 212 = .ok (.iconst 3, 1) := by decide +kernel
theorem dL_areAccountsSo_213 : decode cL_areAccountsSo 213 = .ok (.invokevirtual 50, 3) := by decide +kernel
theorem dL_areAccountsSo_216 : decode cL_areAccountsSo 216 = .ok (.aload_n 0, 1) := by decide +kernel
theorem dL_areAccountsSo_217 : decode cL_areAccountsSo 217 = .ok (.iload 7, 2) := by decide +kernel
theorem dL_areAccountsSo_219 : decode cL_areAccountsSo 219 = .ok (.iconst 0, 1) := by decide +kernel
theorem dL_areAccountsSo_220 : decode cL_areAccountsSo 220 = .ok (.invokevirtual 63, 3) := by decide +kernel
theorem dL_areAccountsSo_223 : decode cL_areAccountsSo 223 = .ok (.if_icmp .ne 96, 3) := by decide +kernel
theorem dL_areAccountsSo_226 : decode cL_areAccountsSo 226 = .ok (.aload_n 0, 1) := by decide +kernel
theorem dL_areAccountsSo_227 : decode cL_areAccountsSo 227 = .ok (.aload_n 0, 1) := by decide +kernel
theorem dL_areAccountsSo_228 : decode cL_areAccountsSo 228 = .ok (.iload 7, 2) := by decide +kernel
theorem dL_areAccountsSo_230 : decode cL_areAccountsSo 230 = .ok (.iconst 3, 1) := by decide +kernel
theorem dL_areAccountsSo_231 : decode cL_areAccountsSo 231 = .ok (.invokevirtual 63, 3) := by decide +kernel
theorem dL_areAccountsSo_234 : decode cL_areAccountsSo 234 = .ok (.iconst 3, 1) := by decide +kernel
theorem dL_areAccountsSo_235 : decode cL_areAccountsSo 235 = .ok (.invokevirtual 50, 3) := by decide +kernel
theorem dL_areAccountsSo_238 : decode cL_areAccountsSo 238 = .ok (.aload_n 0, 1) := by decide +kernel
theorem dL_areAccountsSo_239 : decode cL_areAccountsSo 239 = .ok (.iload 7, 2) := by decide +kernel
theorem dL_areAccountsSo_241 : decode cL_areAccountsSo 241 = .ok (.iconst 0, 1) := by decide +kernel
theorem dL_areAccountsSo_242 : decode cL_areAccountsSo 242 = .ok (.invokevirtual 63, 3) := by decide +kernel
theorem dL_areAccountsSo_245 : decode cL_areAccountsSo 245 = .ok (.if_icmp .ne 74, 3) := by decide +kernel
theorem dL_areAccountsSo_248 : decode cL_areAccountsSo 248 = .ok (.aload_n 0, 1) := by decide +kernel
theorem dL_areAccountsSo_249 : decode cL_areAccountsSo 249 = .ok (.aload_n 0, 1) := by decide +kernel
theorem dL_areAccountsSo_250 : decode cL_areAccountsSo 250 = .ok (.iload 7, 2) := by decide +kernel
theorem dL_areAccountsSo_252 : decode cL_areAccountsSo 252 = .ok (.iconst 3, 1) := by decide +kernel
theorem dL_areAccountsSo_253 : decode cL_areAccountsSo 253 = .ok (.invokevirtual 63, 3) := by decide +kernel
theorem dL_areAccountsSo_256 : decode cL_areAccountsSo 256 = .ok (.iconst 2, 1) := by decide +kernel
theorem dL_areAccountsSo_257 : decode cL_areAccountsSo 257 = .ok (.invokevirtual 50, 3) := by decide +kernel
theorem dL_areAccountsSo_260 : decode cL_areAccountsSo 260 = .ok (.aload_n 0, 1) := by decide +kernel
theorem dL_areAccountsSo_261 : decode cL_areAccountsSo 261 = .ok (.aload_n 0, 1) := by decide +kernel
theorem dL_areAccountsSo_262 : decode cL_areAccountsSo 262 = .ok (.iload 7, 2) := by decide +kernel
theorem dL_areAccountsSo_264 : decode cL_areAccountsSo 264 = .ok (.iconst 2, 1) := by decide +kernel
theorem dL_areAccountsSo_265 : decode cL_areAccountsSo 265 = .ok (.invokevirtual 63, 3) := by decide +kernel
theorem dL_areAccountsSo_268 : decode cL_areAccountsSo 268 = .ok (.iconst 2, 1) := by decide +kernel
theorem dL_areAccountsSo_269 : decode cL_areAccountsSo 269 = .ok (.invokevirtual 50, 3) := by decide +kernel
theorem dL_areAccountsSo_272 : decode cL_areAccountsSo 272 = .ok (.if_icmp .gt 47, 3) := by decide +kernel
theorem dL_areAccountsSo_275 : decode cL_areAccountsSo 275 = .ok (.aload_n 0, 1) := by decide +kernel
theorem dL_areAccountsSo_276 : decode cL_areAccountsSo 276 = .ok (.iload 7, 2) := by decide +kernel
theorem dL_areAccountsSo_278 : decode cL_areAccountsSo 278 = .ok (.iconst 2, 1) := by decide +kernel
theorem dL_areAccountsSo_279 : decode cL_areAccountsSo 279 = .ok (.invokevirtual 63, 3) := by decide +kernel
theorem dL_areAccountsSo_282 : decode cL_areAccountsSo 282 = .ok (.aload_n 0, 1) := by decide +kernel
theorem dL_areAccountsSo_283 : decode cL_areAccountsSo 283 = .ok (.iload 7, 2) := by decide +kernel
theorem dL_areAccountsSo_285 : decode cL_areAccountsSo 285 = .ok (.iconst 3, 1) := by decide +kernel
theorem dL_areAccountsSo_286 : decode cL_areAccountsSo 286 = .ok (.invokevirtual 63, 3) := by decide +kernel
theorem dL_areAccountsSo_289 : decode cL_areAccountsSo 289 = .ok (.if_icmp .gt 30, 3) := by decide +kernel
theorem dL_areAccountsSo_292 : decode cL_areAccountsSo 292 = .ok (.aload_n 0, 1) := by decide +kernel
theorem dL_areAccountsSo_293 : decode cL_areAccountsSo 293 = .ok (.aload_n 0, 1) := by decide +kernel
theorem dL_areAccountsSo_294 : decode cL_areAccountsSo 294 = .ok (.iload 7, 2) := by decide +kernel
theorem dL_areAccountsSo_296 : decode cL_areAccountsSo 296 = .ok (.iconst 0, 1) := by decide +kernel
theorem dL_areAccountsSo_297 : decode cL_areAccountsSo 297 = .ok (.invokevirtual 63, 3) := by decide +kernel
theorem dL_areAccountsSo_300 : decode cL_areAccountsSo 300 = .ok (.bipush 6, 2) := by decide +kernel
theorem dL_areAccountsSo_302 : decode cL_areAccountsSo 302 = .ok (.invokevirtual 60, 3) := by decide +kernel
theorem dL_areAccountsSo_305 : decode cL_areAccountsSo 305 = .ok (.aload_n 0, 1) := by decide +kernel
theorem dL_areAccountsSo_306 : decode cL_areAccountsSo 306 = .ok (.iload 7, 2) := by decide +kernel
theorem dL_areAccountsSo_308 : decode cL_areAccountsSo 308 = .ok (.iconst 1, 1) := by decide +kernel
theorem dL_areAccountsSo_309 : decode cL_areAccountsSo 309 = .ok (.invokevirtual 63, 3) := by decide +kernel
theorem dL_areAccountsSo_312 : decode cL_areAccountsSo 312 = .ok (.if_icmp .ne 7, 3) := by decide +kernel
theorem dL_areAccountsSo_315 : decode cL_areAccountsSo 315 = .ok (.iconst 1, 1) := by decide +kernel
theorem dL_areAccountsSo_316 : decode cL_areAccountsSo 316 = .ok (.goto 4, 3) := by decide +kernel
theorem dL_areAccountsSo_319 : decode cL_areAccountsSo 319 = .ok (.iconst 0, 1) := by decide +kernel
theorem dL_areAccountsSo_320 : decode cL_areAccountsSo 320 = .ok (.istore 5, 2) := by decide +kernel
theorem dL_areAccountsSo_322 : decode cL_areAccountsSo 322 = .ok (.aload_n 0, 1) := by decide +kernel
theorem dL_areAccountsSo_323 : decode cL_areAccountsSo 323 = .ok (.iload 7, 2) := by decide +kernel
theorem dL_areAccountsSo_325 : decode cL_areAccountsSo 325 = .ok (.iconst 0, 1) := by decide +kernel
theorem dL_areAccountsSo_326 : decode cL_areAccountsSo 326 = .ok (.invokevirtual 63, 3) := by decide +kernel
theorem dL_areAccountsSo_329 : decode cL_areAccountsSo 329 = .ok (.istore 6, 2) := by decide +kernel
theorem dL_areAccountsSo_331 : decode cL_areAccountsSo 331 = .ok (.iload_n 3, 1) := by decide +kernel
theorem dL_areAccountsSo_332 : decode cL_areAccountsSo 332 = .ok (.aload_n 0, 1) := by decide +kernel
theorem dL_areAccountsSo_333 : decode cL_areAccountsSo 333 = .ok (.iload 7, 2) := by decide +kernel
theorem dL_areAccountsSo_335 : decode cL_areAccountsSo 335 = .ok (.iconst 1, 1) := by decide +kernel
theorem dL_areAccountsSo_336 : decode cL_areAccountsSo 336 = .ok (.invokevirtual 63, 3) := by decide +kernel
theorem dL_areAccountsSo_339 : decode cL_areAccountsSo 339 = .ok (.iadd, 1) := by decide +kernel
theorem dL_areAccountsSo_340 : decode cL_areAccountsSo 340 = .ok (.istore_n 3, 1) := by decide +kernel
theorem dL_areAccountsSo_341 : decode cL_areAccountsSo 341 = .ok (.iinc 7 1, 3) := by decide +kernel
theorem dL_areAccountsSo_344 : decode cL_areAccountsSo 344 = .ok (.goto (-177), 3) := by decide +kernel
theorem dL_areAccountsSo_347 : decode cL_areAccountsSo 347 = .ok (.iconst 1, 1) := by decide +kernel
theorem dL_areAccountsSo_348 : decode cL_areAccountsSo 348 = .ok (.istore 7, 2) := by decide +kernel
theorem dL_areAccountsSo_350 : decode cL_areAccountsSo 350 = .ok (.iconst 0, 1) := by decide +kernel
theorem dL_areAccountsSo_351 : decode cL_areAccountsSo 351 = .ok (.istore 8, 2) := by decide +kernel
theorem dL_areAccountsSo_353 : decode cL_areAccountsSo 353 = .ok (.iload 8, 2) := by decide +kernel
theorem dL_areAccountsSo_355 : decode cL_areAccountsSo 355 = .ok (.aload_n 0, 1) := by decide +kernel
theorem dL_areAccountsSo_356 : decode cL_areAccountsSo 356 = .ok (.iconst 2, 1) := by decide +kernel
theorem dL_areAccountsSo_357 : decode cL_areAccountsSo 357 = .ok (.invokevirtual 8, 3) := by decide +kernel
theorem dL_areAccountsSo_360 : decode cL_areAccountsSo 360 = .ok (.if_icmp .ge 15, 3) := by decide +kernel
theorem dL_areAccountsSo_363 : decode cL_areAccountsSo 363 = .ok (.iload 7, 2) := by decide +kernel
theorem dL_areAccountsSo_365 : decode cL_areAccountsSo 365 = .ok (.iconst 3, 1) := by decide +kernel
theorem dL_areAccountsSo_366 : decode cL_areAccountsSo 366 = .ok (.imul, 1) := by decide +kernel
theorem dL_areAccountsSo_367 : decode cL_areAccountsSo 367 = .ok (.istore 7, 2) := by decide +kernel
theorem dL_areAccountsSo_369 : decode cL_areAccountsSo 369 = .ok (.iinc 8 1, 3) := by decide +kernel
theorem dL_areAccountsSo_372 : decode cL_areAccountsSo 372 = .ok (.goto (-19), 3) := by decide +kernel
theorem dL_areAccountsSo_375 : decode cL_areAccountsSo 375 = .ok (.iload 5, 2) := by decide +kernel
theorem dL_areAccountsSo_377 : decode cL_areAccountsSo 377 = .ok (.ifCond .eq 147, 3) := by decide +kernel
theorem dL_areAccountsSo_380 : decode cL_areAccountsSo 380 = .ok (.iload_n 3, 1) := by decide +kernel
theorem dL_areAccountsSo_381 : decode cL_areAccountsSo 381 = .ok (.aload_n 0, 1) := by decide +kernel
theorem dL_areAccountsSo_382 : decode cL_areAccountsSo 382 = .ok (.iconst 0, 1) := by decide +kernel
theorem dL_areAccountsSo_383 : decode cL_areAccountsSo 383 = .ok (.invokevirtual 8, 3) := by decide +kernel
theorem dL_areAccountsSo_386 : decode cL_areAccountsSo 386 = .ok (.if_icmp .ne 138, 3) := by decide +kernel
theorem dL_areAccountsSo_389 : decode cL_areAccountsSo 389 = .ok (.iload_n 2, 1) := by decide +kernel
theorem dL_areAccountsSo_390 : decode cL_areAccountsSo 390 = .ok (.aload_n 0, 1) := by decide +kernel
theorem dL_areAccountsSo_391 : decode cL_areAccountsSo 391 = .ok (.bipush 11, 2) := by decide +kernel
theorem dL_areAccountsSo_393 : decode cL_areAccountsSo 393 = .ok (.invokevirtual 8, 3) := by decide +kernel
theorem dL_areAccountsSo_396 : decode cL_areAccountsSo 396 = .ok (.if_icmp .ne 128, 3) := by decide +kernel
theorem dL_areAccountsSo_399 : decode cL_areAccountsSo 399 = .ok (.aload_n 0, 1) := by decide +kernel
theorem dL_areAccountsSo_400 : decode cL_areAccountsSo 400 = .ok (.bipush 7, 2) := by decide +kernel
theorem dL_areAccountsSo_402 : decode cL_areAccountsSo 402 = .ok (.invokevirtual 8, 3) := by decide +kernel
theorem dL_areAccountsSo_405 : decode cL_areAccountsSo 405 = .ok (.aload_n 0, 1) := by decide +kernel
theorem dL_areAccountsSo_406 : decode cL_areAccountsSo 406 = .ok (.bipush 8, 2) := by decide +kernel
theorem dL_areAccountsSo_408 : decode cL_areAccountsSo 408 = .ok (.invokevirtual 8, 3) := by decide +kernel
theorem dL_areAccountsSo_411 : decode cL_areAccountsSo 411 = .ok (.aload_n 0, 1) := by decide +kernel
theorem dL_areAccountsSo_412 : decode cL_areAccountsSo 412 = .ok (.bipush 9, 2) := by decide +kernel
theorem dL_areAccountsSo_414 : decode cL_areAccountsSo 414 = .ok (.invokevirtual 8, 3) := by decide +kernel
theorem dL_areAccountsSo_417 : decode cL_areAccountsSo 417 = .ok (.iadd, 1) := by decide +kernel
theorem dL_areAccountsSo_418 : decode cL_areAccountsSo 418 = .ok (.aload_n 0, 1) := by decide +kernel
theorem dL_areAccountsSo_419 : decode cL_areAccountsSo 419 = .ok (.bipush 10, 2) := by decide +kernel
theorem dL_areAccountsSo_421 : decode cL_areAccountsSo 421 = .ok (.invokevirtual 8, 3) := by decide +kernel
theorem dL_areAccountsSo_424 : decode cL_areAccountsSo 424 = .ok (.iadd, 1) := by decide +kernel
theorem dL_areAccountsSo_425 : decode cL_areAccountsSo 425 = .ok (.iload_n 2, 1) := by decide +kernel
theorem dL_areAccountsSo_426 : decode cL_areAccountsSo 426 = .ok (.iadd, 1) := by decide +kernel
theorem dL_areAccountsSo_427 : decode cL_areAccountsSo 427 = .ok (.if_icmp .ne 97, 3) := by decide +kernel
theorem dL_areAccountsSo_430 : decode cL_areAccountsSo 430 = .ok (.aload_n 0, 1) := by decide +kernel
theorem dL_areAccountsSo_431 : decode cL_areAccountsSo 431 = .ok (.bipush 8, 2) := by decide +kernel
theorem dL_areAccountsSo_433 : decode cL_areAccountsSo 433 = .ok (.invokevirtual 8, 3) := by decide +kernel
theorem dL_areAccountsSo_436 : decode cL_areAccountsSo 436 = .ok (.iconst 3, 1) := by decide +kernel
theorem dL_areAccountsSo_437 : decode cL_areAccountsSo 437 = .ok (.irem, 1) := by decide +kernel
theorem dL_areAccountsSo_438 : decode cL_areAccountsSo 438 = .ok (.ifCond .ne 86, 3) := by decide +kernel
theorem dL_areAccountsSo_441 : decode cL_areAccountsSo 441 = .ok (.aload_n 0, 1) := by decide +kernel
theorem dL_areAccountsSo_442 : decode cL_areAccountsSo 442 = .ok (.bipush 6, 2) := by decide +kernel
theorem dL_areAccountsSo_444 : decode cL_areAccountsSo 444 = .ok (.invokevirtual 8, 3) := by decide +kernel
theorem dL_areAccountsSo_447 : decode cL_areAccountsSo 447 = .ok (.aload_n 0, 1) := by decide +kernel
theorem dL_areAccountsSo_448 : decode cL_areAccountsSo 448 = .ok (.bipush 14, 2) := by decide +kernel
theorem dL_areAccountsSo_450 : decode cL_areAccountsSo 450 = .ok (.invokevirtual 8, 3) := by decide +kernel
theorem dL_areAccountsSo_453 : decode cL_areAccountsSo 453 = .ok (.iadd, 1) := by decide +kernel
theorem dL_areAccountsSo_454 : decode cL_areAccountsSo 454 = .ok (.aload_n 0, 1) := by decide +kernel
theorem dL_areAccountsSo_455 : decode cL_areAccountsSo 455 = .ok (.bipush 15, 2) := by decide +kernel
theorem dL_areAccountsSo_457 : decode cL_areAccountsSo 457 = .ok (.invokevirtual 8, 3) := by decide +kernel
theorem dL_areAccountsSo_460 : decode cL_areAccountsSo 460 = .ok (.iadd, 1) := by decide +kernel
theorem dL_areAccountsSo_461 : decode cL_areAccountsSo 461 = .ok (.iload_n 1, 1) := by decide +kernel
theorem dL_areAccountsSo_462 : decode cL_areAccountsSo 462 = .ok (.if_icmp .ne 62, 3) := by decide +kernel
theorem dL_areAccountsSo_465 : decode cL_areAccountsSo 465 = .ok (.aload_n 0, 1) := by decide +kernel
theorem dL_areAccountsSo_466 : decode cL_areAccountsSo 466 = .ok (.iconst 3, 1) := by decide +kernel
theorem dL_areAccountsSo_467 : decode cL_areAccountsSo 467 = .ok (.invokevirtual 8, 3) := by decide +kernel
theorem dL_areAccountsSo_470 : decode cL_areAccountsSo 470 = .ok (.iload 7, 2) := by decide +kernel
theorem dL_areAccountsSo_472 : decode cL_areAccountsSo 472 = .ok (.if_icmp .ne 52, 3) := by decide +kernel
theorem dL_areAccountsSo_475 : decode cL_areAccountsSo 475 = .ok (.aload_n 0, 1) := by decide +kernel
theorem dL_areAccountsSo_476 : decode cL_areAccountsSo 476 = .ok (.iconst 3, 1) := by decide +kernel
theorem dL_areAccountsSo_477 : decode cL_areAccountsSo 477 = .ok (.invokevirtual 8, 3) := by decide +kernel
theorem dL_areAccountsSo_480 : decode cL_areAccountsSo 480 = .ok (.aload_n 0, 1) := by decide +kernel
theorem dL_areAccountsSo_481 : decode cL_areAccountsSo 481 = .ok (.iconst 4, 1) := by decide +kernel
theorem dL_areAccountsSo_482 : decode cL_areAccountsSo 482 = .ok (.invokevirtual 8, 3) := by decide +kernel
theorem dL_areAccountsSo_485 : decode cL_areAccountsSo 485 = .ok (.imul, 1) := by decide +kernel
theorem dL_areAccountsSo_486 : decode cL_areAccountsSo 486 = .ok (.sipush 6561, 3) := by decide +kernel
theorem dL_areAccountsSo_489 : decode cL_areAccountsSo 489 = .ok (.if_icmp .ne 35, 3) := by decide +kernel
theorem dL_areAccountsSo_492 : decode cL_areAccountsSo 492 = .ok (.aload_n 0, 1) := by decide +kernel
theorem dL_areAccountsSo_493 : decode cL_areAccountsSo 493 = .ok (.iconst 2, 1) := by decide +kernel
theorem dL_areAccountsSo_494 : decode cL_areAccountsSo 494 = .ok (.invokevirtual 8, 3) := by decide +kernel
theorem dL_areAccountsSo_497 : decode cL_areAccountsSo 497 = .ok (.aload_n 0, 1) := by decide +kernel
theorem dL_areAccountsSo_498 : decode cL_areAccountsSo 498 = .ok (.iconst 1, 1) := by decide +kernel
theorem dL_areAccountsSo_499 : decode cL_areAccountsSo 499 = .ok (.invokevirtual 8, 3) := by decide +kernel
theorem dL_areAccountsSo_502 : decode cL_areAccountsSo 502 = .ok (.if_icmp .gt 22, 3) := by decide +kernel
theorem dL_areAccountsSo_505 : decode cL_areAccountsSo 505 = .ok (.aload_n 0, 1) := by decide +kernel
theorem dL_areAccountsSo_506 : decode cL_areAccountsSo 506 = .ok (.aload_n 0, 1) := by decide +kernel
theorem dL_areAccountsSo_507 : decode cL_areAccountsSo 507 = .ok (.iconst 5, 1) := by decide +kernel
theorem dL_areAccountsSo_508 : decode cL_areAccountsSo 508 = .ok (.invokevirtual 8, 3) := by decide +kernel
theorem dL_areAccountsSo_511 : decode cL_areAccountsSo 511 = .ok (.iconst 0, 1) := by decide +kernel
theorem dL_areAccountsSo_512 : decode cL_areAccountsSo 512 = .ok (.invokevirtual 63, 3) := by decide +kernel
theorem dL_areAccountsSo_515 : decode cL_areAccountsSo 515 = .ok (.bipush (-5), 2) := by decide +kernel
theorem dL_areAccountsSo_517 : decode cL_areAccountsSo 517 = .ok (.if_icmp .ne 7, 3) := by decide +kernel
theorem dL_areAccountsSo_520 : decode cL_areAccountsSo 520 = .ok (.iconst 1, 1) := by decide +kernel
theorem dL_areAccountsSo_521 : decode cL_areAccountsSo 521 = .ok (.goto 4, 3) := by decide +kernel
theorem dL_areAccountsSo_524 : decode cL_areAccountsSo 524 = .ok (.iconst 0, 1) := by decide +kernel
theorem dL_areAccountsSo_525 : decode cL_areAccountsSo 525 = .ok (.ireturn, 1) := by decide +kernel
theorem dL_isMixSo_0 : decode cL_isMixSo 0 = .ok (.aload_n 0, 1) := by decide +kernel
theorem dL_isMixSo_1 : decode cL_isMixSo 1 = .ok (.iload_n 1, 1) := by decide +kernel
theorem dL_isMixSo_2 : decode cL_isMixSo 2 = .ok (.iconst 2, 1) := by decide +kernel
theorem dL_isMixSo_3 : decode cL_isMixSo 3 = .ok (.invokevirtual 60, 3) := by decide +kernel
theorem dL_isMixSo_6 : decode cL_isMixSo 6 = .ok (.istore 4, 2) := by decide +kernel
theorem dL_isMixSo_8 : decode cL_isMixSo 8 = .ok (.aload_n 0, 1) := by decide +kernel
theorem dL_isMixSo_9 : decode cL_isMixSo 9 = .ok (.iload_n 1, 1) := by decide +kernel
theorem dL_isMixSo_10 : decode cL_isMixSo 10 = .ok (.iconst 4, 1) := by decide +kernel
theorem dL_isMixSo_11 : decode cL_isMixSo 11 = .ok (.invokevirtual 60, 3) := by decide +kernel
theorem dL_isMixSo_14 : decode cL_isMixSo 14 = .ok (.istore 5, 2) := by decide +kernel
theorem dL_isMixSo_16 : decode cL_isMixSo 16 = .ok (.aload_n 0, 1) := by decide +kernel
theorem dL_isMixSo_17 : decode cL_isMixSo 17 = .ok (.iload_n 1, 1) := by decide +kernel
theorem dL_isMixSo_18 : decode cL_isMixSo 18 = .ok (.iload_n 2, 1) := by decide +kernel
theorem dL_isMixSo_19 : decode cL_isMixSo 19 = .ok (.invokevirtual 66, 3) := by decide +kernel
theorem dL_isMixSo_22 : decode cL_isMixSo 22 = .ok (.istore 6, 2) := by decide +kernel
theorem dL_isMixSo_24 : decode cL_isMixSo 24 = .ok (.aload_n 0, 1) := by decide +kernel
theorem dL_isMixSo_25 : decode cL_isMixSo 25 = .ok (.iload_n 2, 1) := by decide +kernel
theorem dL_isMixSo_26 : decode cL_isMixSo 26 = .ok (.iload_n 1, 1) := by decide +kernel
theorem dL_isMixSo_27 : decode cL_isMixSo 27 = .ok (.invokevirtual 66, 3) := by decide +kernel
theorem dL_isMixSo_30 : decode cL_isMixSo 30 = .ok (.iload 6, 2) := by decide +kernel
theorem dL_isMixSo_32 : decode cL_isMixSo 32 = .ok (.if_icmp .ne 126, 3) := by decide +kernel
theorem dL_isMixSo_35 : decode cL_isMixSo 35 = .ok (.aload_n 0, 1) := by decide +kernel
theorem dL_isMixSo_36 : decode cL_isMixSo 36 = .ok (.iload_n 1, 1) := by decide +kernel
theorem dL_isMixSo_37 : decode cL_isMixSo 37 = .ok (.aload_n 0, 1) := by decide +kernel
theorem dL_isMixSo_38 : decode cL_isMixSo 38 = .ok (.iload_n 1, 1) := by decide +kernel
theorem dL_isMixSo_39 : decode cL_isMixSo 39 = .ok (.iconst 5, 1) := by decide +kernel
theorem dL_isMixSo_40 : decode cL_isMixSo 40 = .ok (.invokevirtual 60, 3) := by decide +kernel
theorem dL_isMixSo_43 : decode cL_isMixSo 43 = .ok (.invokevirtual 66, 3) := by decide +kernel
theorem dL_isMixSo_46 : decode cL_isMixSo 46 = .ok (.ifCond .ne 112, 3) := by decide +kernel
theorem dL_isMixSo_49 : decode cL_isMixSo 49 = .ok (.aload_n 0, 1) := by decide +kernel
theorem dL_isMixSo_50 : decode cL_isMixSo 50 = .ok (.aload_n 0, 1) := by decide +kernel
theorem dL_isMixSo_51 : decode cL_isMixSo 51 = .ok (.iload_n 1, 1) := by decide +kernel
theorem dL_isMixSo_52 : decode cL_isMixSo 52 = .ok (.iload_n 1, 1) := by decide +kernel
theorem dL_isMixSo_53 : decode cL_isMixSo 53 = .ok (.invokevirtual 66, 3) := by decide +kernel
theorem dL_isMixSo_56 : decode cL_isMixSo 56 = .ok (.iload_n 1, 1) := by decide +kernel
theorem dL_isMixSo_57 : decode cL_isMixSo 57 = .ok (.invokevirtual 66, 3) := by decide +kernel
theorem dL_isMixSo_60 : decode cL_isMixSo 60 = .ok (.ifCond .ne 98, 3) := by decide +kernel
theorem dL_isMixSo_63 : decode cL_isMixSo 63 = .ok (.iload 4, 2) := by decide +kernel
theorem dL_isMixSo_65 : decode cL_isMixSo 65 = .ok (.iload_n 1, 1) := by decide +kernel
theorem dL_isMixSo_66 : decode cL_isMixSo 66 = .ok (.if_icmp .gt 92, 3) := by decide +kernel
theorem dL_isMixSo_69 : decode cL_isMixSo 69 = .ok (.aload_n 0, 1) := by decide +kernel
theorem dL_isMixSo_70 : decode cL_isMixSo 70 = .ok (.iload 4, 2) := by decide +kernel
theorem dL_isMixSo_72 : decode cL_isMixSo 72 = .ok (.iconst 2, 1) := by decide +kernel
theorem dL_isMixSo_73 : decode cL_isMixSo 73 = .ok (.invokevirtual 60, 3) := by decide +kernel
theorem dL_isMixSo_76 : decode cL_isMixSo 76 = .ok (.iload 4, 2) := by decide +kernel
theorem dL_isMixSo_78 : decode cL_isMixSo 78 = .ok (.if_icmp .ne 80, 3) := by decide +kernel
theorem dL_isMixSo_81 : decode cL_isMixSo 81 = .ok (.aload_n 0, 1) := by decide +kernel
theorem dL_isMixSo_82 : decode cL_isMixSo 82 = .ok (.iload_n 1, 1) := by decide +kernel
theorem dL_isMixSo_83 : decode cL_isMixSo 83 = .ok (.iload 4, 2) := by decide +kernel
theorem dL_isMixSo_85 : decode cL_isMixSo 85 = .ok (.iconst 1, 1) := by decide +kernel
theorem dL_isMixSo_86 : decode cL_isMixSo 86 = .ok (.invokevirtual 69, 3) := by decide +kernel
theorem dL_isMixSo_89 : decode cL_isMixSo 89 = .ok (.iconst 1, 1) := by decide +kernel
theorem dL_isMixSo_90 : decode cL_isMixSo 90 = .ok (.if_icmp .ne 68, 3) := by decide +kernel
theorem dL_isMixSo_93 : decode cL_isMixSo 93 = .ok (.aload_n 0, 1) := by decide +kernel
theorem dL_isMixSo_94 : decode cL_isMixSo 94 = .ok (.iload_n 1, 1) := by decide +kernel
theorem dL_isMixSo_95 : decode cL_isMixSo 95 = .ok (.iload 5, 2) := by decide +kernel
theorem dL_isMixSo_97 : decode cL_isMixSo 97 = .ok (.iconst 1, 1) := by decide +kernel
theorem dL_isMixSo_98 : decode cL_isMixSo 98 = .ok (.invokevirtual 69, 3) := by decide +kernel
theorem dL_isMixSo_101 : decode cL_isMixSo 101 = .ok (.iconst 1, 1) := by decide +kernel
theorem dL_isMixSo_102 : decode cL_isMixSo 102 = .ok (.if_icmp .ne 56, 3) := by decide +kernel
theorem dL_isMixSo_105 : decode cL_isMixSo 105 = .ok (.aload_n 0, 1) := by decide +kernel
theorem dL_isMixSo_106 : decode cL_isMixSo 106 = .ok (.iload 5, 2) := by decide +kernel
theorem dL_isMixSo_108 : decode cL_isMixSo 108 = .ok (.iconst 1, 1) := by decide +kernel
theorem dL_isMixSo_109 : decode cL_isMixSo 109 = .ok (.invokevirtual 60, 3) := by decide +kernel
theorem dL_isMixSo_112 : decode cL_isMixSo 112 = .ok (.aload_n 0, 1) := by decide +kernel
theorem dL_isMixSo_113 : decode cL_isMixSo 113 = .ok (.iload_n 1, 1) := by decide +kernel
theorem dL_isMixSo_114 : decode cL_isMixSo 114 = .ok (.iconst 1, 1) := by decide +kernel
theorem dL_isMixSo_115 : decode cL_isMixSo 115 = .ok (.invokevirtual 60, 3) := by decide +kernel
theorem dL_isMixSo_118 : decode cL_isMixSo 118 = .ok (.if_icmp .gt 40, 3) := by decide +kernel
theorem dL_isMixSo_121 : decode cL_isMixSo 121 = .ok (.aload_n 0, 1) := by decide +kernel
theorem dL_isMixSo_122 : decode cL_isMixSo 122 = .ok (.iload 5, 2) := by decide +kernel
theorem dL_isMixSo_124 : decode cL_isMixSo 124 = .ok (.iconst 1, 1) := by decide +kernel
theorem dL_isMixSo_125 : decode cL_isMixSo 125 = .ok (.invokevirtual 60, 3) := by decide +kernel
theorem dL_isMixSo_128 : decode cL_isMixSo 128 = .ok (.aload_n 0, 1) := by decide +kernel
theorem dL_isMixSo_129 : decode cL_isMixSo 129 = .ok (.iload 4, 2) := by decide +kernel
theorem dL_isMixSo_131 : decode cL_isMixSo 131 = .ok (.iconst 1, 1) := by decide +kernel
theorem dL_isMixSo_132 : decode cL_isMixSo 132 = .ok (.invokevirtual 60, 3) := by decide +kernel
theorem dL_isMixSo_135 : decode cL_isMixSo 135 = .ok (.if_icmp .gt 23, 3) := by decide +kernel
theorem dL_isMixSo_138 : decode cL_isMixSo 138 = .ok (.aload_n 0, 1) := by decide +kernel
theorem dL_isMixSo_139 : decode cL_isMixSo 139 = .ok (.iload_n 1, 1) := by decide +kernel
theorem dL_isMixSo_140 : decode cL_isMixSo 140 = .ok (.iconst 3, 1) := by decide +kernel
theorem dL_isMixSo_141 : decode cL_isMixSo 141 = .ok (.invokevirtual 60, 3) := by decide +kernel
theorem dL_isMixSo_144 : decode cL_isMixSo 144 = .ok (.aload_n 0, 1) := by decide +kernel
theorem dL_isMixSo_145 : decode cL_isMixSo 145 = .ok (.iload_n 1, 1) := by decide +kernel
theorem dL_isMixSo_146 : decode cL_isMixSo 146 = .ok (.iconst 0, 1) := by decide +kernel
theorem dL_isMixSo_147 : decode cL_isMixSo 147 = .ok (.iconst 1, 1) := by decide +kernel
theorem dL_isMixSo_148 : decode cL_isMixSo 148 = .ok (.invokevirtual 69, 3) := by decide +kernel
theorem dL_isMixSo_151 : decode cL_isMixSo 151 = .ok (.if_icmp .ne 7, 3) := by decide +kernel
theorem dL_isMixSo_154 : decode cL_isMixSo 154 = .ok (.iconst 1, 1) := by decide +kernel
theorem dL_isMixSo_155 : decode cL_isMixSo 155 = .ok (.goto 4, 3) := by decide +kernel
theorem dL_isMixSo_158 : decode cL_isMixSo 158 = .ok (.iconst 0, 1) := by decide +kernel
theorem dL_isMixSo_159 : decode cL_isMixSo 159 = .ok (.istore 7, 2) := by decide +kernel
theorem dL_isMixSo_161 : decode cL_isMixSo 161 = .ok (.iload 7, 2) := by decide +kernel
theorem dL_isMixSo_163 : decode cL_isMixSo 163 = .ok (.ifCond .eq 67, 3) := by decide +kernel
theorem dL_isMixSo_166 : decode cL_isMixSo 166 = .ok (.aload_n 0, 1) := by decide +kernel
theorem dL_isMixSo_167 : decode cL_isMixSo 167 = .ok (.iload_n 1, 1) := by decide +kernel
theorem dL_isMixSo_168 : decode cL_isMixSo 168 = .ok (.iload_n 2, 1) := by decide +kernel
theorem dL_isMixSo_169 : decode cL_isMixSo 169 = .ok (.iconst 1, 1) := by decide +kernel
theorem dL_isMixSo_170 : decode cL_isMixSo 170 = .ok (.invokevirtual 69, 3) := by decide +kernel
theorem dL_isMixSo_173 : decode cL_isMixSo 173 = .ok (.aload_n 0, 1) := by decide +kernel
theorem dL_isMixSo_174 : decode cL_isMixSo 174 = .ok (.iload_n 1, 1) := by decide +kernel
theorem dL_isMixSo_175 : decode cL_isMixSo 175 = .ok (.iload_n 2, 1) := by decide +kernel
theorem dL_isMixSo_176 : decode cL_isMixSo 176 = .ok (.iconst 0, 1) := by decide +kernel
theorem dL_isMixSo_177 : decode cL_isMixSo 177 = .ok (.invokevirtual 69, 3) := by decide +kernel
theorem dL_isMixSo_180 : decode cL_isMixSo 180 = .ok (.if_icmp .ne 50, 3) := by decide +kernel
theorem dL_isMixSo_183 : decode cL_isMixSo 183 = .ok (.aload_n 0, 1) := by decide +kernel
theorem dL_isMixSo_184 : decode cL_isMixSo 184 = .ok (.iload_n 1, 1) := by decide +kernel
theorem dL_isMixSo_185 : decode cL_isMixSo 185 = .ok (.iload_n 2, 1) := by decide +kernel
theorem dL_isMixSo_186 : decode cL_isMixSo 186 = .ok (.iconst 0, 1) := by decide +kernel
theorem dL_isMixSo_187 : decode cL_isMixSo 187 = .ok (.invokevirtual 69, 3) := by decide +kernel
theorem dL_isMixSo_190 : decode cL_isMixSo 190 = .ok (.aload_n 0, 1) := by decide +kernel
theorem dL_isMixSo_191 : decode cL_isMixSo 191 = .ok (.iload_n 2, 1) := by decide +kernel
theorem dL_isMixSo_192 : decode cL_isMixSo 192 = .ok (.iconst 2, 1) := by decide +kernel
theorem dL_isMixSo_193 : decode cL_isMixSo 193 = .ok (.invokevirtual 60, 3) := by decide +kernel
theorem dL_isMixSo_196 : decode cL_isMixSo 196 = .ok (.iload 4, 2) := by decide +kernel
theorem dL_isMixSo_198 : decode cL_isMixSo 198 = .ok (.if_icmp .ne 7, 3) := by decide +kernel
theorem dL_isMixSo_201 : decode cL_isMixSo 201 = .ok (.iconst 1, 1) := by decide +kernel
theorem dL_isMixSo_202 : decode cL_isMixSo 202 = .ok (.goto 4, 3) := by decide +kernel
theorem dL_isMixSo_205 : decode cL_isMixSo 205 = .ok (.iconst 0, 1) := by decide +kernel
theorem dL_isMixSo_206 : decode cL_isMixSo 206 = .ok (.if_icmp .ne 24, 3) := by decide +kernel
theorem dL_isMixSo_209 : decode cL_isMixSo 209 = .ok (.aload_n 0, 1) := by decide +kernel
theorem dL_isMixSo_210 : decode cL_isMixSo 210 = .ok (.iload 6, 2) := by decide +kernel
theorem dL_isMixSo_212 : decode cL_isMixSo 212 = .ok (.iload_n 1, 1) := by decide +kernel
theorem dL_isMixSo_213 : decode cL_isMixSo 213 = .ok (.iconst 1, 1) := by decide +kernel
theorem dL_isMixSo_214 : decode cL_isMixSo 214 = .ok (.invokevirtual 69, 3) := by decide +kernel
theorem dL_isMixSo_217 : decode cL_isMixSo 217 = .ok (.aload_n 0, 1) := by decide +kernel
theorem dL_isMixSo_218 : decode cL_isMixSo 218 = .ok (.iload_n 2, 1) := by decide +kernel
theorem dL_isMixSo_219 : decode cL_isMixSo 219 = .ok (.iconst 3, 1) := by decide +kernel
theorem dL_isMixSo_220 : decode cL_isMixSo 220 = .ok (.invokevirtual 60, 3) := by decide +kernel
theorem dL_isMixSo_223 : decode cL_isMixSo 223 = .ok (.if_icmp .ne 7, 3) := by decide +kernel
theorem dL_isMixSo_226 : decode cL_isMixSo 226 = .ok (.iconst 1, 1) := by decide +kernel
theorem dL_isMixSo_227 : decode cL_isMixSo 227 = .ok (.goto 4, 3) := by decide +kernel
theorem dL_isMixSo_230 : decode cL_isMixSo 230 = .ok (.iconst 0, 1) := by decide +kernel
theorem dL_isMixSo_231 : decode cL_isMixSo 231 = .ok (.istore 7, 2) := by decide +kernel
theorem dL_isMixSo_233 : decode cL_isMixSo 233 = .ok (.iload_n 1, 1) := by decide +kernel
theorem dL_isMixSo_234 : decode cL_isMixSo 234 = .ok (.istore 8, 2) := by decide +kernel
theorem dL_isMixSo_236 : decode cL_isMixSo 236 = .ok (.iconst 0, 1) := by decide +kernel
theorem dL_isMixSo_237 : decode cL_isMixSo 237 = .ok (.istore 9, 2) := by decide +kernel
theorem dL_isMixSo_239 : decode cL_isMixSo 239 = .ok (.iload 9, 2) := by decide +kernel
theorem dL_isMixSo_241 : decode cL_isMixSo 241 = .ok (.aload_n 0, 1) := by decide +kernel
theorem dL_isMixSo_242 : decode cL_isMixSo 242 = .ok (.iconst 1, 1) := by decide +kernel
theorem dL_isMixSo_243 : decode cL_isMixSo 243 = .ok (.invokevirtual 8, 3) := by decide +kernel
theorem dL_isMixSo_246 : decode cL_isMixSo 246 = .ok (.if_icmp .ge 76, 3) := by decide +kernel
theorem dL_isMixSo_249 : decode cL_isMixSo 249 = .ok (.aload_n 0, 1) := by decide +kernel
theorem dL_isMixSo_250 : decode cL_isMixSo 250 = .ok (.iload 9, 2) := by decide +kernel
theorem dL_isMixSo_252 : decode cL_isMixSo 252 = .ok (.invokevirtual 73, 3) := by decide +kernel
theorem dL_isMixSo_255 : decode cL_isMixSo 255 = .ok (.istore 10, 2) := by decide +kernel
theorem dL_isMixSo_257 : decode cL_isMixSo 257 = .ok (.iload_n 3, 1) := by decide +kernel
theorem dL_isMixSo_258 : decode cL_isMixSo 258 = .ok (.iconst 2, 1) := by decide +kernel
theorem dL_isMixSo_259 : decode cL_isMixSo 259 = .ok (.iload 9, 2) := by decide +kernel
theorem dL_isMixSo_261 : decode cL_isMixSo 261 = .ok (.imul, 1) := by decide +kernel
theorem dL_isMixSo_262 : decode cL_isMixSo 262 = .ok (.ishr, 1) := by decide +kernel
theorem dL_isMixSo_263 : decode cL_isMixSo 263 = .ok (.iconst 3, 1) := by decide +kernel
theorem dL_isMixSo_264 : decode cL_isMixSo 264 = .ok (.iand, 1) := by decide +kernel
theorem dL_isMixSo_265 : decode cL_isMixSo 265 = .ok (.istore 11, 2) := by decide +kernel
theorem dL_isMixSo_267 : decode cL_isMixSo 267 = .ok (.iconst 0, 1) := by decide +kernel
theorem dL_isMixSo_268 : decode cL_isMixSo 268 = .ok (.istore 12, 2) := by decide +kernel
theorem dL_isMixSo_270 : decode cL_isMixSo 270 = .ok (.iload 12, 2) := by decide +kernel
theorem dL_isMixSo_272 : decode cL_isMixSo 272 = .ok (.iload 11, 2) := by decide +kernel
theorem dL_isMixSo_274 : decode cL_isMixSo 274 = .ok (.if_icmp .ge 19, 3) := by decide +kernel
theorem dL_isMixSo_277 : decode cL_isMixSo 277 = .ok (.aload_n 0, 1) := by decide +kernel
theorem dL_isMixSo_278 : decode cL_isMixSo 278 = .ok (.iload 8, 2) := by decide +kernel
theorem dL_isMixSo_280 : decode cL_isMixSo 280 = .ok (.iload 10, 2) := by decide +kernel
theorem dL_isMixSo_282 : decode cL_isMixSo 282 = .ok (.invokevirtual 66, 3) := by decide +kernel
theorem dL_isMixSo_285 : decode cL_isMixSo 285 = .ok (.istore 8, 2) := by decide +kernel
theorem dL_isMixSo_287 : decode cL_isMixSo 287 = .ok (.iinc 12 1, 3) := by decide +kernel
theorem dL_isMixSo_290 : decode cL_isMixSo 290 = .ok (.goto (-20), 3) := by decide +kernel
theorem dL_isMixSo_293 : decode cL_isMixSo 293 = .ok (.iload 7, 2) := by decide +kernel
theorem dL_isMixSo_295 : decode cL_isMixSo 295 = .ok (.ifCond .eq 18, 3) := by decide +kernel
theorem dL_isMixSo_298 : decode cL_isMixSo 298 = .ok (.aload_n 0, 1) := by decide +kernel
theorem dL_isMixSo_299 : decode cL_isMixSo 299 = .ok (.iload 10, 2) := by decide +kernel
theorem dL_isMixSo_301 : decode cL_isMixSo 301 = .ok (.iconst 3, 1) := by decide +kernel
theorem dL_isMixSo_302 : decode cL_isMixSo 302 = .ok (.invokevirtual 60, 3) := by decide +kernel
theorem dL_isMixSo_305 : decode cL_isMixSo 305 = .ok (.iconst 1, 1) := by decide +kernel
theorem dL_isMixSo_306 : decode cL_isMixSo 306 = .ok (.if_icmp .ne 7, 3) := by decide +kernel
theorem dL_isMixSo_309 : decode cL_isMixSo 309 = .ok (.iconst 1, 1) := by decide +kernel
theorem dL_isMixSo_310 : decode cL_isMixSo 310 = .ok (.goto 4, 3) := by decide +kernel
theorem dL_isMixSo_313 : decode cL_isMixSo 313 = .ok (.iconst 0, 1) := by decide +kernel
theorem dL_isMixSo_314 : decode cL_isMixSo 314 = .ok (.istore 7, 2) := by decide +kernel
theorem dL_isMixSo_316 : decode cL_isMixSo 316 = .ok (.iinc 9 1, 3) := by decide +kernel
theorem dL_isMixSo_319 : decode cL_isMixSo 319 = .ok (.goto (-80), 3) := by decide +kernel
theorem dL_isMixSo_322 : decode cL_isMixSo 322 = .ok (.iload 7, 2) := by decide +kernel
theorem dL_isMixSo_324 : decode cL_isMixSo 324 = .ok (.ifCond .eq 79, 3) := by decide +kernel
theorem dL_isMixSo_327 : decode cL_isMixSo 327 = .ok (.aload_n 0, 1) := by decide +kernel
theorem dL_isMixSo_328 : decode cL_isMixSo 328 = .ok (.iload 8, 2) := by decide +kernel
theorem dL_isMixSo_330 : decode cL_isMixSo 330 = .ok (.iconst 2, 1) := by decide +kernel
theorem dL_isMixSo_331 : decode cL_isMixSo 331 = .ok (.invokevirtual 60, 3) := by decide +kernel
theorem dL_isMixSo_334 : decode cL_isMixSo 334 = .ok (.iload 4, 2) := by decide +kernel
theorem dL_isMixSo_336 : decode cL_isMixSo 336 = .ok (.if_icmp .ne 67, 3) := by decide +kernel
theorem dL_isMixSo_339 : decode cL_isMixSo 339 = .ok (.aload_n 0, 1) := by decide +kernel
theorem dL_isMixSo_340 : decode cL_isMixSo 340 = .ok (.iload 8, 2) := by decide +kernel
theorem dL_isMixSo_342 : decode cL_isMixSo 342 = .ok (.iconst 4, 1) := by decide +kernel
theorem dL_isMixSo_343 : decode cL_isMixSo 343 = .ok (.invokevirtual 60, 3) := by decide +kernel
theorem dL_isMixSo_346 : decode cL_isMixSo 346 = .ok (.iload 5, 2) := by decide +kernel
theorem dL_isMixSo_348 : decode cL_isMixSo 348 = .ok (.if_icmp .ne 55, 3) := by decide +kernel
theorem dL_isMixSo_351 : decode cL_isMixSo 351 = .ok (.iload 8, 2) := by decide +kernel
theorem dL_isMixSo_353 : decode cL_isMixSo 353 = .ok (.iload 4, 2) := by decide +kernel
theorem dL_isMixSo_355 : decode cL_isMixSo 355 = .ok (.if_icmp .lt 48, 3) := by decide +kernel
theorem dL_isMixSo_358 : decode cL_isMixSo 358 = .ok (.aload_n 0, 1) := by decide +kernel
theorem dL_isMixSo_359 : decode cL_isMixSo 359 = .ok (.iload 8, 2) := by decide +kernel
theorem dL_isMixSo_361 : decode cL_isMixSo 361 = .ok (.iconst 1, 1) := by decide +kernel
theorem dL_isMixSo_362 : decode cL_isMixSo 362 = .ok (.invokevirtual 60, 3) := by decide +kernel
theorem dL_isMixSo_365 : decode cL_isMixSo 365 = .ok (.aload_n 0, 1) := by decide +kernel
theorem dL_isMixSo_366 : decode cL_isMixSo 366 = .ok (.iload 5, 2) := by decide +kernel
theorem dL_isMixSo_368 : decode cL_isMixSo 368 = .ok (.iconst 1, 1) := by decide +kernel
theorem dL_isMixSo_369 : decode cL_isMixSo 369 = .ok (.invokevirtual 60, 3) := by decide +kernel
theorem dL_isMixSo_372 : decode cL_isMixSo 372 = .ok (.if_icmp .lt 31, 3) := by decide +kernel
theorem dL_isMixSo_375 : decode cL_isMixSo 375 = .ok (.aload_n 0, 1) := by decide +kernel
theorem dL_isMixSo_376 : decode cL_isMixSo 376 = .ok (.iload 8, 2) := by decide +kernel
theorem dL_isMixSo_378 : decode cL_isMixSo 378 = .ok (.iconst 1, 1) := by decide +kernel
theorem dL_isMixSo_379 : decode cL_isMixSo 379 = .ok (.invokevirtual 60, 3) := by decide +kernel
theorem dL_isMixSo_382 : decode cL_isMixSo 382 = .ok (.aload_n 0, 1) := by decide +kernel
theorem dL_isMixSo_383 : decode cL_isMixSo 383 = .ok (.iload 5, 2) := by decide +kernel
theorem dL_isMixSo_385 : decode cL_isMixSo 385 = .ok (.iconst 1, 1) := by decide +kernel
theorem dL_isMixSo_386 : decode cL_isMixSo 386 = .ok (.invokevirtual 60, 3) := by decide +kernel
theorem dL_isMixSo_389 : decode cL_isMixSo 389 = .ok (.if_icmp .gt 10, 3) := by decide +kernel
theorem dL_isMixSo_392 : decode cL_isMixSo 392 = .ok (.iload 8, 2) := by decide +kernel
theorem dL_isMixSo_394 : decode cL_isMixSo 394 = .ok (.iload 5, 2) := by decide +kernel
theorem dL_isMixSo_396 : decode cL_isMixSo 396 = .ok (.if_icmp .lt 7, 3) := by decide +kernel
theorem dL_isMixSo_399 : decode cL_isMixSo 399 = .ok (.iconst 1, 1) := by decide +kernel
theorem dL_isMixSo_400 : decode cL_isMixSo 400 = .ok (.goto 4, 3) := by decide +kernel
theorem dL_isMixSo_403 : decode cL_isMixSo 403 = .ok (.iconst 0, 1) := by decide +kernel
theorem dL_isMixSo_404 : decode cL_isMixSo 404 = .ok (.ireturn, 1) := by decide +kernel
theorem dL_size_0 : decode cL_size 0 = .ok (.iconst 0, 1) := by decide +kernel
theorem dL_size_1 : decode cL_size 1 = .ok (.istore_n 1, 1) := by decide +kernel
theorem dL_size_2 : decode cL_size 2 = .ok (.iconst 0, 1) := by decide +kernel
theorem dL_size_3 : decode cL_size 3 = .ok (.istore_n 2, 1) := by decide +kernel
theorem dL_size_4 : decode cL_size 4 = .ok (.iload_n 2, 1) := by decide +kernel
theorem dL_size_5 : decode cL_size 5 = .ok (.bipush 12, 2) := by decide +kernel
theorem dL_size_7 : decode cL_size 7 = .ok (.if_icmp .ge 17, 3) := by decide +kernel
theorem dL_size_10 : decode cL_size 10 = .ok (.iload_n 1, 1) := by decide +kernel
theorem dL_size_11 : decode cL_size 11 = .ok (.iload_n 0, 1) := by decide +kernel
theorem dL_size_12 : decode cL_size 12 = .ok (.iload_n 2, 1) := by decide +kernel
theorem dL_size_13 : decode cL_size 13 = .ok (.ishr, 1) := by decide +kernel
theorem dL_size_14 : decode cL_size 14 = .ok (.iconst 1, 1) := by decide +kernel
theorem dL_size_15 : decode cL_size 15 = .ok (.iand, 1) := by decide +kernel
theorem dL_size_16 : decode cL_size 16 = .ok (.iadd, 1) := by decide +kernel
theorem dL_size_17 : decode cL_size 17 = .ok (.istore_n 1, 1) := by decide +kernel
theorem dL_size_18 : decode cL_size 18 = .ok (.iinc 2 1, 3) := by decide +kernel
theorem dL_size_21 : decode cL_size 21 = .ok (.goto (-17), 3) := by decide +kernel
theorem dL_size_24 : decode cL_size 24 = .ok (.iload_n 1, 1) := by decide +kernel
theorem dL_size_25 : decode cL_size 25 = .ok (.ireturn, 1) := by decide +kernel
theorem dL_areFewestSo_0 : decode cL_areFewestSo 0 = .ok (.aload_n 0, 1) := by decide +kernel
theorem dL_areFewestSo_1 : decode cL_areFewestSo 1 = .ok (.iconst 0, 1) := by decide +kernel
theorem dL_areFewestSo_2 : decode cL_areFewestSo 2 = .ok (.invokevirtual 8, 3) := by decide +kernel
theorem dL_areFewestSo_5 : decode cL_areFewestSo 5 = .ok (.istore_n 2, 1) := by decide +kernel
theorem dL_areFewestSo_6 : decode cL_areFewestSo 6 = .ok (.aload_n 0, 1) := by decide +kernel
theorem dL_areFewestSo_7 : decode cL_areFewestSo 7 = .ok (.iload_n 1, 1) := by decide +kernel
theorem dL_areFewestSo_8 : decode cL_areFewestSo 8 = .ok (.iconst 0, 1) := by decide +kernel
theorem dL_areFewestSo_9 : decode cL_areFewestSo 9 = .ok (.invokevirtual 76, 3) := by decide +kernel
theorem dL_areFewestSo_12 : decode cL_areFewestSo 12 = .ok (.istore_n 3, 1) := by decide +kernel
theorem dL_areFewestSo_13 : decode cL_areFewestSo 13 = .ok (.aload_n 0, 1) := by decide +kernel
theorem dL_areFewestSo_14 : decode cL_areFewestSo 14 = .ok (.iload_n 1, 1) := by decide +kernel
theorem dL_areFewestSo_15 : decode cL_areFewestSo 15 = .ok (.iconst 1, 1) := by decide +kernel
theorem dL_areFewestSo_16 : decode cL_areFewestSo 16 = .ok (.invokevirtual 76, 3) := by decide +kernel
theorem dL_areFewestSo_19 : decode cL_areFewestSo 19 = .ok (.istore 4, 2) := by decide +kernel
theorem dL_areFewestSo_21 : decode cL_areFewestSo 21 = .ok (.aload_n 0, 1) := by decide +kernel
theorem dL_areFewestSo_22 : decode cL_areFewestSo 22 = .ok (.iload_n 1, 1) := by decide +kernel
theorem dL_areFewestSo_23 : decode cL_areFewestSo 23 = .ok (.iconst 2, 1) := by decide +kernel
theorem dL_areFewestSo_24 : decode cL_areFewestSo 24 = .ok (.invokevirtual 60, 3) := by decide +kernel
theorem dL_areFewestSo_27 : decode cL_areFewestSo 27 = .ok (.istore 5, 2) := by decide +kernel
theorem dL_areFewestSo_29 : decode cL_areFewestSo 29 = .ok (.iconst (-1), 1) := by decide +kernel
theorem dL_areFewestSo_30 : decode cL_areFewestSo 30 = .ok (.istore 6, 2) := by decide +kernel
theorem dL_areFewestSo_32 : decode cL_areFewestSo 32 = .ok (.iconst 0, 1) := by decide +kernel
theorem dL_areFewestSo_33 : decode cL_areFewestSo 33 = .ok (.istore 7, 2) := by decide +kernel
theorem dL_areFewestSo_35 : decode cL_areFewestSo 35 = .ok (.iconst 1, 1) := by decide +kernel
theorem dL_areFewestSo_36 : decode cL_areFewestSo 36 = .ok (.istore 8, 2) := by decide +kernel
theorem dL_areFewestSo_38 : decode cL_areFewestSo 38 = .ok (.iconst 0, 1) := by decide +kernel
theorem dL_areFewestSo_39 : decode cL_areFewestSo 39 = .ok (.istore 9, 2) := by decide +kernel
theorem dL_areFewestSo_41 : decode cL_areFewestSo 41 = .ok (.iload 9, 2) := by decide +kernel
theorem dL_areFewestSo_43 : decode cL_areFewestSo 43 = .ok (.iconst 1, 1) := by decide +kernel
theorem dL_areFewestSo_44 : decode cL_areFewestSo 44 = .ok (.iload_n 2, 1) := by decide +kernel
theorem dL_areFewestSo_45 : decode cL_areFewestSo 45 = .ok (.ishl, 1) := by decide +kernel
theorem dL_areFewestSo_46 : decode cL_areFewestSo 46 = .ok (.if_icmp .ge 122, 3) := by decide +kernel
theorem dL_areFewestSo_49 : decode cL_areFewestSo 49 = .ok (.iload_n 2, 1) := by decide +kernel
theorem dL_areFewestSo_50 : decode cL_areFewestSo 50 = .ok (.bipush 8, 2) := by decide +kernel
theorem dL_areFewestSo_52 : decode cL_areFewestSo 52 = .ok (.if_icmp .ge 116, 3) := by decide +kernel
theorem dL_areFewestSo_55 : decode cL_areFewestSo 55 = .ok (.iconst 0, 1) := by decide +kernel
theorem dL_areFewestSo_56 : decode cL_areFewestSo 56 = .ok (.istore 10, 2) := by decide +kernel
theorem dL_areFewestSo_58 : decode cL_areFewestSo 58 = .ok (.iconst 0, 1) := by decide +kernel
theorem dL_areFewestSo_59 : decode cL_areFewestSo 59 = .ok (.istore 11, 2) := by decide +kernel
theorem dL_areFewestSo_61 : decode cL_areFewestSo 61 = .ok (.iload 11, 2) := by decide +kernel
theorem dL_areFewestSo_63 : decode cL_areFewestSo 63 = .ok (.iload_n 2, 1) := by decide +kernel
theorem dL_areFewestSo_64 : decode cL_areFewestSo 64 = .ok (.if_icmp .ge 44, 3) := by decide +kernel
theorem dL_areFewestSo_67 : decode cL_areFewestSo 67 = .ok (.iload 9, 2) := by decide +kernel
theorem dL_areFewestSo_69 : decode cL_areFewestSo 69 = .ok (.iload 11, 2) := by decide +kernel
theorem dL_areFewestSo_71 : decode cL_areFewestSo 71 = .ok (.ishr, 1) := by decide +kernel
theorem dL_areFewestSo_72 : decode cL_areFewestSo 72 = .ok (.iconst 1, 1) := by decide +kernel
theorem dL_areFewestSo_73 : decode cL_areFewestSo 73 = .ok (.iand, 1) := by decide +kernel
theorem dL_areFewestSo_74 : decode cL_areFewestSo 74 = .ok (.iconst 1, 1) := by decide +kernel
theorem dL_areFewestSo_75 : decode cL_areFewestSo 75 = .ok (.if_icmp .ne 23, 3) := by decide +kernel
theorem dL_areFewestSo_78 : decode cL_areFewestSo 78 = .ok (.aload_n 0, 1) := by decide +kernel
theorem dL_areFewestSo_79 : decode cL_areFewestSo 79 = .ok (.iload 10, 2) := by decide +kernel
theorem dL_areFewestSo_81 : decode cL_areFewestSo 81 = .ok (.aload_n 0, 1) := by decide +kernel
theorem dL_areFewestSo_82 : decode cL_areFewestSo 82 = .ok (.aload_n 0, 1) := by decide +kernel
theorem dL_areFewestSo_83 : decode cL_areFewestSo 83 = .ok (.iload 11, 2) := by decide +kernel
theorem dL_areFewestSo_85 : decode cL_areFewestSo 85 = .ok (.invokevirtual 20, 3) := by decide +kernel
theorem dL_areFewestSo_88 : decode cL_areFewestSo 88 = .ok (.iconst 0, 1) := by decide +kernel
theorem dL_areFewestSo_89 : decode cL_areFewestSo 89 = .ok (.invokevirtual 50, 3) := by decide +kernel
theorem dL_areFewestSo_92 : decode cL_areFewestSo 92 = .ok (.invokevirtual 66, 3) := by decide +kernel
theorem dL_areFewestSo_95 : decode cL_areFewestSo 95 = .ok (.goto 5, 3) := by decide +kernel
theorem dL_areFewestSo_98 : decode cL_areFewestSo 98 = .ok (.iload 10, 2) := by decide +kernel
theorem dL_areFewestSo_100 : decode cL_areFewestSo 100 = .ok (.istore 10, 2) := by decide +kernel
theorem dL_areFewestSo_102 : decode cL_areFewestSo 102 = .ok (.iinc 11 1, 3) := by decide +kernel
theorem dL_areFewestSo_105 : decode cL_areFewestSo 105 = .ok (.goto (-44), 3) := by decide +kernel
theorem dL_areFewestSo_108 : decode cL_areFewestSo 108 = .ok (.aload_n 0, 1) := by decide +kernel
theorem dL_areFewestSo_109 : decode cL_areFewestSo 109 = .ok (.iload 10, 2) := by decide +kernel
theorem dL_areFewestSo_111 : decode cL_areFewestSo 111 = .ok (.iconst 2, 1) := by decide +kernel
theorem dL_areFewestSo_112 : decode cL_areFewestSo 112 = .ok (.invokevirtual 60, 3) := by decide +kernel
theorem dL_areFewestSo_115 : decode cL_areFewestSo 115 = .ok (.iload 5, 2) := by decide +kernel
theorem dL_areFewestSo_117 : decode cL_areFewestSo 117 = .ok (.if_icmp .ne 7, 3) := by decide +kernel
theorem dL_areFewestSo_120 : decode cL_areFewestSo 120 = .ok (.iconst 1, 1) := by decide +kernel
theorem dL_areFewestSo_121 : decode cL_areFewestSo 121 = .ok (.goto 4, 3) := by decide +kernel
theorem dL_areFewestSo_124 : decode cL_areFewestSo 124 = .ok (.iconst 0, 1) := by decide +kernel
theorem dL_areFewestSo_125 : decode cL_areFewestSo 125 = .ok (.istore 11, 2) := by decide +kernel
theorem dL_areFewestSo_127 : decode cL_areFewestSo 127 = .ok (.iload 11, 2) := by decide +kernel
theorem dL_areFewestSo_129 : decode cL_areFewestSo 129 = .ok (.ifCond .eq 26, 3) := by decide +kernel
theorem dL_areFewestSo_132 : decode cL_areFewestSo 132 = .ok (.iload 6, 2) := by decide +kernel
theorem dL_areFewestSo_134 : decode cL_areFewestSo 134 = .ok (.ifCond .lt 16, 3) := by decide +kernel
theorem dL_areFewestSo_137 : decode cL_areFewestSo 137 = .ok (.iload 9, 2) := by decide +kernel
theorem dL_areFewestSo_139 : decode cL_areFewestSo 139 = .ok (.invokestatic 79, 3) := by decide +kernel
theorem dL_areFewestSo_142 : decode cL_areFewestSo 142 = .ok (.iload 6, 2) := by decide +kernel
theorem dL_areFewestSo_144 : decode cL_areFewestSo 144 = .ok (.invokestatic 79, 3) := by decide +kernel
theorem dL_areFewestSo_147 : decode cL_areFewestSo 147 = .ok (.if_icmp .ge 8, 3) := by decide +kernel
theorem dL_areFewestSo_150 : decode cL_areFewestSo 150 = .ok (.iload 9, 2) := by decide +kernel
theorem dL_areFewestSo_152 : decode cL_areFewestSo 152 = .ok (.goto 5, 3) := by decide +kernel
theorem dL_areFewestSo_155 : decode cL_areFewestSo 155 = .ok (.iload 6, 2) := by decide +kernel
theorem dL_areFewestSo_157 : decode cL_areFewestSo 157 = .ok (.istore 6, 2) := by decide +kernel
theorem dL_areFewestSo_159 : decode cL_areFewestSo 159 = .ok (.iinc 7 1, 3) := by decide +kernel
theorem dL_areFewestSo_162 : decode cL_areFewestSo 162 = .ok (.iinc 9 1, 3) := by decide +kernel
theorem dL_areFewestSo_165 : decode cL_areFewestSo 165 = .ok (.goto (-124), 3) := by decide +kernel
theorem dL_areFewestSo_168 : decode cL_areFewestSo 168 = .ok (.iload 8, 2) := by decide +kernel
theorem dL_areFewestSo_170 : decode cL_areFewestSo 170 = .ok (.ifCond .eq 84, 3) := by decide +kernel
theorem dL_areFewestSo_173 : decode cL_areFewestSo 173 = .ok (.iload_n 2, 1) := by decide +kernel
theorem dL_areFewestSo_174 : decode cL_areFewestSo 174 = .ok (.bipush 7, 2) := by decide +kernel
theorem dL_areFewestSo_176 : decode cL_areFewestSo 176 = .ok (.if_icmp .gt 39, 3) := by decide +kernel
theorem dL_areFewestSo_179 : decode cL_areFewestSo 179 = .ok (.iload 4, 2) := by decide +kernel
theorem dL_areFewestSo_181 : decode cL_areFewestSo 181 = .ok (.iload 6, 2) := by decide +kernel
theorem dL_areFewestSo_183 : decode cL_areFewestSo 183 = .ok (.ifCond .ge 8, 3) := by decide +kernel
theorem dL_areFewestSo_186 : decode cL_areFewestSo 186 = .ok (.bipush (-5), 2) := by decide +kernel
theorem dL_areFewestSo_188 : decode cL_areFewestSo 188 = .ok (.goto 5, 3) := by decide +kernel
theorem dL_areFewestSo_191 : decode cL_areFewestSo 191 = .ok (.iload 6, 2) := by decide +kernel
theorem dL_areFewestSo_193 : decode cL_areFewestSo 193 = .ok (.if_icmp .ne 61, 3) := by decide +kernel
theorem dL_areFewestSo_196 : decode cL_areFewestSo 196 = .ok (.iload_n 3, 1) := by decide +kernel
theorem dL_areFewestSo_197 : decode cL_areFewestSo 197 = .ok (.iload 6, 2) := by decide +kernel
theorem dL_areFewestSo_199 : decode cL_areFewestSo 199 = .ok (.ifCond .ge 8, 3) := by decide +kernel
theorem dL_areFewestSo_202 : decode cL_areFewestSo 202 = .ok (.bipush (-5), 2) := by decide +kernel
theorem dL_areFewestSo_204 : decode cL_areFewestSo 204 = .ok (.goto 8, 3) := by decide +kernel
theorem dL_areFewestSo_207 : decode cL_areFewestSo 207 = .ok (.iload 6, 2) := by decide +kernel
theorem dL_areFewestSo_209 : decode cL_areFewestSo 209 = .ok (.invokestatic 79, 3) := by decide +kernel
theorem dL_areFewestSo_212 : decode cL_areFewestSo 212 = .ok (.if_icmp .ne 42, 3) := by decide +kernel
theorem dL_areFewestSo_215 : decode cL_areFewestSo 215 = .ok (.aload_n 0, 1) := by decide +kernel
theorem dL_areFewestSo_216 : decode cL_areFewestSo 216 = .ok (.invokevirtual 82, 3) := by decide +kernel
theorem dL_areFewestSo_219 : decode cL_areFewestSo 219 = .ok (.iconst 1, 1) := by decide +kernel
theorem dL_areFewestSo_220 : decode cL_areFewestSo 220 = .ok (.if_icmp .lt 34, 3) := by decide +kernel
theorem dL_areFewestSo_223 : decode cL_areFewestSo 223 = .ok (.iload_n 2, 1) := by decide +kernel
theorem dL_areFewestSo_224 : decode cL_areFewestSo 224 = .ok (.bipush 7, 2) := by decide +kernel
theorem dL_areFewestSo_226 : decode cL_areFewestSo 226 = .ok (.if_icmp .gt 12, 3) := by decide +kernel
theorem dL_areFewestSo_229 : decode cL_areFewestSo 229 = .ok (.aload_n 0, 1) := by decide +kernel
theorem dL_areFewestSo_230 : decode cL_areFewestSo 230 = .ok (.invokevirtual 82, 3) := by decide +kernel
theorem dL_areFewestSo_233 : decode cL_areFewestSo 233 = .ok (.iload 7, 2) := by decide +kernel
theorem dL_areFewestSo_235 : decode cL_areFewestSo 235 = .ok (.if_icmp .gt 19, 3) := by decide +kernel
theorem dL_areFewestSo_238 : decode cL_areFewestSo 238 = .ok (.aload_n 0, 1) := by decide +kernel
theorem dL_areFewestSo_239 : decode cL_areFewestSo 239 = .ok (.invokevirtual 82, 3) := by decide +kernel
theorem dL_areFewestSo_242 : decode cL_areFewestSo 242 = .ok (.aload_n 0, 1) := by decide +kernel
theorem dL_areFewestSo_243 : decode cL_areFewestSo 243 = .ok (.iconst 4, 1) := by decide +kernel
theorem dL_areFewestSo_244 : decode cL_areFewestSo 244 = .ok (.invokevirtual 8, 3) := by decide +kernel
theorem dL_areFewestSo_247 : decode cL_areFewestSo 247 = .ok (.if_icmp .gt 7, 3) := by decide +kernel
theorem dL_areFewestSo_250 : decode cL_areFewestSo 250 = .ok (.iconst 1, 1) := by decide +kernel
theorem dL_areFewestSo_251 : decode cL_areFewestSo 251 = .ok (.goto 4, 3) := by decide +kernel
theorem dL_areFewestSo_254 : decode cL_areFewestSo 254 = .ok (.iconst 0, 1) := by decide +kernel
theorem dL_areFewestSo_255 : decode cL_areFewestSo 255 = .ok (.ireturn, 1) := by decide +kernel
theorem dL_areRulesSo_0 : decode cL_areRulesSo 0 = .ok (.aload_n 0, 1) := by decide +kernel
theorem dL_areRulesSo_1 : decode cL_areRulesSo 1 = .ok (.iconst 2, 1) := by decide +kernel
theorem dL_areRulesSo_2 : decode cL_areRulesSo 2 = .ok (.invokevirtual 8, 3) := by decide +kernel
theorem dL_areRulesSo_5 : decode cL_areRulesSo 5 = .ok (.istore_n 1, 1) := by decide +kernel
theorem dL_areRulesSo_6 : decode cL_areRulesSo 6 = .ok (.aload_n 0, 1) := by decide +kernel
theorem dL_areRulesSo_7 : decode cL_areRulesSo 7 = .ok (.invokevirtual 85, 3) := by decide +kernel
theorem dL_areRulesSo_10 : decode cL_areRulesSo 10 = .ok (.istore_n 2, 1) := by decide +kernel
theorem dL_areRulesSo_11 : decode cL_areRulesSo 11 = .ok (.bipush (-5), 2) := by decide +kernel
theorem dL_areRulesSo_13 : decode cL_areRulesSo 13 = .ok (.istore_n 3, 1) := by decide +kernel
theorem dL_areRulesSo_14 : decode cL_areRulesSo 14 = .ok (.aload_n 0, 1) := by decide +kernel
theorem dL_areRulesSo_15 : decode cL_areRulesSo 15 = .ok (.iconst 1, 1) := by decide +kernel
theorem dL_areRulesSo_16 : decode cL_areRulesSo 16 = .ok (.invokevirtual 8, 3) := by decide +kernel
theorem dL_areRulesSo_19 : decode cL_areRulesSo 19 = .ok (.istore 4, 2) := by decide +kernel
theorem dL_areRulesSo_21 : decode cL_areRulesSo 21 = .ok (.iload 4, 2) := by decide +kernel
theorem dL_areRulesSo_23 : decode cL_areRulesSo 23 = .ok (.iconst 1, 1) := by decide +kernel
theorem dL_areRulesSo_24 : decode cL_areRulesSo 24 = .ok (.isub, 1) := by decide +kernel
theorem dL_areRulesSo_25 : decode cL_areRulesSo 25 = .ok (.istore 5, 2) := by decide +kernel
theorem dL_areRulesSo_27 : decode cL_areRulesSo 27 = .ok (.iload 5, 2) := by decide +kernel
theorem dL_areRulesSo_29 : decode cL_areRulesSo 29 = .ok (.ifCond .lt 36, 3) := by decide +kernel
theorem dL_areRulesSo_32 : decode cL_areRulesSo 32 = .ok (.aload_n 0, 1) := by decide +kernel
theorem dL_areRulesSo_33 : decode cL_areRulesSo 33 = .ok (.iload 5, 2) := by decide +kernel
theorem dL_areRulesSo_35 : decode cL_areRulesSo 35 = .ok (.invokevirtual 41, 3) := by decide +kernel
theorem dL_areRulesSo_38 : decode cL_areRulesSo 38 = .ok (.istore 6, 2) := by decide +kernel
theorem dL_areRulesSo_40 : decode cL_areRulesSo 40 = .ok (.iload 6, 2) := by decide +kernel
theorem dL_areRulesSo_42 : decode cL_areRulesSo 42 = .ok (.iload_n 1, 1) := by decide +kernel
theorem dL_areRulesSo_43 : decode cL_areRulesSo 43 = .ok (.if_icmp .ne 8, 3) := by decide +kernel
theorem dL_areRulesSo_46 : decode cL_areRulesSo 46 = .ok (.iload 5, 2) := by decide +kernel
theorem dL_areRulesSo_48 : decode cL_areRulesSo 48 = .ok (.goto 4, 3) := by decide +kernel
theorem dL_areRulesSo_51 : decode cL_areRulesSo 51 = .ok (.iload_n 3, 1) := by decide +kernel
theorem dL_areRulesSo_52 : decode cL_areRulesSo 52 = .ok (.istore_n 3, 1) := by decide +kernel
theorem dL_areRulesSo_53 : decode cL_areRulesSo 53 = .ok (.aload_n 0, 1) := by decide +kernel
theorem dL_areRulesSo_54 : decode cL_areRulesSo 54 = .ok (.invokevirtual 88, 3) := by decide +kernel
theorem dL_areRulesSo_57 : decode cL_areRulesSo 57 = .ok (.istore 6, 2) := by decide +kernel
theorem dL_areRulesSo_59 : decode cL_areRulesSo 59 = .ok (.iinc 5 (-1), 3) := by decide +kernel
theorem dL_areRulesSo_62 : decode cL_areRulesSo 62 = .ok (.goto (-35), 3) := by decide +kernel
theorem dL_areRulesSo_65 : decode cL_areRulesSo 65 = .ok (.iload_n 3, 1) := by decide +kernel
theorem dL_areRulesSo_66 : decode cL_areRulesSo 66 = .ok (.iload_n 2, 1) := by decide +kernel
theorem dL_areRulesSo_67 : decode cL_areRulesSo 67 = .ok (.if_icmp .ne 42, 3) := by decide +kernel
theorem dL_areRulesSo_70 : decode cL_areRulesSo 70 = .ok (.iload_n 2, 1) := by decide +kernel
theorem dL_areRulesSo_71 : decode cL_areRulesSo 71 = .ok (.bipush (-5), 2) := by decide +kernel
theorem dL_areRulesSo_73 : decode cL_areRulesSo 73 = .ok (.if_icmp .ne 7, 3) := by decide +kernel
theorem dL_areRulesSo_76 : decode cL_areRulesSo 76 = .ok (.iconst 1, 1) := by decide +kernel
theorem dL_areRulesSo_77 : decode cL_areRulesSo 77 = .ok (.goto 4, 3) := by decide +kernel
theorem dL_areRulesSo_80 : decode cL_areRulesSo 80 = .ok (.iconst 0, 1) := by decide +kernel
theorem dL_areRulesSo_81 : decode cL_areRulesSo 81 = .ok (.iload_n 1, 1) := by decide +kernel
theorem dL_areRulesSo_82 : decode cL_areRulesSo 82 = .ok (.iload 4, 2) := by decide +kernel
theorem dL_areRulesSo_84 : decode cL_areRulesSo 84 = .ok (.if_icmp .ne 7, 3) := by decide +kernel
theorem dL_areRulesSo_87 : decode cL_areRulesSo 87 = .ok (.iconst 1, 1) := by decide +kernel
theorem dL_areRulesSo_88 : decode cL_areRulesSo 88 = .ok (.goto 4, 3) := by decide +kernel
theorem dL_areRulesSo_91 : decode cL_areRulesSo 91 = .ok (.iconst 0, 1) := by decide +kernel
theorem dL_areRulesSo_92 : decode cL_areRulesSo 92 = .ok (.if_icmp .ne 17, 3) := by decide +kernel
theorem dL_areRulesSo_95 : decode cL_areRulesSo 95 = .ok (.aload_n 0, 1) := by decide +kernel
theorem dL_areRulesSo_96 : decode cL_areRulesSo 96 = .ok (.iconst 1, 1) := by decide +kernel
theorem dL_areRulesSo_97 : decode cL_areRulesSo 97 = .ok (.invokevirtual 8, 3) := by decide +kernel
theorem dL_areRulesSo_100 : decode cL_areRulesSo 100 = .ok (.iload 4, 2) := by decide +kernel
theorem dL_areRulesSo_102 : decode cL_areRulesSo 102 = .ok (.if_icmp .ne 7, 3) := by decide +kernel
theorem dL_areRulesSo_105 : decode cL_areRulesSo 105 = .ok (.iconst 1, 1) := by decide +kernel
theorem dL_areRulesSo_106 : decode cL_areRulesSo 106 = .ok (.goto 4, 3) := by decide +kernel
theorem dL_areRulesSo_109 : decode cL_areRulesSo 109 = .ok (.iconst 0, 1) := by decide +kernel
theorem dL_areRulesSo_110 : decode cL_areRulesSo 110 = .ok (.ireturn, 1) := by decide +kernel
theorem dL_isPourSo_0 : decode cL_isPourSo 0 = .ok (.aload_n 0, 1) := by decide +kernel
theorem dL_isPourSo_1 : decode cL_isPourSo 1 = .ok (.iload_n 1, 1) := by decide +kernel
theorem dL_isPourSo_2 : decode cL_isPourSo 2 = .ok (.iload_n 2, 1) := by decide +kernel
theorem dL_isPourSo_3 : decode cL_isPourSo 3 = .ok (.invokevirtual 91, 3) := by decide +kernel
theorem dL_isPourSo_6 : decode cL_isPourSo 6 = .ok (.istore_n 3, 1) := by decide +kernel
theorem dL_isPourSo_7 : decode cL_isPourSo 7 = .ok (.aload_n 0, 1) := by decide +kernel
theorem dL_isPourSo_8 : decode cL_isPourSo 8 = .ok (.aload_n 0, 1) := by decide +kernel
theorem dL_isPourSo_9 : decode cL_isPourSo 9 = .ok (.iload_n 1, 1) := by decide +kernel
theorem dL_isPourSo_10 : decode cL_isPourSo 10 = .ok (.iconst 0, 1) := by decide +kernel
theorem dL_isPourSo_11 : decode cL_isPourSo 11 = .ok (.invokevirtual 50, 3) := by decide +kernel
theorem dL_isPourSo_14 : decode cL_isPourSo 14 = .ok (.aload_n 0, 1) := by decide +kernel
theorem dL_isPourSo_15 : decode cL_isPourSo 15 = .ok (.iload_n 2, 1) := by decide +kernel
theorem dL_isPourSo_16 : decode cL_isPourSo 16 = .ok (.iconst 0, 1) := by decide +kernel
theorem dL_isPourSo_17 : decode cL_isPourSo 17 = .ok (.invokevirtual 50, 3) := by decide +kernel
theorem dL_isPourSo_20 : decode cL_isPourSo 20 = .ok (.invokevirtual 66, 3) := by decide +kernel
theorem dL_isPourSo_23 : decode cL_isPourSo 23 = .ok (.istore 4, 2) := by decide +kernel
theorem dL_isPourSo_25 : decode cL_isPourSo 25 = .ok (.aload_n 0, 1) := by decide +kernel
theorem dL_isPourSo_26 : decode cL_isPourSo 26 = .ok (.iload_n 1, 1) := by decide +kernel
theorem dL_isPourSo_27 : decode cL_isPourSo 27 = .ok (.iconst 1, 1) := by decide +kernel
theorem dL_isPourSo_28 : decode cL_isPourSo 28 = .ok (.invokevirtual 50, 3) := by decide +kernel
theorem dL_isPourSo_31 : decode cL_isPourSo 31 = .ok (.aload_n 0, 1) := by decide +kernel
theorem dL_isPourSo_32 : decode cL_isPourSo 32 = .ok (.iload_n 2, 1) := by decide +kernel
theorem dL_isPourSo_33 : decode cL_isPourSo 33 = .ok (.iconst 1, 1) := by decide +kernel
theorem dL_isPourSo_34 : decode cL_isPourSo 34 = .ok (.invokevirtual 50, 3) := by decide +kernel
theorem dL_isPourSo_37 : decode cL_isPourSo 37 = .ok (.iadd, 1) := by decide +kernel
theorem dL_isPourSo_38 : decode cL_isPourSo 38 = .ok (.aload_n 0, 1) := by decide +kernel
theorem dL_isPourSo_39 : decode cL_isPourSo 39 = .ok (.iload 4, 2) := by decide +kernel
theorem dL_isPourSo_41 : decode cL_isPourSo 41 = .ok (.iconst 0, 1) := by decide +kernel
theorem dL_isPourSo_42 : decode cL_isPourSo 42 = .ok (.invokevirtual 60, 3) := by decide +kernel
theorem dL_isPourSo_45 : decode cL_isPourSo 45 = .ok (.isub, 1) := by decide +kernel
theorem dL_isPourSo_46 : decode cL_isPourSo 46 = .ok (.istore 5, 2) := by decide +kernel
theorem dL_isPourSo_48 : decode cL_isPourSo 48 = .ok (.aload_n 0, 1) := by decide +kernel
theorem dL_isPourSo_49 : decode cL_isPourSo 49 = .ok (.bipush 8, 2) := by decide +kernel
theorem dL_isPourSo_51 : decode cL_isPourSo 51 = .ok (.invokevirtual 8, 3) := by decide +kernel
theorem dL_isPourSo_54 : decode cL_isPourSo 54 = .ok (.istore 6, 2) := by decide +kernel
theorem dL_isPourSo_56 : decode cL_isPourSo 56 = .ok (.aload_n 0, 1) := by decide +kernel
theorem dL_isPourSo_57 : decode cL_isPourSo 57 = .ok (.iload_n 1, 1) := by decide +kernel
theorem dL_isPourSo_58 : decode cL_isPourSo 58 = .ok (.iload_n 2, 1) := by decide +kernel
theorem dL_isPourSo_59 : decode cL_isPourSo 59 = .ok (.invokevirtual 32, 3) := by decide +kernel
theorem dL_isPourSo_62 : decode cL_isPourSo 62 = .ok (.istore 7, 2) := by decide +kernel
theorem dL_isPourSo_64 : decode cL_isPourSo 64 = .ok (.iload 7, 2) := by decide +kernel
theorem dL_isPourSo_66 : decode cL_isPourSo 66 = .ok (.bipush (-5), 2) := by decide +kernel
theorem dL_isPourSo_68 : decode cL_isPourSo 68 = .ok (.if_icmp .ne 28, 3) := by decide +kernel
theorem dL_isPourSo_71 : decode cL_isPourSo 71 = .ok (.aload_n 0, 1) := by decide +kernel
theorem dL_isPourSo_72 : decode cL_isPourSo 72 = .ok (.iload_n 1, 1) := by decide +kernel
theorem dL_isPourSo_73 : decode cL_isPourSo 73 = .ok (.iconst 0, 1) := by decide +kernel
theorem dL_isPourSo_74 : decode cL_isPourSo 74 = .ok (.invokevirtual 50, 3) := by decide +kernel
theorem dL_isPourSo_77 : decode cL_isPourSo 77 = .ok (.ifCond .ne 17, 3) := by decide +kernel
theorem dL_isPourSo_80 : decode cL_isPourSo 80 = .ok (.iload_n 3, 1) := by decide +kernel
theorem dL_isPourSo_81 : decode cL_isPourSo 81 = .ok (.aload_n 0, 1) := by decide +kernel
theorem dL_isPourSo_82 : decode cL_isPourSo 82 = .ok (.iload_n 2, 1) := by decide +kernel
theorem dL_isPourSo_83 : decode cL_isPourSo 83 = .ok (.iconst 3, 1) := by decide +kernel
theorem dL_isPourSo_84 : decode cL_isPourSo 84 = .ok (.invokevirtual 50, 3) := by decide +kernel
theorem dL_isPourSo_87 : decode cL_isPourSo 87 = .ok (.if_icmp .ne 7, 3) := by decide +kernel
theorem dL_isPourSo_90 : decode cL_isPourSo 90 = .ok (.iconst 1, 1) := by decide +kernel
theorem dL_isPourSo_91 : decode cL_isPourSo 91 = .ok (.goto 4, 3) := by decide +kernel
theorem dL_isPourSo_94 : decode cL_isPourSo 94 = .ok (.iconst 0, 1) := by decide +kernel
theorem dL_isPourSo_95 : decode cL_isPourSo 95 = .ok (.ireturn, 1) := by decide +kernel
theorem dL_isPourSo_96 : decode cL_isPourSo 96 = .ok (.iload 7, 2) := by decide +kernel
theorem dL_isPourSo_98 : decode cL_isPourSo 98 = .ok (.iload 5, 2) := by decide +kernel
theorem dL_isPourSo_100 : decode cL_isPourSo 100 = .ok (.if_icmp .ne 51, 3) := by decide +kernel
theorem dL_isPourSo_103 : decode cL_isPourSo 103 = .ok (.aload_n 0, 1) := by decide +kernel
theorem dL_isPourSo_104 : decode cL_isPourSo 104 = .ok (.iload_n 2, 1) := by decide +kernel
theorem dL_isPourSo_105 : decode cL_isPourSo 105 = .ok (.iconst 0, 1) := by decide +kernel
theorem dL_isPourSo_106 : decode cL_isPourSo 106 = .ok (.invokevirtual 50, 3) := by decide +kernel
theorem dL_isPourSo_109 : decode cL_isPourSo 109 = .ok (.iload 4, 2) := by decide +kernel
theorem dL_isPourSo_111 : decode cL_isPourSo 111 = .ok (.if_icmp .ne 40, 3) := by decide +kernel
theorem dL_isPourSo_114 : decode cL_isPourSo 114 = .ok (.aload_n 0, 1) := by decide +kernel
theorem dL_isPourSo_115 : decode cL_isPourSo 115 = .ok (.iload_n 2, 1) := by decide +kernel
theorem dL_isPourSo_116 : decode cL_isPourSo 116 = .ok (.iconst 3, 1) := by decide +kernel
theorem dL_isPourSo_117 : decode cL_isPourSo 117 = .ok (.invokevirtual 50, 3) := by decide +kernel
theorem dL_isPourSo_120 : decode cL_isPourSo 120 = .ok (.iload_n 3, 1) := by decide +kernel
theorem dL_isPourSo_121 : decode cL_isPourSo 121 = .ok (.if_icmp .ne 30, 3) := by decide +kernel
theorem dL_isPourSo_124 : decode cL_isPourSo 124 = .ok (.aload_n 0, 1) := by decide +kernel
theorem dL_isPourSo_125 : decode cL_isPourSo 125 = .ok (.iload_n 1, 1) := by decide +kernel
theorem dL_isPourSo_126 : decode cL_isPourSo 126 = .ok (.iconst 0, 1) := by decide +kernel
theorem dL_isPourSo_127 : decode cL_isPourSo 127 = .ok (.invokevirtual 50, 3) := by decide +kernel
theorem dL_isPourSo_130 : decode cL_isPourSo 130 = .ok (.ifCond .ne 21, 3) := by decide +kernel
theorem dL_isPourSo_133 : decode cL_isPourSo 133 = .ok (.aload_n 0, 1) := by decide +kernel
theorem dL_isPourSo_134 : decode cL_isPourSo 134 = .ok (.bipush 8, 2) := by decide +kernel
theorem dL_isPourSo_136 : decode cL_isPourSo 136 = .ok (.invokevirtual 8, 3) := by decide +kernel
theorem dL_isPourSo_139 : decode cL_isPourSo 139 = .ok (.iload 6, 2) := by decide +kernel
theorem dL_isPourSo_141 : decode cL_isPourSo 141 = .ok (.iload 5, 2) := by decide +kernel
theorem dL_isPourSo_143 : decode cL_isPourSo 143 = .ok (.iadd, 1) := by decide +kernel
theorem dL_isPourSo_144 : decode cL_isPourSo 144 = .ok (.if_icmp .ne 7, 3) := by decide +kernel
theorem dL_isPourSo_147 : decode cL_isPourSo 147 = .ok (.iconst 1, 1) := by decide +kernel
theorem dL_isPourSo_148 : decode cL_isPourSo 148 = .ok (.goto 4, 3) := by decide +kernel
theorem dL_isPourSo_151 : decode cL_isPourSo 151 = .ok (.iconst 0, 1) := by decide +kernel
theorem dL_isPourSo_152 : decode cL_isPourSo 152 = .ok (.istore 8, 2) := by decide +kernel
theorem dL_isPourSo_154 : decode cL_isPourSo 154 = .ok (.aload_n 0, 1) := by decide +kernel
theorem dL_isPourSo_155 : decode cL_isPourSo 155 = .ok (.invokevirtual 88, 3) := by decide +kernel
theorem dL_isPourSo_158 : decode cL_isPourSo 158 = .ok (.istore 9, 2) := by decide +kernel
theorem dL_isPourSo_160 : decode cL_isPourSo 160 = .ok (.iload 8, 2) := by decide +kernel
theorem dL_isPourSo_162 : decode cL_isPourSo 162 = .ok (.ifCond .eq 23, 3) := by decide +kernel
theorem dL_isPourSo_165 : decode cL_isPourSo 165 = .ok (.iload 9, 2) := by decide +kernel
theorem dL_isPourSo_167 : decode cL_isPourSo 167 = .ok (.ifCond .lt 18, 3) := by decide +kernel
theorem dL_isPourSo_170 : decode cL_isPourSo 170 = .ok (.aload_n 0, 1) := by decide +kernel
theorem dL_isPourSo_171 : decode cL_isPourSo 171 = .ok (.bipush 8, 2) := by decide +kernel
theorem dL_isPourSo_173 : decode cL_isPourSo 173 = .ok (.invokevirtual 8, 3) := by decide +kernel
theorem dL_isPourSo_176 : decode cL_isPourSo 176 = .ok (.iload 6, 2) := by decide +kernel
theorem dL_isPourSo_178 : decode cL_isPourSo 178 = .ok (.if_icmp .ne 7, 3) := by decide +kernel
theorem dL_isPourSo_181 : decode cL_isPourSo 181 = .ok (.iconst 1, 1) := by decide +kernel
theorem dL_isPourSo_182 : decode cL_isPourSo 182 = .ok (.goto 4, 3) := by decide +kernel
theorem dL_isPourSo_185 : decode cL_isPourSo 185 = .ok (.iconst 0, 1) := by decide +kernel
theorem dL_isPourSo_186 : decode cL_isPourSo 186 = .ok (.ireturn, 1) := by decide +kernel
theorem dL_isServeSo_0 : decode cL_isServeSo 0 = .ok (.aload_n 0, 1) := by decide +kernel
theorem dL_isServeSo_1 : decode cL_isServeSo 1 = .ok (.iconst 0, 1) := by decide +kernel
theorem dL_isServeSo_2 : decode cL_isServeSo 2 = .ok (.invokevirtual 94, 3) := by decide +kernel
theorem dL_isServeSo_5 : decode cL_isServeSo 5 = .ok (.istore_n 1, 1) := by decide +kernel
theorem dL_isServeSo_6 : decode cL_isServeSo 6 = .ok (.iload_n 1, 1) := by decide +kernel
theorem dL_isServeSo_7 : decode cL_isServeSo 7 = .ok (.ifCond .ge 18, 3) := by decide +kernel
theorem dL_isServeSo_10 : decode cL_isServeSo 10 = .ok (.aload_n 0, 1) := by decide +kernel
theorem dL_isServeSo_11 : decode cL_isServeSo 11 = .ok (.invokevirtual 56, 3) := by decide +kernel
theorem dL_isServeSo_14 : decode cL_isServeSo 14 = .ok (.bipush (-5), 2) := by decide +kernel
theorem dL_isServeSo_16 : decode cL_isServeSo 16 = .ok (.if_icmp .ne 7, 3) := by decide +kernel
theorem dL_isServeSo_19 : decode cL_isServeSo 19 = .ok (.iconst 1, 1) := by decide +kernel
theorem dL_isServeSo_20 : decode cL_isServeSo 20 = .ok (.goto 4, 3) := by decide +kernel
theorem dL_isServeSo_23 : decode cL_isServeSo 23 = .ok (.iconst 0, 1) := by decide +kernel
theorem dL_isServeSo_24 : decode cL_isServeSo 24 = .ok (.ireturn, 1) := by decide +kernel
theorem dL_isServeSo_25 : decode cL_isServeSo 25 = .ok (.iconst (-1), 1) := by decide +kernel
theorem dL_isServeSo_26 : decode cL_isServeSo 26 = .ok (.istore_n 2, 1) := by decide +kernel
theorem dL_isServeSo_27 : decode cL_isServeSo 27 = .ok (.aload_n 0, 1) := by decide +kernel
theorem dL_isServeSo_28 : decode cL_isServeSo 28 = .ok (.iconst 0, 1) := by decide +kernel
theorem dL_isServeSo_29 : decode cL_isServeSo 29 = .ok (.invokevirtual 8, 3) := by decide +kernel
theorem dL_isServeSo_32 : decode cL_isServeSo 32 = .ok (.iconst 1, 1) := by decide +kernel
theorem dL_isServeSo_33 : decode cL_isServeSo 33 = .ok (.isub, 1) := by decide +kernel
theorem dL_isServeSo_34 : decode cL_isServeSo 34 = .ok (.istore_n 3, 1) := by decide +kernel
theorem dL_isServeSo_35 : decode cL_isServeSo 35 = .ok (.iload_n 3, 1) := by decide +kernel
theorem dL_isServeSo_36 : decode cL_isServeSo 36 = .ok (.ifCond .lt 39, 3) := by decide +kernel
theorem dL_isServeSo_39 : decode cL_isServeSo 39 = .ok (.aload_n 0, 1) := by decide +kernel
theorem dL_isServeSo_40 : decode cL_isServeSo 40 = .ok (.iload_n 1, 1) := by decide +kernel
theorem dL_isServeSo_41 : decode cL_isServeSo 41 = .ok (.aload_n 0, 1) := by decide +kernel
theorem dL_isServeSo_42 : decode cL_isServeSo 42 = .ok (.aload_n 0, 1) := by decide +kernel
theorem dL_isServeSo_43 : decode cL_isServeSo 43 = .ok (.iload_n 3, 1) := by decide +kernel
theorem dL_isServeSo_44 : decode cL_isServeSo 44 = .ok (.invokevirtual 20, 3) := by decide +kernel
theorem dL_isServeSo_47 : decode cL_isServeSo 47 = .ok (.iconst 0, 1) := by decide +kernel
theorem dL_isServeSo_48 : decode cL_isServeSo 48 = .ok (.invokevirtual 50, 3) := by decide +kernel
theorem dL_isServeSo_51 : decode cL_isServeSo 51 = .ok (.iconst 1, 1) := by decide +kernel
theorem dL_isServeSo_52 : decode cL_isServeSo 52 = .ok (.invokevirtual 69, 3) := by decide +kernel
theorem dL_isServeSo_55 : decode cL_isServeSo 55 = .ok (.iconst 1, 1) := by decide +kernel
theorem dL_isServeSo_56 : decode cL_isServeSo 56 = .ok (.if_icmp .ne 11, 3) := by decide +kernel
theorem dL_isServeSo_59 : decode cL_isServeSo 59 = .ok (.aload_n 0, 1) := by decide +kernel
theorem dL_isServeSo_60 : decode cL_isServeSo 60 = .ok (.iload_n 3, 1) := by decide +kernel
theorem dL_isServeSo_61 : decode cL_isServeSo 61 = .ok (.invokevirtual 20, 3) := by decide +kernel
theorem dL_isServeSo_64 : decode cL_isServeSo 64 = .ok (.goto 4, 3) := by decide +kernel
theorem dL_isServeSo_67 : decode cL_isServeSo 67 = .ok (.iload_n 2, 1) := by decide +kernel
theorem dL_isServeSo_68 : decode cL_isServeSo 68 = .ok (.istore_n 2, 1) := by decide +kernel
theorem dL_isServeSo_69 : decode cL_isServeSo 69 = .ok (.iinc 3 (-1), 3) := by decide +kernel
theorem dL_isServeSo_72 : decode cL_isServeSo 72 = .ok (.goto (-37), 3) := by decide +kernel
theorem dL_isServeSo_75 : decode cL_isServeSo 75 = .ok (.iload_n 2, 1) := by decide +kernel
theorem dL_isServeSo_76 : decode cL_isServeSo 76 = .ok (.ifCond .ge 7, 3) := by decide +kernel
theorem dL_isServeSo_79 : decode cL_isServeSo 79 = .ok (.iconst 0, 1) := by decide +kernel
theorem dL_isServeSo_80 : decode cL_isServeSo 80 = .ok (.goto 18, 3) := by decide +kernel
theorem dL_isServeSo_83 : decode cL_isServeSo 83 = .ok (.aload_n 0, 1) := by decide +kernel
theorem dL_isServeSo_84 : decode cL_isServeSo 84 = .ok (.iload_n 2, 1) := by decide +kernel
theorem dL_isServeSo_85 : decode cL_isServeSo 85 = .ok (.iconst 2, 1) := by decide +kernel
theorem dL_isServeSo_86 : decode cL_isServeSo 86 = .ok (.invokevirtual 50, 3) := by decide +kernel
theorem dL_isServeSo_89 : decode cL_isServeSo 89 = .ok (.aload_n 0, 1) := by decide +kernel
theorem dL_isServeSo_90 : decode cL_isServeSo 90 = .ok (.iload_n 2, 1) := by decide +kernel
theorem dL_isServeSo_91 : decode cL_isServeSo 91 = .ok (.iconst 2, 1) := by decide +kernel
theorem dL_isServeSo_92 : decode cL_isServeSo 92 = .ok (.invokevirtual 50, 3) := by decide +kernel
theorem dL_isServeSo_95 : decode cL_isServeSo 95 = .ok (.iconst 2, 1) := by decide +kernel
theorem dL_isServeSo_96 : decode cL_isServeSo 96 = .ok (.idiv, 1) := by decide +kernel
theorem dL_isServeSo_97 : decode cL_isServeSo 97 = .ok (.iadd, 1) := by decide +kernel
theorem dL_isServeSo_98 : decode cL_isServeSo 98 = .ok (.istore_n 3, 1) := by decide +kernel
theorem dL_isServeSo_99 : decode cL_isServeSo 99 = .ok (.aload_n 0, 1) := by decide +kernel
theorem dL_isServeSo_100 : decode cL_isServeSo 100 = .ok (.bipush 13, 2) := by decide +kernel
theorem dL_isServeSo_102 : decode cL_isServeSo 102 = .ok (.invokevirtual 8, 3) := by decide +kernel
theorem dL_isServeSo_105 : decode cL_isServeSo 105 = .ok (.istore 4, 2) := by decide +kernel
theorem dL_isServeSo_107 : decode cL_isServeSo 107 = .ok (.aload_n 0, 1) := by decide +kernel
theorem dL_isServeSo_108 : decode cL_isServeSo 108 = .ok (.bipush 14, 2) := by decide +kernel
theorem dL_isServeSo_110 : decode cL_isServeSo 110 = .ok (.invokevirtual 8, 3) := by decide +kernel
theorem dL_isServeSo_113 : decode cL_isServeSo 113 = .ok (.istore 5, 2) := by decide +kernel
theorem dL_isServeSo_115 : decode cL_isServeSo 115 = .ok (.aload_n 0, 1) := by decide +kernel
theorem dL_isServeSo_116 : decode cL_isServeSo 116 = .ok (.bipush 6, 2) := by decide +kernel
theorem dL_isServeSo_118 : decode cL_isServeSo 118 = .ok (.invokevirtual 8, 3) := by decide +kernel
theorem dL_isServeSo_121 : decode cL_isServeSo 121 = .ok (.istore 6, 2) := by decide +kernel
theorem dL_isServeSo_123 : decode cL_isServeSo 123 = .ok (.aload_n 0, 1) := by decide +kernel
theorem dL_isServeSo_124 : decode cL_isServeSo 124 = .ok (.invokevirtual 56, 3) := by decide +kernel
theorem dL_isServeSo_127 : decode cL_isServeSo 127 = .ok (.iload_n 3, 1) := by decide +kernel
theorem dL_isServeSo_128 : decode cL_isServeSo 128 = .ok (.if_icmp .ne 68, 3) := by decide +kernel
theorem dL_isServeSo_131 : decode cL_isServeSo 131 = .ok (.aload_n 0, 1) := by decide +kernel
theorem dL_isServeSo_132 : decode cL_isServeSo 132 = .ok (.bipush 13, 2) := by decide +kernel
theorem dL_isServeSo_134 : decode cL_isServeSo 134 = .ok (.invokevirtual 8, 3) := by decide +kernel
theorem dL_isServeSo_137 : decode cL_isServeSo 137 = .ok (.iload 4, 2) := by decide +kernel
theorem dL_isServeSo_139 : decode cL_isServeSo 139 = .ok (.iload_n 3, 1) := by decide +kernel
theorem dL_isServeSo_140 : decode cL_isServeSo 140 = .ok (.iadd, 1) := by decide +kernel
theorem dL_isServeSo_141 : decode cL_isServeSo 141 = .ok (.if_icmp .ne 55, 3) := by decide +kernel
theorem dL_isServeSo_144 : decode cL_isServeSo 144 = .ok (.aload_n 0, 1) := by decide +kernel
theorem dL_isServeSo_145 : decode cL_isServeSo 145 = .ok (.bipush 14, 2) := by decide +kernel
theorem dL_isServeSo_147 : decode cL_isServeSo 147 = .ok (.invokevirtual 8, 3) := by decide +kernel
theorem dL_isServeSo_150 : decode cL_isServeSo 150 = .ok (.iload 5, 2) := by decide +kernel
theorem dL_isServeSo_152 : decode cL_isServeSo 152 = .ok (.iload_n 2, 1) := by decide +kernel
theorem dL_isServeSo_153 : decode cL_isServeSo 153 = .ok (.ifCond .ge 7, 3) := by decide +kernel
theorem dL_isServeSo_156 : decode cL_isServeSo 156 = .ok (.iconst 0, 1) := by decide +kernel
theorem dL_isServeSo_157 : decode cL_isServeSo 157 = .ok (.goto 4, 3) := by decide +kernel
theorem dL_isServeSo_160 : decode cL_isServeSo 160 = .ok (.iconst 1, 1) := by decide +kernel
theorem dL_isServeSo_161 : decode cL_isServeSo 161 = .ok (.iadd, 1) := by decide +kernel
theorem dL_isServeSo_162 : decode cL_isServeSo 162 = .ok (.if_icmp .ne 34, 3) := by decide +kernel
theorem dL_isServeSo_165 : decode cL_isServeSo 165 = .ok (.aload_n 0, 1) := by decide +kernel
theorem dL_isServeSo_166 : decode cL_isServeSo 166 = .ok (.bipush 6, 2) := by decide +kernel
theorem dL_isServeSo_168 : decode cL_isServeSo 168 = .ok (.invokevirtual 8, 3) := by decide +kernel
theorem dL_isServeSo_171 : decode cL_isServeSo 171 = .ok (.iload 6, 2) := by decide +kernel
theorem dL_isServeSo_173 : decode cL_isServeSo 173 = .ok (.iconst 1, 1) := by decide +kernel
theorem dL_isServeSo_174 : decode cL_isServeSo 174 = .ok (.isub, 1) := by decide +kernel
theorem dL_isServeSo_175 : decode cL_isServeSo 175 = .ok (.if_icmp .ne 21, 3) := by decide +kernel
theorem dL_isServeSo_178 : decode cL_isServeSo 178 = .ok (.iload_n 2, 1) := by decide +kernel
theorem dL_isServeSo_179 : decode cL_isServeSo 179 = .ok (.ifCond .lt 13, 3) := by decide +kernel
theorem dL_isServeSo_182 : decode cL_isServeSo 182 = .ok (.aload_n 0, 1) := by decide +kernel
theorem dL_isServeSo_183 : decode cL_isServeSo 183 = .ok (.iload_n 2, 1) := by decide +kernel
theorem dL_isServeSo_184 : decode cL_isServeSo 184 = .ok (.iconst 0, 1) := by decide +kernel
theorem dL_isServeSo_185 : decode cL_isServeSo 185 = .ok (.invokevirtual 50, 3) := by decide +kernel
theorem dL_isServeSo_188 : decode cL_isServeSo 188 = .ok (.iconst (-1), 1) := by decide +kernel
theorem dL_isServeSo_189 : decode cL_isServeSo 189 = .ok (.if_icmp .ne 7, 3) := by decide +kernel
theorem dL_isServeSo_192 : decode cL_isServeSo 192 = .ok (.iconst 1, 1) := by decide +kernel
theorem dL_isServeSo_193 : decode cL_isServeSo 193 = .ok (.goto 4, 3) := by decide +kernel
theorem dL_isServeSo_196 : decode cL_isServeSo 196 = .ok (.iconst 0, 1) := by decide +kernel
theorem dL_isServeSo_197 : decode cL_isServeSo 197 = .ok (.istore 7, 2) := by decide +kernel
theorem dL_isServeSo_199 : decode cL_isServeSo 199 = .ok (.aload_n 0, 1) := by decide +kernel
theorem dL_isServeSo_200 : decode cL_isServeSo 200 = .ok (.invokevirtual 88, 3) := by decide +kernel
theorem dL_isServeSo_203 : decode cL_isServeSo 203 = .ok (.istore 8, 2) := by decide +kernel
theorem dL_isServeSo_205 : decode cL_isServeSo 205 = .ok (.iload 7, 2) := by decide +kernel
theorem dL_isServeSo_207 : decode cL_isServeSo 207 = .ok (.ifCond .eq 21, 3) := by decide +kernel
theorem dL_isServeSo_210 : decode cL_isServeSo 210 = .ok (.iload 8, 2) := by decide +kernel
theorem dL_isServeSo_212 : decode cL_isServeSo 212 = .ok (.ifCond .lt 16, 3) := by decide +kernel
theorem dL_isServeSo_215 : decode cL_isServeSo 215 = .ok (.aload_n 0, 1) := by decide +kernel
theorem dL_isServeSo_216 : decode cL_isServeSo 216 = .ok (.iconst 0, 1) := by decide +kernel
theorem dL_isServeSo_217 : decode cL_isServeSo 217 = .ok (.invokevirtual 94, 3) := by decide +kernel
theorem dL_isServeSo_220 : decode cL_isServeSo 220 = .ok (.iload_n 1, 1) := by decide +kernel
theorem dL_isServeSo_221 : decode cL_isServeSo 221 = .ok (.if_icmp .ne 7, 3) := by decide +kernel
theorem dL_isServeSo_224 : decode cL_isServeSo 224 = .ok (.iconst 1, 1) := by decide +kernel
theorem dL_isServeSo_225 : decode cL_isServeSo 225 = .ok (.goto 4, 3) := by decide +kernel
theorem dL_isServeSo_228 : decode cL_isServeSo 228 = .ok (.iconst 0, 1) := by decide +kernel
theorem dL_isServeSo_229 : decode cL_isServeSo 229 = .ok (.ireturn, 1) := by decide +kernel
theorem dL_law_0 : decode cL_law 0 = .ok (.new 9, 3) := by decide +kernel
theorem dL_law_3 : decode cL_law 3 = .ok (.dup, 1) := by decide +kernel
theorem dL_law_4 : decode cL_law 4 = .ok (.invokespecial 97, 3) := by decide +kernel
theorem dL_law_7 : decode cL_law 7 = .ok (.astore_n 1, 1) := by decide +kernel
theorem dL_law_8 : decode cL_law 8 = .ok (.iconst 0, 1) := by decide +kernel
theorem dL_law_9 : decode cL_law 9 = .ok (.istore_n 2, 1) := by decide +kernel
theorem dL_law_10 : decode cL_law 10 = .ok (.iconst 0, 1) := by decide +kernel
theorem dL_law_11 : decode cL_law 11 = .ok (.istore_n 3, 1) := by decide +kernel
theorem dL_law_12 : decode cL_law 12 = .ok (.iload_n 3, 1) := by decide +kernel
theorem dL_law_13 : decode cL_law 13 = .ok (.bipush 44, 2) := by decide +kernel
theorem dL_law_15 : decode cL_law 15 = .ok (.if_icmp .ge 206, 3) := by decide +kernel
theorem dL_law_18 : decode cL_law 18 = .ok (.aload_n 0, 1) := by decide +kernel
theorem dL_law_19 : decode cL_law 19 = .ok (.iload_n 3, 1) := by decide +kernel
theorem dL_law_20 : decode cL_law 20 = .ok (.invokestatic 98, 3) := by decide +kernel
theorem dL_law_23 : decode cL_law 23 = .ok (.istore 4, 2) := by decide +kernel
theorem dL_law_25 : decode cL_law 25 = .ok (.aload_n 1, 1) := by decide +kernel
theorem dL_law_26 : decode cL_law 26 = .ok (.bipush 6, 2) := by decide +kernel
theorem dL_law_28 : decode cL_law 28 = .ok (.invokevirtual 8, 3) := by decide +kernel
theorem dL_law_31 : decode cL_law 31 = .ok (.aload_n 1, 1) := by decide +kernel
theorem dL_law_32 : decode cL_law 32 = .ok (.bipush 14, 2) := by decide +kernel
theorem dL_law_34 : decode cL_law 34 = .ok (.invokevirtual 8, 3) := by decide +kernel
theorem dL_law_37 : decode cL_law 37 = .ok (.iadd, 1) := by decide +kernel
theorem dL_law_38 : decode cL_law 38 = .ok (.aload_n 1, 1) := by decide +kernel
theorem dL_law_39 : decode cL_law 39 = .ok (.bipush 15, 2) := by decide +kernel
theorem dL_law_41 : decode cL_law 41 = .ok (.invokevirtual 8, 3) := by decide +kernel
theorem dL_law_44 : decode cL_law 44 = .ok (.iadd, 1) := by decide +kernel
theorem dL_law_45 : decode cL_law 45 = .ok (.istore 5, 2) := by decide +kernel
theorem dL_law_47 : decode cL_law 47 = .ok (.aload_n 1, 1) := by decide +kernel
theorem dL_law_48 : decode cL_law 48 = .ok (.iload 4, 2) := by decide +kernel
theorem dL_law_50 : decode cL_law 50 = .ok (.invokestatic 102, 3) := by decide +kernel
theorem dL_law_53 : decode cL_law 53 = .ok (.istore 6, 2) := by decide +kernel
theorem dL_law_55 : decode cL_law 55 = .ok (.iload_n 2, 1) := by decide +kernel
theorem dL_law_56 : decode cL_law 56 = .ok (.aload_n 1, 1) := by decide +kernel
theorem dL_law_57 : decode cL_law 57 = .ok (.bipush 6, 2) := by decide +kernel
theorem dL_law_59 : decode cL_law 59 = .ok (.invokevirtual 8, 3) := by decide +kernel
theorem dL_law_62 : decode cL_law 62 = .ok (.aload_n 1, 1) := by decide +kernel
theorem dL_law_63 : decode cL_law 63 = .ok (.bipush 14, 2) := by decide +kernel
theorem dL_law_65 : decode cL_law 65 = .ok (.invokevirtual 8, 3) := by decide +kernel
theorem dL_law_68 : decode cL_law 68 = .ok (.iadd, 1) := by decide +kernel
theorem dL_law_69 : decode cL_law 69 = .ok (.aload_n 1, 1) := by decide +kernel
theorem dL_law_70 : decode cL_law 70 = .ok (.bipush 15, 2) := by decide +kernel
theorem dL_law_72 : decode cL_law 72 = .ok (.invokevirtual 8, 3) := by decide +kernel
theorem dL_law_75 : decode cL_law 75 = .ok (.iadd, 1) := by decide +kernel
theorem dL_law_76 : decode cL_law 76 = .ok (.iload 5, 2) := by decide +kernel
theorem dL_law_78 : decode cL_law 78 = .ok (.isub, 1) := by decide +kernel
theorem dL_law_79 : decode cL_law 79 = .ok (.iadd, 1) := by decide +kernel
theorem dL_law_80 : decode cL_law 80 = .ok (.istore_n 2, 1) := by decide +kernel
theorem dL_law_81 : decode cL_law 81 = .ok (.aload_n 1, 1) := by decide +kernel
theorem dL_law_82 : decode cL_law 82 = .ok (.iload 4, 2) := by decide +kernel
theorem dL_law_84 : decode cL_law 84 = .ok (.iconst 5, 1) := by decide +kernel
theorem dL_law_85 : decode cL_law 85 = .ok (.ishr, 1) := by decide +kernel
theorem dL_law_86 : decode cL_law 86 = .ok (.invokestatic 23, 3) := by decide +kernel
theorem dL_law_89 : decode cL_law 89 = .ok (.istore 7, 2) := by decide +kernel
theorem dL_law_91 : decode cL_law 91 = .ok (.aload_n 1, 1) := by decide +kernel
theorem dL_law_92 : decode cL_law 92 = .ok (.iload 4, 2) := by decide +kernel
theorem dL_law_94 : decode cL_law 94 = .ok (.bipush 7, 2) := by decide +kernel
theorem dL_law_96 : decode cL_law 96 = .ok (.ishr, 1) := by decide +kernel
theorem dL_law_97 : decode cL_law 97 = .ok (.invokestatic 23, 3) := by decide +kernel
theorem dL_law_100 : decode cL_law 100 = .ok (.istore 8, 2) := by decide +kernel
theorem dL_law_102 : decode cL_law 102 = .ok (.iload 6, 2) := by decide +kernel
theorem dL_law_104 : decode cL_law 104 = .ok (.ifCond .lt 109, 3) := by decide +kernel
theorem dL_law_107 : decode cL_law 107 = .ok (.aload_n 1, 1) := by decide +kernel
theorem dL_law_108 : decode cL_law 108 = .ok (.iload_n 2, 1) := by decide +kernel
theorem dL_law_109 : decode cL_law 109 = .ok (.invokestatic 105, 3) := by decide +kernel
theorem dL_law_112 : decode cL_law 112 = .ok (.ifCond .eq 101, 3) := by decide +kernel
theorem dL_law_115 : decode cL_law 115 = .ok (.aload_n 1, 1) := by decide +kernel
theorem dL_law_116 : decode cL_law 116 = .ok (.iload 4, 2) := by decide +kernel
theorem dL_law_118 : decode cL_law 118 = .ok (.iconst 2, 1) := by decide +kernel
theorem dL_law_119 : decode cL_law 119 = .ok (.ishr, 1) := by decide +kernel
theorem dL_law_120 : decode cL_law 120 = .ok (.sipush 6561, 3) := by decide +kernel
theorem dL_law_123 : decode cL_law 123 = .ok (.invokestatic 14, 3) := by decide +kernel
theorem dL_law_126 : decode cL_law 126 = .ok (.iload 4, 2) := by decide +kernel
theorem dL_law_128 : decode cL_law 128 = .ok (.iconst 5, 1) := by decide +kernel
theorem dL_law_129 : decode cL_law 129 = .ok (.ishr, 1) := by decide +kernel
theorem dL_law_130 : decode cL_law 130 = .ok (.sipush 6561, 3) := by decide +kernel
theorem dL_law_133 : decode cL_law 133 = .ok (.invokestatic 14, 3) := by decide +kernel
theorem dL_law_136 : decode cL_law 136 = .ok (.iload 4, 2) := by decide +kernel
theorem dL_law_138 : decode cL_law 138 = .ok (.invokestatic 109, 3) := by decide +kernel
theorem dL_law_141 : decode cL_law 141 = .ok (.ifCond .eq 72, 3) := by decide +kernel
theorem dL_law_144 : decode cL_law 144 = .ok (.aload_n 1, 1) := by decide +kernel
theorem dL_law_145 : decode cL_law 145 = .ok (.invokestatic 113, 3) := by decide +kernel
theorem dL_law_148 : decode cL_law 148 = .ok (.ifCond .eq 65, 3) := by decide +kernel
theorem dL_law_151 : decode cL_law 151 = .ok (.iload 7, 2) := by decide +kernel
theorem dL_law_153 : decode cL_law 153 = .ok (.ifCond .lt 21, 3) := by decide +kernel
theorem dL_law_156 : decode cL_law 156 = .ok (.iload 7, 2) := by decide +kernel
theorem dL_law_158 : decode cL_law 158 = .ok (.iload 8, 2) := by decide +kernel
theorem dL_law_160 : decode cL_law 160 = .ok (.if_icmp .eq 14, 3) := by decide +kernel
theorem dL_law_163 : decode cL_law 163 = .ok (.aload_n 1, 1) := by decide +kernel
theorem dL_law_164 : decode cL_law 164 = .ok (.iload 7, 2) := by decide +kernel
theorem dL_law_166 : decode cL_law 166 = .ok (.iload 8, 2) := by decide +kernel
theorem dL_law_168 : decode cL_law 168 = .ok (.invokestatic 117, 3) := by decide +kernel
theorem dL_law_171 : decode cL_law 171 = .ok (.ifCond .eq 42, 3) := by decide +kernel
theorem dL_law_174 : decode cL_law 174 = .ok (.iload_n 3, 1) := by decide +kernel
theorem dL_law_175 : decode cL_law 175 = .ok (.bipush 6, 2) := by decide +kernel
theorem dL_law_177 : decode cL_law 177 = .ok (.irem, 1) := by decide +kernel
theorem dL_law_178 : decode cL_law 178 = .ok (.iconst 5, 1) := by decide +kernel
theorem dL_law_179 : decode cL_law 179 = .ok (.if_icmp .ne 20, 3) := by decide +kernel
theorem dL_law_182 : decode cL_law 182 = .ok (.aload_n 1, 1) := by decide +kernel
theorem dL_law_183 : decode cL_law 183 = .ok (.iload 4, 2) := by decide +kernel
theorem dL_law_185 : decode cL_law 185 = .ok (.iconst 4, 1) := by decide +kernel
theorem dL_law_186 : decode cL_law 186 = .ok (.ishr, 1) := by decide +kernel
theorem dL_law_187 : decode cL_law 187 = .ok (.sipush 6561, 3) := by decide +kernel
theorem dL_law_190 : decode cL_law 190 = .ok (.invokestatic 14, 3) := by decide +kernel
theorem dL_law_193 : decode cL_law 193 = .ok (.invokestatic 121, 3) := by decide +kernel
theorem dL_law_196 : decode cL_law 196 = .ok (.ifCond .eq 17, 3) := by decide +kernel
theorem dL_law_199 : decode cL_law 199 = .ok (.iload_n 3, 1) := by decide +kernel
theorem dL_law_200 : decode cL_law 200 = .ok (.iconst 4, 1) := by decide +kernel
theorem dL_law_201 : decode cL_law 201 = .ok (.irem, 1) := by decide +kernel
theorem dL_law_202 : decode cL_law 202 = .ok (.iconst 3, 1) := by decide +kernel
theorem dL_law_203 : decode cL_law 203 = .ok (.if_icmp .ne 12, 3) := by decide +kernel
theorem dL_law_206 : decode cL_law 206 = .ok (.aload_n 1, 1) := by decide +kernel
theorem dL_law_207 : decode cL_law 207 = .ok (.invokestatic 124, 3) := by decide +kernel
theorem dL_law_210 : decode cL_law 210 = .ok (.ifCond .ne 5, 3) := by decide +kernel
theorem dL_law_213 : decode cL_law 213 = .ok (.iconst 0, 1) := by decide +kernel
theorem dL_law_214 : decode cL_law 214 = .ok (.ireturn, 1) := by decide +kernel
theorem dL_law_215 : decode cL_law 215 = .ok (.iinc 3 1, 3) := by decide +kernel
theorem dL_law_218 : decode cL_law 218 = .ok (.goto (-206), 3) := by decide +kernel
theorem dL_law_221 : decode cL_law 221 = .ok (.iconst 1, 1) := by decide +kernel
theorem dL_law_222 : decode cL_law 222 = .ok (.ireturn, 1) := by decide +kernel
