theorem d_Mo_step_189 : decode cc_Mo_step 189 = .ok (.iconst 1, 1) := by decide +kernel
theorem d_Mo_step_190 : decode cc_Mo_step 190 = .ok (.invokevirtual 88, 3) := by decide +kernel
theorem d_Mo_step_193 : decode cc_Mo_step 193 = .ok (.goto 4, 3) := by decide +kernel
theorem d_Mo_step_196 : decode cc_Mo_step 196 = .ok (.iconst 0, 1) := by decide +kernel
theorem d_Mo_step_197 : decode cc_Mo_step 197 = .ok (.ireturn, 1) := by decide +kernel
theorem d_Mo_step_198 : decode cc_Mo_step 198 = .ok (.iload_n 2, 1) := by decide +kernel
theorem d_Mo_step_199 : decode cc_Mo_step 199 = .ok (.bipush 76, 2) := by decide +kernel
theorem d_Mo_step_201 : decode cc_Mo_step 201 = .ok (.if_icmp .ne 14, 3) := by decide +kernel
theorem d_Mo_step_204 : decode cc_Mo_step 204 = .ok (.aload_n 0, 1) := by decide +kernel
theorem d_Mo_step_205 : decode cc_Mo_step 205 = .ok (.bipush 22, 2) := by decide +kernel
theorem d_Mo_step_207 : decode cc_Mo_step 207 = .ok (.iconst 5, 1) := by decide +kernel
theorem d_Mo_step_208 : decode cc_Mo_step 208 = .ok (.iconst 1, 1) := by decide +kernel
theorem d_Mo_step_209 : decode cc_Mo_step 209 = .ok (.invokevirtual 88, 3) := by decide +kernel
theorem d_Mo_step_212 : decode cc_Mo_step 212 = .ok (.goto 4, 3) := by decide +kernel
theorem d_Mo_step_215 : decode cc_Mo_step 215 = .ok (.iconst 0, 1) := by decide +kernel
theorem d_Mo_step_216 : decode cc_Mo_step 216 = .ok (.ireturn, 1) := by decide +kernel
theorem d_Mo_step_217 : decode cc_Mo_step 217 = .ok (.iload_n 2, 1) := by decide +kernel
theorem d_Mo_step_218 : decode cc_Mo_step 218 = .ok (.bipush 60, 2) := by decide +kernel
theorem d_Mo_step_220 : decode cc_Mo_step 220 = .ok (.if_icmp .ne 16, 3) := by decide +kernel
theorem d_Mo_step_223 : decode cc_Mo_step 223 = .ok (.aload_n 0, 1) := by decide +kernel
theorem d_Mo_step_224 : decode cc_Mo_step 224 = .ok (.bipush 24, 2) := by decide +kernel
theorem d_Mo_step_226 : decode cc_Mo_step 226 = .ok (.bipush 14, 2) := by decide +kernel
theorem d_Mo_step_228 : decode cc_Mo_step 228 = .ok (.bipush 16, 2) := by decide +kernel
theorem d_Mo_step_230 : decode cc_Mo_step 230 = .ok (.invokevirtual 88, 3) := by decide +kernel
theorem d_Mo_step_233 : decode cc_Mo_step 233 = .ok (.goto 21, 3) := by decide +kernel
theorem d_Mo_step_236 : decode cc_Mo_step 236 = .ok (.iload_n 2, 1) := by decide +kernel
theorem d_Mo_step_237 : decode cc_Mo_step 237 = .ok (.bipush 40, 2) := by decide +kernel
theorem d_Mo_step_239 : decode cc_Mo_step 239 = .ok (.if_icmp .ne 14, 3) := by decide +kernel
theorem d_Mo_step_242 : decode cc_Mo_step 242 = .ok (.aload_n 0, 1) := by decide +kernel
theorem d_Mo_step_243 : decode cc_Mo_step 243 = .ok (.bipush 25, 2) := by decide +kernel
theorem d_Mo_step_245 : decode cc_Mo_step 245 = .ok (.bipush 21, 2) := by decide +kernel
theorem d_Mo_step_247 : decode cc_Mo_step 247 = .ok (.invokevirtual 77, 3) := by decide +kernel
theorem d_Mo_step_250 : decode cc_Mo_step 250 = .ok (.goto 4, 3) := by decide +kernel
theorem d_Mo_step_253 : decode cc_Mo_step 253 = .ok (.iconst 0, 1) := by decide +kernel
theorem d_Mo_step_254 : decode cc_Mo_step 254 = .ok (.ireturn, 1) := by decide +kernel
theorem d_Mo_step_255 : decode cc_Mo_step 255 = .ok (.iload_n 2, 1) := by decide +kernel
theorem d_Mo_step_256 : decode cc_Mo_step 256 = .ok (.bipush 40, 2) := by decide +kernel
theorem d_Mo_step_258 : decode cc_Mo_step 258 = .ok (.if_icmp .ne 14, 3) := by decide +kernel
theorem d_Mo_step_261 : decode cc_Mo_step 261 = .ok (.aload_n 0, 1) := by decide +kernel
theorem d_Mo_step_262 : decode cc_Mo_step 262 = .ok (.bipush 25, 2) := by decide +kernel
theorem d_Mo_step_264 : decode cc_Mo_step 264 = .ok (.bipush 21, 2) := by decide +kernel
theorem d_Mo_step_266 : decode cc_Mo_step 266 = .ok (.invokevirtual 77, 3) := by decide +kernel
theorem d_Mo_step_269 : decode cc_Mo_step 269 = .ok (.goto 4, 3) := by decide +kernel
theorem d_Mo_step_272 : decode cc_Mo_step 272 = .ok (.iconst 0, 1) := by decide +kernel
theorem d_Mo_step_273 : decode cc_Mo_step 273 = .ok (.ireturn, 1) := by decide +kernel
theorem d_Mo_step_274 : decode cc_Mo_step 274 = .ok (.iload_n 2, 1) := by decide +kernel
theorem d_Mo_step_275 : decode cc_Mo_step 275 = .ok (.bipush 41, 2) := by decide +kernel
theorem d_Mo_step_277 : decode cc_Mo_step 277 = .ok (.if_icmp .ne 14, 3) := by decide +kernel
theorem d_Mo_step_280 : decode cc_Mo_step 280 = .ok (.aload_n 0, 1) := by decide +kernel
theorem d_Mo_step_281 : decode cc_Mo_step 281 = .ok (.bipush 26, 2) := by decide +kernel
theorem d_Mo_step_283 : decode cc_Mo_step 283 = .ok (.bipush 22, 2) := by decide +kernel
theorem d_Mo_step_285 : decode cc_Mo_step 285 = .ok (.invokevirtual 77, 3) := by decide +kernel
theorem d_Mo_step_288 : decode cc_Mo_step 288 = .ok (.goto 11, 3) := by decide +kernel
theorem d_Mo_step_291 : decode cc_Mo_step 291 = .ok (.aload_n 0, 1) := by decide +kernel
theorem d_Mo_step_292 : decode cc_Mo_step 292 = .ok (.bipush 25, 2) := by decide +kernel
theorem d_Mo_step_294 : decode cc_Mo_step 294 = .ok (.iconst 1, 1) := by decide +kernel
theorem d_Mo_step_295 : decode cc_Mo_step 295 = .ok (.iload_n 2, 1) := by decide +kernel
theorem d_Mo_step_296 : decode cc_Mo_step 296 = .ok (.invokevirtual 91, 3) := by decide +kernel
theorem d_Mo_step_299 : decode cc_Mo_step 299 = .ok (.ireturn, 1) := by decide +kernel
theorem d_Mo_step_300 : decode cc_Mo_step 300 = .ok (.iload_n 2, 1) := by decide +kernel
theorem d_Mo_step_301 : decode cc_Mo_step 301 = .ok (.bipush 86, 2) := by decide +kernel
theorem d_Mo_step_303 : decode cc_Mo_step 303 = .ok (.if_icmp .ne 14, 3) := by decide +kernel
theorem d_Mo_step_306 : decode cc_Mo_step 306 = .ok (.aload_n 0, 1) := by decide +kernel
theorem d_Mo_step_307 : decode cc_Mo_step 307 = .ok (.bipush 27, 2) := by decide +kernel
theorem d_Mo_step_309 : decode cc_Mo_step 309 = .ok (.bipush 23, 2) := by decide +kernel
theorem d_Mo_step_311 : decode cc_Mo_step 311 = .ok (.invokevirtual 77, 3) := by decide +kernel
theorem d_Mo_step_314 : decode cc_Mo_step 314 = .ok (.goto 11, 3) := by decide +kernel
theorem d_Mo_step_317 : decode cc_Mo_step 317 = .ok (.aload_n 0, 1) := by decide +kernel
theorem d_Mo_step_318 : decode cc_Mo_step 318 = .ok (.bipush 27, 2) := by decide +kernel
theorem d_Mo_step_320 : decode cc_Mo_step 320 = .ok (.iconst 1, 1) := by decide +kernel
theorem d_Mo_step_321 : decode cc_Mo_step 321 = .ok (.iload_n 2, 1) := by decide +kernel
theorem d_Mo_step_322 : decode cc_Mo_step 322 = .ok (.invokevirtual 91, 3) := by decide +kernel
theorem d_Mo_step_325 : decode cc_Mo_step 325 = .ok (.ireturn, 1) := by decide +kernel
theorem d_Mo_step_326 : decode cc_Mo_step 326 = .ok (.iload_n 2, 1) := by decide +kernel
theorem d_Mo_step_327 : decode cc_Mo_step 327 = .ok (.bipush 94, 2) := by decide +kernel
theorem d_Mo_step_329 : decode cc_Mo_step 329 = .ok (.if_icmp .ne 15, 3) := by decide +kernel
theorem d_Mo_step_332 : decode cc_Mo_step 332 = .ok (.aload_n 0, 1) := by decide +kernel
theorem d_Mo_step_333 : decode cc_Mo_step 333 = .ok (.bipush 27, 2) := by decide +kernel
theorem d_Mo_step_335 : decode cc_Mo_step 335 = .ok (.iconst 4, 1) := by decide +kernel
theorem d_Mo_step_336 : decode cc_Mo_step 336 = .ok (.bipush 24, 2) := by decide +kernel
theorem d_Mo_step_338 : decode cc_Mo_step 338 = .ok (.invokevirtual 88, 3) := by decide +kernel
theorem d_Mo_step_341 : decode cc_Mo_step 341 = .ok (.goto 4, 3) := by decide +kernel
theorem d_Mo_step_344 : decode cc_Mo_step 344 = .ok (.iconst 0, 1) := by decide +kernel
theorem d_Mo_step_345 : decode cc_Mo_step 345 = .ok (.ireturn, 1) := by decide +kernel
theorem d_Mo_step_346 : decode cc_Mo_step 346 = .ok (.aload_n 0, 1) := by decide +kernel
theorem d_Mo_step_347 : decode cc_Mo_step 347 = .ok (.bipush 29, 2) := by decide +kernel
theorem d_Mo_step_349 : decode cc_Mo_step 349 = .ok (.iconst 2, 1) := by decide +kernel
theorem d_Mo_step_350 : decode cc_Mo_step 350 = .ok (.iload_n 2, 1) := by decide +kernel
theorem d_Mo_step_351 : decode cc_Mo_step 351 = .ok (.invokevirtual 91, 3) := by decide +kernel
theorem d_Mo_step_354 : decode cc_Mo_step 354 = .ok (.ireturn, 1) := by decide +kernel
theorem d_Mo_step_355 : decode cc_Mo_step 355 = .ok (.iconst 0, 1) := by decide +kernel
theorem d_Mo_step_356 : decode cc_Mo_step 356 = .ok (.ireturn, 1) := by decide +kernel
theorem d_Mo_judge_0 : decode cc_Mo_judge 0 = .ok (.aload_n 0, 1) := by decide +kernel
theorem d_Mo_judge_1 : decode cc_Mo_judge 1 = .ok (.iconst 0, 1) := by decide +kernel
theorem d_Mo_judge_2 : decode cc_Mo_judge 2 = .ok (.putfield 60, 3) := by decide +kernel
theorem d_Mo_judge_5 : decode cc_Mo_judge 5 = .ok (.aload_n 0, 1) := by decide +kernel
theorem d_Mo_judge_6 : decode cc_Mo_judge 6 = .ok (.getfield 43, 3) := by decide +kernel
theorem d_Mo_judge_9 : decode cc_Mo_judge 9 = .ok (.iconst 0, 1) := by decide +kernel
theorem d_Mo_judge_10 : decode cc_Mo_judge 10 = .ok (.aload_n 0, 1) := by decide +kernel
theorem d_Mo_judge_11 : decode cc_Mo_judge 11 = .ok (.getfield 22, 3) := by decide +kernel
theorem d_Mo_judge_14 : decode cc_Mo_judge 14 = .ok (.iload_n 1, 1) := by decide +kernel
theorem d_Mo_judge_15 : decode cc_Mo_judge 15 = .ok (.iaload, 1) := by decide +kernel
theorem d_Mo_judge_16 : decode cc_Mo_judge 16 = .ok (.ifCond .ne 8, 3) := by decide +kernel
theorem d_Mo_judge_19 : decode cc_Mo_judge 19 = .ok (.bipush 20, 2) := by decide +kernel
theorem d_Mo_judge_21 : decode cc_Mo_judge 21 = .ok (.goto 20, 3) := by decide +kernel
theorem d_Mo_judge_24 : decode cc_Mo_judge 24 = .ok (.aload_n 0, 1) := by decide +kernel
theorem d_Mo_judge_25 : decode cc_Mo_judge 25 = .ok (.getfield 22, 3) := by decide +kernel
theorem d_Mo_judge_28 : decode cc_Mo_judge 28 = .ok (.iload_n 1, 1) := by decide +kernel
theorem d_Mo_judge_29 : decode cc_Mo_judge 29 = .ok (.iaload, 1) := by decide +kernel
theorem d_Mo_judge_30 : decode cc_Mo_judge 30 = .ok (.iconst 1, 1) := by decide +kernel
theorem d_Mo_judge_31 : decode cc_Mo_judge 31 = .ok (.if_icmp .ne 8, 3) := by decide +kernel
theorem d_Mo_judge_34 : decode cc_Mo_judge 34 = .ok (.bipush 23, 2) := by decide +kernel
theorem d_Mo_judge_36 : decode cc_Mo_judge 36 = .ok (.goto 5, 3) := by decide +kernel
theorem d_Mo_judge_39 : decode cc_Mo_judge 39 = .ok (.bipush 28, 2) := by decide +kernel
theorem d_Mo_judge_41 : decode cc_Mo_judge 41 = .ok (.iastore, 1) := by decide +kernel
theorem d_Mo_judge_42 : decode cc_Mo_judge 42 = .ok (.aload_n 0, 1) := by decide +kernel
theorem d_Mo_judge_43 : decode cc_Mo_judge 43 = .ok (.getfield 40, 3) := by decide +kernel
theorem d_Mo_judge_46 : decode cc_Mo_judge 46 = .ok (.iload_n 1, 1) := by decide +kernel
theorem d_Mo_judge_47 : decode cc_Mo_judge 47 = .ok (.iconst 0, 1) := by decide +kernel
theorem d_Mo_judge_48 : decode cc_Mo_judge 48 = .ok (.iastore, 1) := by decide +kernel
theorem d_Mo_judge_49 : decode cc_Mo_judge 49 = .ok (.iconst 0, 1) := by decide +kernel
theorem d_Mo_judge_50 : decode cc_Mo_judge 50 = .ok (.istore_n 2, 1) := by decide +kernel
theorem d_Mo_judge_51 : decode cc_Mo_judge 51 = .ok (.iload_n 2, 1) := by decide +kernel
theorem d_Mo_judge_52 : decode cc_Mo_judge 52 = .ok (.aload_n 0, 1) := by decide +kernel
theorem d_Mo_judge_53 : decode cc_Mo_judge 53 = .ok (.getfield 19, 3) := by decide +kernel
theorem d_Mo_judge_56 : decode cc_Mo_judge 56 = .ok (.iload_n 1, 1) := by decide +kernel
theorem d_Mo_judge_57 : decode cc_Mo_judge 57 = .ok (.iaload, 1) := by decide +kernel
theorem d_Mo_judge_58 : decode cc_Mo_judge 58 = .ok (.if_icmp .ge 235, 3) := by decide +kernel
theorem d_Mo_judge_61 : decode cc_Mo_judge 61 = .ok (.aload_n 0, 1) := by decide +kernel
theorem d_Mo_judge_62 : decode cc_Mo_judge 62 = .ok (.getfield 60, 3) := by decide +kernel
theorem d_Mo_judge_65 : decode cc_Mo_judge 65 = .ok (.istore_n 3, 1) := by decide +kernel
theorem d_Mo_judge_66 : decode cc_Mo_judge 66 = .ok (.aload_n 0, 1) := by decide +kernel
theorem d_Mo_judge_67 : decode cc_Mo_judge 67 = .ok (.getfield 43, 3) := by decide +kernel
theorem d_Mo_judge_70 : decode cc_Mo_judge 70 = .ok (.aload_n 0, 1) := by decide +kernel
theorem d_Mo_judge_71 : decode cc_Mo_judge 71 = .ok (.getfield 60, 3) := by decide +kernel
theorem d_Mo_judge_74 : decode cc_Mo_judge 74 = .ok (.iaload, 1) := by decide +kernel
theorem d_Mo_judge_75 : decode cc_Mo_judge 75 = .ok (.istore 4, 2) := by decide +kernel
theorem d_Mo_judge_77 : decode cc_Mo_judge 77 = .ok (.aload_n 0, 1) := by decide +kernel
theorem d_Mo_judge_78 : decode cc_Mo_judge 78 = .ok (.iload_n 1, 1) := by decide +kernel
theorem d_Mo_judge_79 : decode cc_Mo_judge 79 = .ok (.aload_n 0, 1) := by decide +kernel
theorem d_Mo_judge_80 : decode cc_Mo_judge 80 = .ok (.iload_n 1, 1) := by decide +kernel
theorem d_Mo_judge_81 : decode cc_Mo_judge 81 = .ok (.iload_n 2, 1) := by decide +kernel
theorem d_Mo_judge_82 : decode cc_Mo_judge 82 = .ok (.invokevirtual 100, 3) := by decide +kernel
theorem d_Mo_judge_85 : decode cc_Mo_judge 85 = .ok (.invokevirtual 107, 3) := by decide +kernel
theorem d_Mo_judge_88 : decode cc_Mo_judge 88 = .ok (.istore 5, 2) := by decide +kernel
theorem d_Mo_judge_90 : decode cc_Mo_judge 90 = .ok (.iload 5, 2) := by decide +kernel
theorem d_Mo_judge_92 : decode cc_Mo_judge 92 = .ok (.ifCond .ne 5, 3) := by decide +kernel
theorem d_Mo_judge_95 : decode cc_Mo_judge 95 = .ok (.iload_n 2, 1) := by decide +kernel
theorem d_Mo_judge_96 : decode cc_Mo_judge 96 = .ok (.ireturn, 1) := by decide +kernel
theorem d_Mo_judge_97 : decode cc_Mo_judge 97 = .ok (.aload_n 0, 1) := by decide +kernel
theorem d_Mo_judge_98 : decode cc_Mo_judge 98 = .ok (.getfield 16, 3) := by decide +kernel
theorem d_Mo_judge_101 : decode cc_Mo_judge 101 = .ok (.bipush 120, 2) := by decide +kernel
theorem d_Mo_judge_103 : decode cc_Mo_judge 103 = .ok (.iload_n 1, 1) := by decide +kernel
theorem d_Mo_judge_104 : decode cc_Mo_judge 104 = .ok (.imul, 1) := by decide +kernel
theorem d_Mo_judge_105 : decode cc_Mo_judge 105 = .ok (.iload_n 2, 1) := by decide +kernel
theorem d_Mo_judge_106 : decode cc_Mo_judge 106 = .ok (.iadd, 1) := by decide +kernel
theorem d_Mo_judge_107 : decode cc_Mo_judge 107 = .ok (.iload 5, 2) := by decide +kernel
theorem d_Mo_judge_109 : decode cc_Mo_judge 109 = .ok (.iastore, 1) := by decide +kernel
theorem d_Mo_judge_110 : decode cc_Mo_judge 110 = .ok (.bipush 20, 2) := by decide +kernel
theorem d_Mo_judge_112 : decode cc_Mo_judge 112 = .ok (.iload_n 1, 1) := by decide +kernel
theorem d_Mo_judge_113 : decode cc_Mo_judge 113 = .ok (.imul, 1) := by decide +kernel
theorem d_Mo_judge_114 : decode cc_Mo_judge 114 = .ok (.aload_n 0, 1) := by decide +kernel
theorem d_Mo_judge_115 : decode cc_Mo_judge 115 = .ok (.getfield 40, 3) := by decide +kernel
theorem d_Mo_judge_118 : decode cc_Mo_judge 118 = .ok (.iload_n 1, 1) := by decide +kernel
theorem d_Mo_judge_119 : decode cc_Mo_judge 119 = .ok (.iaload, 1) := by decide +kernel
theorem d_Mo_judge_120 : decode cc_Mo_judge 120 = .ok (.iadd, 1) := by decide +kernel
theorem d_Mo_judge_121 : decode cc_Mo_judge 121 = .ok (.istore 6, 2) := by decide +kernel
theorem d_Mo_judge_123 : decode cc_Mo_judge 123 = .ok (.iload 5, 2) := by decide +kernel
theorem d_Mo_judge_125 : decode cc_Mo_judge 125 = .ok (.bipush 17, 2) := by decide +kernel
theorem d_Mo_judge_127 : decode cc_Mo_judge 127 = .ok (.if_icmp .ne 59, 3) := by decide +kernel
theorem d_Mo_judge_130 : decode cc_Mo_judge 130 = .ok (.iload 4, 2) := by decide +kernel
theorem d_Mo_judge_132 : decode cc_Mo_judge 132 = .ok (.bipush 15, 2) := by decide +kernel
theorem d_Mo_judge_134 : decode cc_Mo_judge 134 = .ok (.if_icmp .eq 40, 3) := by decide +kernel
theorem d_Mo_judge_137 : decode cc_Mo_judge 137 = .ok (.aload_n 0, 1) := by decide +kernel
theorem d_Mo_judge_138 : decode cc_Mo_judge 138 = .ok (.getfield 28, 3) := by decide +kernel
theorem d_Mo_judge_141 : decode cc_Mo_judge 141 = .ok (.iload 6, 2) := by decide +kernel
theorem d_Mo_judge_143 : decode cc_Mo_judge 143 = .ok (.iload_n 2, 1) := by decide +kernel
theorem d_Mo_judge_144 : decode cc_Mo_judge 144 = .ok (.iastore, 1) := by decide +kernel
theorem d_Mo_judge_145 : decode cc_Mo_judge 145 = .ok (.aload_n 0, 1) := by decide +kernel
theorem d_Mo_judge_146 : decode cc_Mo_judge 146 = .ok (.getfield 34, 3) := by decide +kernel
theorem d_Mo_judge_149 : decode cc_Mo_judge 149 = .ok (.iload 6, 2) := by decide +kernel
theorem d_Mo_judge_151 : decode cc_Mo_judge 151 = .ok (.iconst (-1), 1) := by decide +kernel
theorem d_Mo_judge_152 : decode cc_Mo_judge 152 = .ok (.iastore, 1) := by decide +kernel
theorem d_Mo_judge_153 : decode cc_Mo_judge 153 = .ok (.aload_n 0, 1) := by decide +kernel
theorem d_Mo_judge_154 : decode cc_Mo_judge 154 = .ok (.getfield 37, 3) := by decide +kernel
theorem d_Mo_judge_157 : decode cc_Mo_judge 157 = .ok (.iload 6, 2) := by decide +kernel
theorem d_Mo_judge_159 : decode cc_Mo_judge 159 = .ok (.iconst 0, 1) := by decide +kernel
theorem d_Mo_judge_160 : decode cc_Mo_judge 160 = .ok (.iastore, 1) := by decide +kernel
theorem d_Mo_judge_161 : decode cc_Mo_judge 161 = .ok (.aload_n 0, 1) := by decide +kernel
theorem d_Mo_judge_162 : decode cc_Mo_judge 162 = .ok (.getfield 40, 3) := by decide +kernel
theorem d_Mo_judge_165 : decode cc_Mo_judge 165 = .ok (.iload_n 1, 1) := by decide +kernel
theorem d_Mo_judge_166 : decode cc_Mo_judge 166 = .ok (.dup2, 1) := by decide +kernel
theorem d_Mo_judge_167 : decode cc_Mo_judge 167 = .ok (.iaload, 1) := by decide +kernel
theorem d_Mo_judge_168 : decode cc_Mo_judge 168 = .ok (.iconst 1, 1) := by decide +kernel
theorem d_Mo_judge_169 : decode cc_Mo_judge 169 = .ok (.iadd, 1) := by decide +kernel
theorem d_Mo_judge_170 : decode cc_Mo_judge 170 = .ok (.iastore, 1) := by decide +kernel
theorem d_Mo_judge_171 : decode cc_Mo_judge 171 = .ok (.iinc 6 1, 3) := by decide +kernel
theorem d_Mo_judge_174 : decode cc_Mo_judge 174 = .ok (.aload_n 0, 1) := by decide +kernel
theorem d_Mo_judge_175 : decode cc_Mo_judge 175 = .ok (.getfield 31, 3) := by decide +kernel
theorem d_Mo_judge_178 : decode cc_Mo_judge 178 = .ok (.iload 6, 2) := by decide +kernel
theorem d_Mo_judge_180 : decode cc_Mo_judge 180 = .ok (.iconst 1, 1) := by decide +kernel
theorem d_Mo_judge_181 : decode cc_Mo_judge 181 = .ok (.isub, 1) := by decide +kernel
theorem d_Mo_judge_182 : decode cc_Mo_judge 182 = .ok (.iload_n 2, 1) := by decide +kernel
theorem d_Mo_judge_183 : decode cc_Mo_judge 183 = .ok (.iconst 1, 1) := by decide +kernel
theorem d_Mo_judge_184 : decode cc_Mo_judge 184 = .ok (.iadd, 1) := by decide +kernel
theorem d_Mo_judge_185 : decode cc_Mo_judge 185 = .ok (.iastore, 1) := by decide +kernel
theorem d_Mo_judge_186 : decode cc_Mo_judge 186 = .ok (.iload 5, 2) := by decide +kernel
theorem d_Mo_judge_188 : decode cc_Mo_judge 188 = .ok (.iconst 3, 1) := by decide +kernel
theorem d_Mo_judge_189 : decode cc_Mo_judge 189 = .ok (.if_icmp .gt 52, 3) := by decide +kernel
theorem d_Mo_judge_192 : decode cc_Mo_judge 192 = .ok (.iload 4, 2) := by decide +kernel
theorem d_Mo_judge_194 : decode cc_Mo_judge 194 = .ok (.bipush 16, 2) := by decide +kernel
theorem d_Mo_judge_196 : decode cc_Mo_judge 196 = .ok (.if_icmp .ne 8, 3) := by decide +kernel
theorem d_Mo_judge_199 : decode cc_Mo_judge 199 = .ok (.iload_n 3, 1) := by decide +kernel
theorem d_Mo_judge_200 : decode cc_Mo_judge 200 = .ok (.iconst 1, 1) := by decide +kernel
theorem d_Mo_judge_201 : decode cc_Mo_judge 201 = .ok (.if_icmp .eq 36, 3) := by decide +kernel
theorem d_Mo_judge_204 : decode cc_Mo_judge 204 = .ok (.iload 4, 2) := by decide +kernel
theorem d_Mo_judge_206 : decode cc_Mo_judge 206 = .ok (.iconst 2, 1) := by decide +kernel
theorem d_Mo_judge_207 : decode cc_Mo_judge 207 = .ok (.if_icmp .ne 34, 3) := by decide +kernel
theorem d_Mo_judge_210 : decode cc_Mo_judge 210 = .ok (.iload_n 3, 1) := by decide +kernel
theorem d_Mo_judge_211 : decode cc_Mo_judge 211 = .ok (.iconst 2, 1) := by decide +kernel
theorem d_Mo_judge_212 : decode cc_Mo_judge 212 = .ok (.if_icmp .ne 29, 3) := by decide +kernel
theorem d_Mo_judge_215 : decode cc_Mo_judge 215 = .ok (.iload_n 2, 1) := by decide +kernel
theorem d_Mo_judge_216 : decode cc_Mo_judge 216 = .ok (.ifCond .le 25, 3) := by decide +kernel
theorem d_Mo_judge_219 : decode cc_Mo_judge 219 = .ok (.aload_n 0, 1) := by decide +kernel
theorem d_Mo_judge_220 : decode cc_Mo_judge 220 = .ok (.getfield 16, 3) := by decide +kernel
theorem d_Mo_judge_223 : decode cc_Mo_judge 223 = .ok (.bipush 120, 2) := by decide +kernel
theorem d_Mo_judge_225 : decode cc_Mo_judge 225 = .ok (.iload_n 1, 1) := by decide +kernel
theorem d_Mo_judge_226 : decode cc_Mo_judge 226 = .ok (.imul, 1) := by decide +kernel
theorem d_Mo_judge_227 : decode cc_Mo_judge 227 = .ok (.iload_n 2, 1) := by decide +kernel
theorem d_Mo_judge_228 : decode cc_Mo_judge 228 = .ok (.iadd, 1) := by decide +kernel
theorem d_Mo_judge_229 : decode cc_Mo_judge 229 = .ok (.iconst 1, 1) := by decide +kernel
theorem d_Mo_judge_230 : decode cc_Mo_judge 230 = .ok (.isub, 1) := by decide +kernel
theorem d_Mo_judge_231 : decode cc_Mo_judge 231 = .ok (.iaload, 1) := by decide +kernel
theorem d_Mo_judge_232 : decode cc_Mo_judge 232 = .ok (.bipush 19, 2) := by decide +kernel
theorem d_Mo_judge_234 : decode cc_Mo_judge 234 = .ok (.if_icmp .ne 7, 3) := by decide +kernel
theorem d_Mo_judge_237 : decode cc_Mo_judge 237 = .ok (.iconst 1, 1) := by decide +kernel
theorem d_Mo_judge_238 : decode cc_Mo_judge 238 = .ok (.goto 4, 3) := by decide +kernel
theorem d_Mo_judge_241 : decode cc_Mo_judge 241 = .ok (.iconst 0, 1) := by decide +kernel
theorem d_Mo_judge_242 : decode cc_Mo_judge 242 = .ok (.istore 7, 2) := by decide +kernel
theorem d_Mo_judge_244 : decode cc_Mo_judge 244 = .ok (.iload 7, 2) := by decide +kernel
theorem d_Mo_judge_246 : decode cc_Mo_judge 246 = .ok (.ifCond .ne 6, 3) := by decide +kernel
theorem d_Mo_judge_249 : decode cc_Mo_judge 249 = .ok (.goto 38, 3) := by decide +kernel
theorem d_Mo_judge_252 : decode cc_Mo_judge 252 = .ok (.aload_n 0, 1) := by decide +kernel
theorem d_Mo_judge_253 : decode cc_Mo_judge 253 = .ok (.getfield 34, 3) := by decide +kernel
theorem d_Mo_judge_256 : decode cc_Mo_judge 256 = .ok (.iload 6, 2) := by decide +kernel
theorem d_Mo_judge_258 : decode cc_Mo_judge 258 = .ok (.iconst 1, 1) := by decide +kernel
theorem d_Mo_judge_259 : decode cc_Mo_judge 259 = .ok (.isub, 1) := by decide +kernel
theorem d_Mo_judge_260 : decode cc_Mo_judge 260 = .ok (.iaload, 1) := by decide +kernel
theorem d_Mo_judge_261 : decode cc_Mo_judge 261 = .ok (.ifCond .ge 13, 3) := by decide +kernel
theorem d_Mo_judge_264 : decode cc_Mo_judge 264 = .ok (.aload_n 0, 1) := by decide +kernel
theorem d_Mo_judge_265 : decode cc_Mo_judge 265 = .ok (.getfield 34, 3) := by decide +kernel
theorem d_Mo_judge_268 : decode cc_Mo_judge 268 = .ok (.iload 6, 2) := by decide +kernel
theorem d_Mo_judge_270 : decode cc_Mo_judge 270 = .ok (.iconst 1, 1) := by decide +kernel
theorem d_Mo_judge_271 : decode cc_Mo_judge 271 = .ok (.isub, 1) := by decide +kernel
theorem d_Mo_judge_272 : decode cc_Mo_judge 272 = .ok (.iload_n 2, 1) := by decide +kernel
theorem d_Mo_judge_273 : decode cc_Mo_judge 273 = .ok (.iastore, 1) := by decide +kernel
theorem d_Mo_judge_274 : decode cc_Mo_judge 274 = .ok (.aload_n 0, 1) := by decide +kernel
theorem d_Mo_judge_275 : decode cc_Mo_judge 275 = .ok (.getfield 37, 3) := by decide +kernel
theorem d_Mo_judge_278 : decode cc_Mo_judge 278 = .ok (.iload 6, 2) := by decide +kernel
theorem d_Mo_judge_280 : decode cc_Mo_judge 280 = .ok (.iconst 1, 1) := by decide +kernel
theorem d_Mo_judge_281 : decode cc_Mo_judge 281 = .ok (.isub, 1) := by decide +kernel
theorem d_Mo_judge_282 : decode cc_Mo_judge 282 = .ok (.dup2, 1) := by decide +kernel
theorem d_Mo_judge_283 : decode cc_Mo_judge 283 = .ok (.iaload, 1) := by decide +kernel
theorem d_Mo_judge_284 : decode cc_Mo_judge 284 = .ok (.iconst 1, 1) := by decide +kernel
theorem d_Mo_judge_285 : decode cc_Mo_judge 285 = .ok (.iadd, 1) := by decide +kernel
theorem d_Mo_judge_286 : decode cc_Mo_judge 286 = .ok (.iastore, 1) := by decide +kernel
theorem d_Mo_judge_287 : decode cc_Mo_judge 287 = .ok (.iinc 2 1, 3) := by decide +kernel
theorem d_Mo_judge_290 : decode cc_Mo_judge 290 = .ok (.goto (-239), 3) := by decide +kernel
theorem d_Mo_judge_293 : decode cc_Mo_judge 293 = .ok (.aload_n 0, 1) := by decide +kernel
theorem d_Mo_judge_294 : decode cc_Mo_judge 294 = .ok (.getfield 60, 3) := by decide +kernel
theorem d_Mo_judge_297 : decode cc_Mo_judge 297 = .ok (.ifCond .ne 40, 3) := by decide +kernel
theorem d_Mo_judge_300 : decode cc_Mo_judge 300 = .ok (.aload_n 0, 1) := by decide +kernel
theorem d_Mo_judge_301 : decode cc_Mo_judge 301 = .ok (.getfield 43, 3) := by decide +kernel
theorem d_Mo_judge_304 : decode cc_Mo_judge 304 = .ok (.iconst 0, 1) := by decide +kernel
theorem d_Mo_judge_305 : decode cc_Mo_judge 305 = .ok (.iaload, 1) := by decide +kernel
theorem d_Mo_judge_306 : decode cc_Mo_judge 306 = .ok (.bipush 22, 2) := by decide +kernel
theorem d_Mo_judge_308 : decode cc_Mo_judge 308 = .ok (.if_icmp .eq 25, 3) := by decide +kernel
theorem d_Mo_judge_311 : decode cc_Mo_judge 311 = .ok (.aload_n 0, 1) := by decide +kernel
theorem d_Mo_judge_312 : decode cc_Mo_judge 312 = .ok (.getfield 43, 3) := by decide +kernel
theorem d_Mo_judge_315 : decode cc_Mo_judge 315 = .ok (.iconst 0, 1) := by decide +kernel
theorem d_Mo_judge_316 : decode cc_Mo_judge 316 = .ok (.iaload, 1) := by decide +kernel
theorem d_Mo_judge_317 : decode cc_Mo_judge 317 = .ok (.bipush 27, 2) := by decide +kernel
theorem d_Mo_judge_319 : decode cc_Mo_judge 319 = .ok (.if_icmp .eq 14, 3) := by decide +kernel
theorem d_Mo_judge_322 : decode cc_Mo_judge 322 = .ok (.aload_n 0, 1) := by decide +kernel
theorem d_Mo_judge_323 : decode cc_Mo_judge 323 = .ok (.getfield 43, 3) := by decide +kernel
theorem d_Mo_judge_326 : decode cc_Mo_judge 326 = .ok (.iconst 0, 1) := by decide +kernel
theorem d_Mo_judge_327 : decode cc_Mo_judge 327 = .ok (.iaload, 1) := by decide +kernel
theorem d_Mo_judge_328 : decode cc_Mo_judge 328 = .ok (.bipush 29, 2) := by decide +kernel
theorem d_Mo_judge_330 : decode cc_Mo_judge 330 = .ok (.if_icmp .ne 7, 3) := by decide +kernel
theorem d_Mo_judge_333 : decode cc_Mo_judge 333 = .ok (.iconst (-1), 1) := by decide +kernel
theorem d_Mo_judge_334 : decode cc_Mo_judge 334 = .ok (.goto 9, 3) := by decide +kernel
theorem d_Mo_judge_337 : decode cc_Mo_judge 337 = .ok (.aload_n 0, 1) := by decide +kernel
theorem d_Mo_judge_338 : decode cc_Mo_judge 338 = .ok (.getfield 19, 3) := by decide +kernel
theorem d_Mo_judge_341 : decode cc_Mo_judge 341 = .ok (.iload_n 1, 1) := by decide +kernel
theorem d_Mo_judge_342 : decode cc_Mo_judge 342 = .ok (.iaload, 1) := by decide +kernel
theorem d_Mo_judge_343 : decode cc_Mo_judge 343 = .ok (.ireturn, 1) := by decide +kernel
theorem d_Mo_read_0 : decode cc_Mo_read 0 = .ok (.iload_n 1, 1) := by decide +kernel
theorem d_Mo_read_1 : decode cc_Mo_read 1 = .ok (.ifCond .lt 8, 3) := by decide +kernel
theorem d_Mo_read_4 : decode cc_Mo_read 4 = .ok (.iload_n 1, 1) := by decide +kernel
theorem d_Mo_read_5 : decode cc_Mo_read 5 = .ok (.iconst 2, 1) := by decide +kernel
theorem d_Mo_read_6 : decode cc_Mo_read 6 = .ok (.if_icmp .le 6, 3) := by decide +kernel
theorem d_Mo_read_9 : decode cc_Mo_read 9 = .ok (.bipush (-100), 2) := by decide +kernel
theorem d_Mo_read_11 : decode cc_Mo_read 11 = .ok (.ireturn, 1) := by decide +kernel
theorem d_Mo_read_12 : decode cc_Mo_read 12 = .ok (.aload_n 0, 1) := by decide +kernel
theorem d_Mo_read_13 : decode cc_Mo_read 13 = .ok (.getfield 22, 3) := by decide +kernel
theorem d_Mo_read_16 : decode cc_Mo_read 16 = .ok (.aload_n 0, 1) := by decide +kernel
theorem d_Mo_read_17 : decode cc_Mo_read 17 = .ok (.getfield 110, 3) := by decide +kernel
theorem d_Mo_read_20 : decode cc_Mo_read 20 = .ok (.iload_n 1, 1) := by decide +kernel
theorem d_Mo_read_21 : decode cc_Mo_read 21 = .ok (.iastore, 1) := by decide +kernel
theorem d_Mo_read_22 : decode cc_Mo_read 22 = .ok (.aload_n 0, 1) := by decide +kernel
theorem d_Mo_read_23 : decode cc_Mo_read 23 = .ok (.getfield 19, 3) := by decide +kernel
theorem d_Mo_read_26 : decode cc_Mo_read 26 = .ok (.aload_n 0, 1) := by decide +kernel
theorem d_Mo_read_27 : decode cc_Mo_read 27 = .ok (.getfield 110, 3) := by decide +kernel
theorem d_Mo_read_30 : decode cc_Mo_read 30 = .ok (.aload_n 0, 1) := by decide +kernel
theorem d_Mo_read_31 : decode cc_Mo_read 31 = .ok (.getfield 56, 3) := by decide +kernel
theorem d_Mo_read_34 : decode cc_Mo_read 34 = .ok (.iastore, 1) := by decide +kernel
theorem d_Mo_read_35 : decode cc_Mo_read 35 = .ok (.iconst 0, 1) := by decide +kernel
theorem d_Mo_read_36 : decode cc_Mo_read 36 = .ok (.istore_n 2, 1) := by decide +kernel
theorem d_Mo_read_37 : decode cc_Mo_read 37 = .ok (.iload_n 2, 1) := by decide +kernel
theorem d_Mo_read_38 : decode cc_Mo_read 38 = .ok (.aload_n 0, 1) := by decide +kernel
theorem d_Mo_read_39 : decode cc_Mo_read 39 = .ok (.getfield 56, 3) := by decide +kernel
theorem d_Mo_read_42 : decode cc_Mo_read 42 = .ok (.if_icmp .ge 29, 3) := by decide +kernel
theorem d_Mo_read_45 : decode cc_Mo_read 45 = .ok (.aload_n 0, 1) := by decide +kernel
theorem d_Mo_read_46 : decode cc_Mo_read 46 = .ok (.getfield 13, 3) := by decide +kernel
theorem d_Mo_read_49 : decode cc_Mo_read 49 = .ok (.bipush 120, 2) := by decide +kernel
theorem d_Mo_read_51 : decode cc_Mo_read 51 = .ok (.aload_n 0, 1) := by decide +kernel
theorem d_Mo_read_52 : decode cc_Mo_read 52 = .ok (.getfield 110, 3) := by decide +kernel
theorem d_Mo_read_55 : decode cc_Mo_read 55 = .ok (.imul, 1) := by decide +kernel
theorem d_Mo_read_56 : decode cc_Mo_read 56 = .ok (.iload_n 2, 1) := by decide +kernel
theorem d_Mo_read_57 : decode cc_Mo_read 57 = .ok (.iadd, 1) := by decide +kernel
theorem d_Mo_read_58 : decode cc_Mo_read 58 = .ok (.aload_n 0, 1) := by decide +kernel
theorem d_Mo_read_59 : decode cc_Mo_read 59 = .ok (.getfield 7, 3) := by decide +kernel
theorem d_Mo_read_62 : decode cc_Mo_read 62 = .ok (.iload_n 2, 1) := by decide +kernel
theorem d_Mo_read_63 : decode cc_Mo_read 63 = .ok (.iaload, 1) := by decide +kernel
theorem d_Mo_read_64 : decode cc_Mo_read 64 = .ok (.iastore, 1) := by decide +kernel
theorem d_Mo_read_65 : decode cc_Mo_read 65 = .ok (.iinc 2 1, 3) := by decide +kernel
theorem d_Mo_read_68 : decode cc_Mo_read 68 = .ok (.goto (-31), 3) := by decide +kernel
theorem d_Mo_read_71 : decode cc_Mo_read 71 = .ok (.aload_n 0, 1) := by decide +kernel
theorem d_Mo_read_72 : decode cc_Mo_read 72 = .ok (.aload_n 0, 1) := by decide +kernel
theorem d_Mo_read_73 : decode cc_Mo_read 73 = .ok (.getfield 110, 3) := by decide +kernel
theorem d_Mo_read_76 : decode cc_Mo_read 76 = .ok (.invokevirtual 113, 3) := by decide +kernel
theorem d_Mo_read_79 : decode cc_Mo_read 79 = .ok (.istore_n 2, 1) := by decide +kernel
theorem d_Mo_read_80 : decode cc_Mo_read 80 = .ok (.iload_n 2, 1) := by decide +kernel
theorem d_Mo_read_81 : decode cc_Mo_read 81 = .ok (.ifCond .lt 7, 3) := by decide +kernel
theorem d_Mo_read_84 : decode cc_Mo_read 84 = .ok (.iconst (-1), 1) := by decide +kernel
theorem d_Mo_read_85 : decode cc_Mo_read 85 = .ok (.iload_n 2, 1) := by decide +kernel
theorem d_Mo_read_86 : decode cc_Mo_read 86 = .ok (.isub, 1) := by decide +kernel
theorem d_Mo_read_87 : decode cc_Mo_read 87 = .ok (.ireturn, 1) := by decide +kernel
theorem d_Mo_read_88 : decode cc_Mo_read 88 = .ok (.aload_n 0, 1) := by decide +kernel
theorem d_Mo_read_89 : decode cc_Mo_read 89 = .ok (.getfield 110, 3) := by decide +kernel
theorem d_Mo_read_92 : decode cc_Mo_read 92 = .ok (.bipush 24, 2) := by decide +kernel
theorem d_Mo_read_94 : decode cc_Mo_read 94 = .ok (.if_icmp .ne 6, 3) := by decide +kernel
theorem d_Mo_read_97 : decode cc_Mo_read 97 = .ok (.bipush (-100), 2) := by decide +kernel
theorem d_Mo_read_99 : decode cc_Mo_read 99 = .ok (.ireturn, 1) := by decide +kernel
theorem d_Mo_read_100 : decode cc_Mo_read 100 = .ok (.aload_n 0, 1) := by decide +kernel
theorem d_Mo_read_101 : decode cc_Mo_read 101 = .ok (.getfield 25, 3) := by decide +kernel
theorem d_Mo_read_104 : decode cc_Mo_read 104 = .ok (.aload_n 0, 1) := by decide +kernel
theorem d_Mo_read_105 : decode cc_Mo_read 105 = .ok (.getfield 110, 3) := by decide +kernel
theorem d_Mo_read_108 : decode cc_Mo_read 108 = .ok (.iconst (-1), 1) := by decide +kernel
theorem d_Mo_read_109 : decode cc_Mo_read 109 = .ok (.iastore, 1) := by decide +kernel
theorem d_Mo_read_110 : decode cc_Mo_read 110 = .ok (.aload_n 0, 1) := by decide +kernel
theorem d_Mo_read_111 : decode cc_Mo_read 111 = .ok (.iconst 0, 1) := by decide +kernel
theorem d_Mo_read_112 : decode cc_Mo_read 112 = .ok (.putfield 56, 3) := by decide +kernel
theorem d_Mo_read_115 : decode cc_Mo_read 115 = .ok (.aload_n 0, 1) := by decide +kernel
theorem d_Mo_read_116 : decode cc_Mo_read 116 = .ok (.dup, 1) := by decide +kernel
theorem d_Mo_read_117 : decode cc_Mo_read 117 = .ok (.getfield 110, 3) := by decide +kernel
theorem d_Mo_read_120 : decode cc_Mo_read 120 = .ok (.iconst 1, 1) := by decide +kernel
theorem d_Mo_read_121 : decode cc_Mo_read 121 = .ok (.iadd, 1) := by decide +kernel
theorem d_Mo_read_122 : decode cc_Mo_read 122 = .ok (.putfield 110, 3) := by decide +kernel
theorem d_Mo_read_125 : decode cc_Mo_read 125 = .ok (.aload_n 0, 1) := by decide +kernel
theorem d_Mo_read_126 : decode cc_Mo_read 126 = .ok (.getfield 110, 3) := by decide +kernel
theorem d_Mo_read_129 : decode cc_Mo_read 129 = .ok (.iconst 1, 1) := by decide +kernel
theorem d_Mo_read_130 : decode cc_Mo_read 130 = .ok (.isub, 1) := by decide +kernel
theorem d_Mo_read_131 : decode cc_Mo_read 131 = .ok (.ireturn, 1) := by decide +kernel
theorem d_Mo_no_0 : decode cc_Mo_no 0 = .ok (.iload_n 1, 1) := by decide +kernel
theorem d_Mo_no_1 : decode cc_Mo_no 1 = .ok (.ifCond .lt 11, 3) := by decide +kernel
theorem d_Mo_no_4 : decode cc_Mo_no 4 = .ok (.iload_n 1, 1) := by decide +kernel
theorem d_Mo_no_5 : decode cc_Mo_no 5 = .ok (.aload_n 0, 1) := by decide +kernel
theorem d_Mo_no_6 : decode cc_Mo_no 6 = .ok (.getfield 110, 3) := by decide +kernel
theorem d_Mo_no_9 : decode cc_Mo_no 9 = .ok (.if_icmp .lt 7, 3) := by decide +kernel
theorem d_Mo_no_12 : decode cc_Mo_no 12 = .ok (.iconst 1, 1) := by decide +kernel
theorem d_Mo_no_13 : decode cc_Mo_no 13 = .ok (.goto 4, 3) := by decide +kernel
theorem d_Mo_no_16 : decode cc_Mo_no 16 = .ok (.iconst 0, 1) := by decide +kernel
theorem d_Mo_no_17 : decode cc_Mo_no 17 = .ok (.ireturn, 1) := by decide +kernel
theorem d_Mo_scope_0 : decode cc_Mo_scope 0 = .ok (.aload_n 0, 1) := by decide +kernel
theorem d_Mo_scope_1 : decode cc_Mo_scope 1 = .ok (.iload_n 1, 1) := by decide +kernel
theorem d_Mo_scope_2 : decode cc_Mo_scope 2 = .ok (.invokevirtual 116, 3) := by decide +kernel
theorem d_Mo_scope_5 : decode cc_Mo_scope 5 = .ok (.ifCond .ne 30, 3) := by decide +kernel
theorem d_Mo_scope_8 : decode cc_Mo_scope 8 = .ok (.iload_n 2, 1) := by decide +kernel
theorem d_Mo_scope_9 : decode cc_Mo_scope 9 = .ok (.iconst (-1), 1) := by decide +kernel
theorem d_Mo_scope_10 : decode cc_Mo_scope 10 = .ok (.if_icmp .eq 28, 3) := by decide +kernel
theorem d_Mo_scope_13 : decode cc_Mo_scope 13 = .ok (.aload_n 0, 1) := by decide +kernel
theorem d_Mo_scope_14 : decode cc_Mo_scope 14 = .ok (.iload_n 2, 1) := by decide +kernel
theorem d_Mo_scope_15 : decode cc_Mo_scope 15 = .ok (.invokevirtual 116, 3) := by decide +kernel
theorem d_Mo_scope_18 : decode cc_Mo_scope 18 = .ok (.ifCond .ne 17, 3) := by decide +kernel
theorem d_Mo_scope_21 : decode cc_Mo_scope 21 = .ok (.aload_n 0, 1) := by decide +kernel
theorem d_Mo_scope_22 : decode cc_Mo_scope 22 = .ok (.getfield 22, 3) := by decide +kernel
theorem d_Mo_scope_25 : decode cc_Mo_scope 25 = .ok (.iload_n 2, 1) := by decide +kernel
theorem d_Mo_scope_26 : decode cc_Mo_scope 26 = .ok (.iaload, 1) := by decide +kernel
theorem d_Mo_scope_27 : decode cc_Mo_scope 27 = .ok (.ifCond .ne 8, 3) := by decide +kernel
theorem d_Mo_scope_30 : decode cc_Mo_scope 30 = .ok (.iload_n 2, 1) := by decide +kernel
theorem d_Mo_scope_31 : decode cc_Mo_scope 31 = .ok (.iload_n 1, 1) := by decide +kernel
theorem d_Mo_scope_32 : decode cc_Mo_scope 32 = .ok (.if_icmp .ne 6, 3) := by decide +kernel
theorem d_Mo_scope_35 : decode cc_Mo_scope 35 = .ok (.bipush (-100), 2) := by decide +kernel
theorem d_Mo_scope_37 : decode cc_Mo_scope 37 = .ok (.ireturn, 1) := by decide +kernel
theorem d_Mo_scope_38 : decode cc_Mo_scope 38 = .ok (.aload_n 0, 1) := by decide +kernel
theorem d_Mo_scope_39 : decode cc_Mo_scope 39 = .ok (.getfield 25, 3) := by decide +kernel
theorem d_Mo_scope_42 : decode cc_Mo_scope 42 = .ok (.iload_n 1, 1) := by decide +kernel
theorem d_Mo_scope_43 : decode cc_Mo_scope 43 = .ok (.iaload, 1) := by decide +kernel
theorem d_Mo_scope_44 : decode cc_Mo_scope 44 = .ok (.istore_n 3, 1) := by decide +kernel
theorem d_Mo_scope_45 : decode cc_Mo_scope 45 = .ok (.aload_n 0, 1) := by decide +kernel
theorem d_Mo_scope_46 : decode cc_Mo_scope 46 = .ok (.getfield 25, 3) := by decide +kernel
theorem d_Mo_scope_49 : decode cc_Mo_scope 49 = .ok (.iload_n 1, 1) := by decide +kernel
theorem d_Mo_scope_50 : decode cc_Mo_scope 50 = .ok (.iload_n 2, 1) := by decide +kernel
theorem d_Mo_scope_51 : decode cc_Mo_scope 51 = .ok (.iastore, 1) := by decide +kernel
theorem d_Mo_scope_52 : decode cc_Mo_scope 52 = .ok (.iload_n 3, 1) := by decide +kernel
theorem d_Mo_scope_53 : decode cc_Mo_scope 53 = .ok (.ireturn, 1) := by decide +kernel
theorem d_Mo_kind_0 : decode cc_Mo_kind 0 = .ok (.aload_n 0, 1) := by decide +kernel
theorem d_Mo_kind_1 : decode cc_Mo_kind 1 = .ok (.iload_n 1, 1) := by decide +kernel
theorem d_Mo_kind_2 : decode cc_Mo_kind 2 = .ok (.invokevirtual 116, 3) := by decide +kernel
theorem d_Mo_kind_5 : decode cc_Mo_kind 5 = .ok (.ifCond .eq 8, 3) := by decide +kernel
theorem d_Mo_kind_8 : decode cc_Mo_kind 8 = .ok (.bipush (-100), 2) := by decide +kernel
theorem d_Mo_kind_10 : decode cc_Mo_kind 10 = .ok (.goto 9, 3) := by decide +kernel
theorem d_Mo_kind_13 : decode cc_Mo_kind 13 = .ok (.aload_n 0, 1) := by decide +kernel
theorem d_Mo_kind_14 : decode cc_Mo_kind 14 = .ok (.getfield 22, 3) := by decide +kernel
theorem d_Mo_kind_17 : decode cc_Mo_kind 17 = .ok (.iload_n 1, 1) := by decide +kernel
theorem d_Mo_kind_18 : decode cc_Mo_kind 18 = .ok (.iaload, 1) := by decide +kernel
theorem d_Mo_kind_19 : decode cc_Mo_kind 19 = .ok (.ireturn, 1) := by decide +kernel
theorem d_Mo_roleAt_0 : decode cc_Mo_roleAt 0 = .ok (.iload_n 2, 1) := by decide +kernel
theorem d_Mo_roleAt_1 : decode cc_Mo_roleAt 1 = .ok (.ifCond .lt 13, 3) := by decide +kernel
theorem d_Mo_roleAt_4 : decode cc_Mo_roleAt 4 = .ok (.iload_n 2, 1) := by decide +kernel
theorem d_Mo_roleAt_5 : decode cc_Mo_roleAt 5 = .ok (.aload_n 0, 1) := by decide +kernel
theorem d_Mo_roleAt_6 : decode cc_Mo_roleAt 6 = .ok (.getfield 19, 3) := by decide +kernel
theorem d_Mo_roleAt_9 : decode cc_Mo_roleAt 9 = .ok (.iload_n 1, 1) := by decide +kernel
theorem d_Mo_roleAt_10 : decode cc_Mo_roleAt 10 = .ok (.iaload, 1) := by decide +kernel
theorem d_Mo_roleAt_11 : decode cc_Mo_roleAt 11 = .ok (.if_icmp .lt 7, 3) := by decide +kernel
theorem d_Mo_roleAt_14 : decode cc_Mo_roleAt 14 = .ok (.iconst 0, 1) := by decide +kernel
theorem d_Mo_roleAt_15 : decode cc_Mo_roleAt 15 = .ok (.goto 14, 3) := by decide +kernel
theorem d_Mo_roleAt_18 : decode cc_Mo_roleAt 18 = .ok (.aload_n 0, 1) := by decide +kernel
theorem d_Mo_roleAt_19 : decode cc_Mo_roleAt 19 = .ok (.getfield 16, 3) := by decide +kernel
theorem d_Mo_roleAt_22 : decode cc_Mo_roleAt 22 = .ok (.bipush 120, 2) := by decide +kernel
theorem d_Mo_roleAt_24 : decode cc_Mo_roleAt 24 = .ok (.iload_n 1, 1) := by decide +kernel
theorem d_Mo_roleAt_25 : decode cc_Mo_roleAt 25 = .ok (.imul, 1) := by decide +kernel
theorem d_Mo_roleAt_26 : decode cc_Mo_roleAt 26 = .ok (.iload_n 2, 1) := by decide +kernel
theorem d_Mo_roleAt_27 : decode cc_Mo_roleAt 27 = .ok (.iadd, 1) := by decide +kernel
theorem d_Mo_roleAt_28 : decode cc_Mo_roleAt 28 = .ok (.iaload, 1) := by decide +kernel
theorem d_Mo_roleAt_29 : decode cc_Mo_roleAt 29 = .ok (.ireturn, 1) := by decide +kernel
theorem d_Mo_nameEnd_0 : decode cc_Mo_nameEnd 0 = .ok (.iload_n 2, 1) := by decide +kernel
theorem d_Mo_nameEnd_1 : decode cc_Mo_nameEnd 1 = .ok (.istore_n 3, 1) := by decide +kernel
theorem d_Mo_nameEnd_2 : decode cc_Mo_nameEnd 2 = .ok (.aload_n 0, 1) := by decide +kernel
theorem d_Mo_nameEnd_3 : decode cc_Mo_nameEnd 3 = .ok (.iload_n 1, 1) := by decide +kernel
theorem d_Mo_nameEnd_4 : decode cc_Mo_nameEnd 4 = .ok (.iload_n 3, 1) := by decide +kernel
theorem d_Mo_nameEnd_5 : decode cc_Mo_nameEnd 5 = .ok (.invokevirtual 119, 3) := by decide +kernel
theorem d_Mo_nameEnd_8 : decode cc_Mo_nameEnd 8 = .ok (.bipush 14, 2) := by decide +kernel
theorem d_Mo_nameEnd_10 : decode cc_Mo_nameEnd 10 = .ok (.if_icmp .ne 9, 3) := by decide +kernel
theorem d_Mo_nameEnd_13 : decode cc_Mo_nameEnd 13 = .ok (.iinc 3 1, 3) := by decide +kernel
theorem d_Mo_nameEnd_16 : decode cc_Mo_nameEnd 16 = .ok (.goto (-14), 3) := by decide +kernel
theorem d_Mo_nameEnd_19 : decode cc_Mo_nameEnd 19 = .ok (.iload_n 3, 1) := by decide +kernel
theorem d_Mo_nameEnd_20 : decode cc_Mo_nameEnd 20 = .ok (.ireturn, 1) := by decide +kernel
theorem d_Mo_behind_0 : decode cc_Mo_behind 0 = .ok (.iload_n 2, 1) := by decide +kernel
theorem d_Mo_behind_1 : decode cc_Mo_behind 1 = .ok (.istore_n 3, 1) := by decide +kernel
theorem d_Mo_behind_2 : decode cc_Mo_behind 2 = .ok (.aload_n 0, 1) := by decide +kernel
theorem d_Mo_behind_3 : decode cc_Mo_behind 3 = .ok (.iload_n 1, 1) := by decide +kernel
theorem d_Mo_behind_4 : decode cc_Mo_behind 4 = .ok (.iload_n 3, 1) := by decide +kernel
theorem d_Mo_behind_5 : decode cc_Mo_behind 5 = .ok (.invokevirtual 119, 3) := by decide +kernel
theorem d_Mo_behind_8 : decode cc_Mo_behind 8 = .ok (.iconst 3, 1) := by decide +kernel
theorem d_Mo_behind_9 : decode cc_Mo_behind 9 = .ok (.if_icmp .ne 9, 3) := by decide +kernel
theorem d_Mo_behind_12 : decode cc_Mo_behind 12 = .ok (.iinc 3 1, 3) := by decide +kernel
theorem d_Mo_behind_15 : decode cc_Mo_behind 15 = .ok (.goto (-13), 3) := by decide +kernel
theorem d_Mo_behind_18 : decode cc_Mo_behind 18 = .ok (.aload_n 0, 1) := by decide +kernel
theorem d_Mo_behind_19 : decode cc_Mo_behind 19 = .ok (.iload_n 1, 1) := by decide +kernel
theorem d_Mo_behind_20 : decode cc_Mo_behind 20 = .ok (.iload_n 3, 1) := by decide +kernel
theorem d_Mo_behind_21 : decode cc_Mo_behind 21 = .ok (.invokevirtual 119, 3) := by decide +kernel
theorem d_Mo_behind_24 : decode cc_Mo_behind 24 = .ok (.iconst 4, 1) := by decide +kernel
theorem d_Mo_behind_25 : decode cc_Mo_behind 25 = .ok (.if_icmp .ne 7, 3) := by decide +kernel
theorem d_Mo_behind_28 : decode cc_Mo_behind 28 = .ok (.iload_n 3, 1) := by decide +kernel
theorem d_Mo_behind_29 : decode cc_Mo_behind 29 = .ok (.iconst 1, 1) := by decide +kernel
theorem d_Mo_behind_30 : decode cc_Mo_behind 30 = .ok (.iadd, 1) := by decide +kernel
theorem d_Mo_behind_31 : decode cc_Mo_behind 31 = .ok (.ireturn, 1) := by decide +kernel
theorem d_Mo_behind_32 : decode cc_Mo_behind 32 = .ok (.aload_n 0, 1) := by decide +kernel
theorem d_Mo_behind_33 : decode cc_Mo_behind 33 = .ok (.iload_n 1, 1) := by decide +kernel
theorem d_Mo_behind_34 : decode cc_Mo_behind 34 = .ok (.iload_n 3, 1) := by decide +kernel
theorem d_Mo_behind_35 : decode cc_Mo_behind 35 = .ok (.invokevirtual 119, 3) := by decide +kernel
theorem d_Mo_behind_38 : decode cc_Mo_behind 38 = .ok (.iconst 2, 1) := by decide +kernel
theorem d_Mo_behind_39 : decode cc_Mo_behind 39 = .ok (.if_icmp .ne 14, 3) := by decide +kernel
theorem d_Mo_behind_42 : decode cc_Mo_behind 42 = .ok (.aload_n 0, 1) := by decide +kernel
theorem d_Mo_behind_43 : decode cc_Mo_behind 43 = .ok (.iload_n 1, 1) := by decide +kernel
theorem d_Mo_behind_44 : decode cc_Mo_behind 44 = .ok (.iload_n 3, 1) := by decide +kernel
theorem d_Mo_behind_45 : decode cc_Mo_behind 45 = .ok (.iconst 1, 1) := by decide +kernel
theorem d_Mo_behind_46 : decode cc_Mo_behind 46 = .ok (.iadd, 1) := by decide +kernel
theorem d_Mo_behind_47 : decode cc_Mo_behind 47 = .ok (.invokevirtual 122, 3) := by decide +kernel
theorem d_Mo_behind_50 : decode cc_Mo_behind 50 = .ok (.iconst 1, 1) := by decide +kernel
theorem d_Mo_behind_51 : decode cc_Mo_behind 51 = .ok (.iadd, 1) := by decide +kernel
theorem d_Mo_behind_52 : decode cc_Mo_behind 52 = .ok (.ireturn, 1) := by decide +kernel
theorem d_Mo_behind_53 : decode cc_Mo_behind 53 = .ok (.iconst 0, 1) := by decide +kernel
theorem d_Mo_behind_54 : decode cc_Mo_behind 54 = .ok (.istore 4, 2) := by decide +kernel
theorem d_Mo_behind_56 : decode cc_Mo_behind 56 = .ok (.iload_n 3, 1) := by decide +kernel
theorem d_Mo_behind_57 : decode cc_Mo_behind 57 = .ok (.istore 5, 2) := by decide +kernel
theorem d_Mo_behind_59 : decode cc_Mo_behind 59 = .ok (.iload 5, 2) := by decide +kernel
theorem d_Mo_behind_61 : decode cc_Mo_behind 61 = .ok (.aload_n 0, 1) := by decide +kernel
theorem d_Mo_behind_62 : decode cc_Mo_behind 62 = .ok (.getfield 19, 3) := by decide +kernel
theorem d_Mo_behind_65 : decode cc_Mo_behind 65 = .ok (.iload_n 1, 1) := by decide +kernel
theorem d_Mo_behind_66 : decode cc_Mo_behind 66 = .ok (.iaload, 1) := by decide +kernel
theorem d_Mo_behind_67 : decode cc_Mo_behind 67 = .ok (.if_icmp .ge 61, 3) := by decide +kernel
theorem d_Mo_behind_70 : decode cc_Mo_behind 70 = .ok (.aload_n 0, 1) := by decide +kernel
theorem d_Mo_behind_71 : decode cc_Mo_behind 71 = .ok (.iload_n 1, 1) := by decide +kernel
theorem d_Mo_behind_72 : decode cc_Mo_behind 72 = .ok (.iload 5, 2) := by decide +kernel
theorem d_Mo_behind_74 : decode cc_Mo_behind 74 = .ok (.invokevirtual 119, 3) := by decide +kernel
theorem d_Mo_behind_77 : decode cc_Mo_behind 77 = .ok (.bipush 8, 2) := by decide +kernel
theorem d_Mo_behind_79 : decode cc_Mo_behind 79 = .ok (.if_icmp .ne 6, 3) := by decide +kernel
theorem d_Mo_behind_82 : decode cc_Mo_behind 82 = .ok (.iinc 4 1, 3) := by decide +kernel
theorem d_Mo_behind_85 : decode cc_Mo_behind 85 = .ok (.aload_n 0, 1) := by decide +kernel
theorem d_Mo_behind_86 : decode cc_Mo_behind 86 = .ok (.iload_n 1, 1) := by decide +kernel
theorem d_Mo_behind_87 : decode cc_Mo_behind 87 = .ok (.iload 5, 2) := by decide +kernel
theorem d_Mo_behind_89 : decode cc_Mo_behind 89 = .ok (.invokevirtual 119, 3) := by decide +kernel
theorem d_Mo_behind_92 : decode cc_Mo_behind 92 = .ok (.bipush 13, 2) := by decide +kernel
theorem d_Mo_behind_94 : decode cc_Mo_behind 94 = .ok (.if_icmp .ne 6, 3) := by decide +kernel
theorem d_Mo_behind_97 : decode cc_Mo_behind 97 = .ok (.iinc 4 (-1), 3) := by decide +kernel
theorem d_Mo_behind_100 : decode cc_Mo_behind 100 = .ok (.aload_n 0, 1) := by decide +kernel
theorem d_Mo_behind_101 : decode cc_Mo_behind 101 = .ok (.iload_n 1, 1) := by decide +kernel
theorem d_Mo_behind_102 : decode cc_Mo_behind 102 = .ok (.iload 5, 2) := by decide +kernel
theorem d_Mo_behind_104 : decode cc_Mo_behind 104 = .ok (.invokevirtual 119, 3) := by decide +kernel
theorem d_Mo_behind_107 : decode cc_Mo_behind 107 = .ok (.bipush 9, 2) := by decide +kernel
theorem d_Mo_behind_109 : decode cc_Mo_behind 109 = .ok (.if_icmp .ne 13, 3) := by decide +kernel
theorem d_Mo_behind_112 : decode cc_Mo_behind 112 = .ok (.iload 4, 2) := by decide +kernel
theorem d_Mo_behind_114 : decode cc_Mo_behind 114 = .ok (.ifCond .ne 8, 3) := by decide +kernel
theorem d_Mo_behind_117 : decode cc_Mo_behind 117 = .ok (.iload 5, 2) := by decide +kernel
theorem d_Mo_behind_119 : decode cc_Mo_behind 119 = .ok (.iconst 1, 1) := by decide +kernel
theorem d_Mo_behind_120 : decode cc_Mo_behind 120 = .ok (.iadd, 1) := by decide +kernel
theorem d_Mo_behind_121 : decode cc_Mo_behind 121 = .ok (.ireturn, 1) := by decide +kernel
theorem d_Mo_behind_122 : decode cc_Mo_behind 122 = .ok (.iinc 5 1, 3) := by decide +kernel
theorem d_Mo_behind_125 : decode cc_Mo_behind 125 = .ok (.goto (-66), 3) := by decide +kernel
theorem d_Mo_behind_128 : decode cc_Mo_behind 128 = .ok (.aload_n 0, 1) := by decide +kernel
theorem d_Mo_behind_129 : decode cc_Mo_behind 129 = .ok (.getfield 19, 3) := by decide +kernel
theorem d_Mo_behind_132 : decode cc_Mo_behind 132 = .ok (.iload_n 1, 1) := by decide +kernel
theorem d_Mo_behind_133 : decode cc_Mo_behind 133 = .ok (.iaload, 1) := by decide +kernel
theorem d_Mo_behind_134 : decode cc_Mo_behind 134 = .ok (.ireturn, 1) := by decide +kernel
theorem d_Mo_bodyStart_0 : decode cc_Mo_bodyStart 0 = .ok (.iconst 0, 1) := by decide +kernel
theorem d_Mo_bodyStart_1 : decode cc_Mo_bodyStart 1 = .ok (.istore_n 2, 1) := by decide +kernel
theorem d_Mo_bodyStart_2 : decode cc_Mo_bodyStart 2 = .ok (.aload_n 0, 1) := by decide +kernel
theorem d_Mo_bodyStart_3 : decode cc_Mo_bodyStart 3 = .ok (.getfield 40, 3) := by decide +kernel
theorem d_Mo_bodyStart_6 : decode cc_Mo_bodyStart 6 = .ok (.iload_n 1, 1) := by decide +kernel
theorem d_Mo_bodyStart_7 : decode cc_Mo_bodyStart 7 = .ok (.iaload, 1) := by decide +kernel
theorem d_Mo_bodyStart_8 : decode cc_Mo_bodyStart 8 = .ok (.ifCond .le 20, 3) := by decide +kernel
theorem d_Mo_bodyStart_11 : decode cc_Mo_bodyStart 11 = .ok (.aload_n 0, 1) := by decide +kernel
theorem d_Mo_bodyStart_12 : decode cc_Mo_bodyStart 12 = .ok (.iload_n 1, 1) := by decide +kernel
theorem d_Mo_bodyStart_13 : decode cc_Mo_bodyStart 13 = .ok (.iload_n 2, 1) := by decide +kernel
theorem d_Mo_bodyStart_14 : decode cc_Mo_bodyStart 14 = .ok (.invokevirtual 119, 3) := by decide +kernel
theorem d_Mo_bodyStart_17 : decode cc_Mo_bodyStart 17 = .ok (.bipush 20, 2) := by decide +kernel
theorem d_Mo_bodyStart_19 : decode cc_Mo_bodyStart 19 = .ok (.if_icmp .eq 9, 3) := by decide +kernel
theorem d_Mo_bodyStart_22 : decode cc_Mo_bodyStart 22 = .ok (.iinc 2 1, 3) := by decide +kernel
theorem d_Mo_bodyStart_25 : decode cc_Mo_bodyStart 25 = .ok (.goto (-14), 3) := by decide +kernel
theorem d_Mo_bodyStart_28 : decode cc_Mo_bodyStart 28 = .ok (.aload_n 0, 1) := by decide +kernel
theorem d_Mo_bodyStart_29 : decode cc_Mo_bodyStart 29 = .ok (.getfield 40, 3) := by decide +kernel
theorem d_Mo_bodyStart_32 : decode cc_Mo_bodyStart 32 = .ok (.iload_n 1, 1) := by decide +kernel
theorem d_Mo_bodyStart_33 : decode cc_Mo_bodyStart 33 = .ok (.iaload, 1) := by decide +kernel
theorem d_Mo_bodyStart_34 : decode cc_Mo_bodyStart 34 = .ok (.ifCond .le 9, 3) := by decide +kernel
theorem d_Mo_bodyStart_37 : decode cc_Mo_bodyStart 37 = .ok (.iload_n 2, 1) := by decide +kernel
theorem d_Mo_bodyStart_38 : decode cc_Mo_bodyStart 38 = .ok (.iconst 1, 1) := by decide +kernel
theorem d_Mo_bodyStart_39 : decode cc_Mo_bodyStart 39 = .ok (.iadd, 1) := by decide +kernel
theorem d_Mo_bodyStart_40 : decode cc_Mo_bodyStart 40 = .ok (.goto 4, 3) := by decide +kernel
theorem d_Mo_bodyStart_43 : decode cc_Mo_bodyStart 43 = .ok (.iconst 0, 1) := by decide +kernel
theorem d_Mo_bodyStart_44 : decode cc_Mo_bodyStart 44 = .ok (.ireturn, 1) := by decide +kernel
theorem d_Mo_put_0 : decode cc_Mo_put 0 = .ok (.aload_n 0, 1) := by decide +kernel
theorem d_Mo_put_1 : decode cc_Mo_put 1 = .ok (.getfield 46, 3) := by decide +kernel
theorem d_Mo_put_4 : decode cc_Mo_put 4 = .ok (.aload_n 0, 1) := by decide +kernel
theorem d_Mo_put_5 : decode cc_Mo_put 5 = .ok (.getfield 128, 3) := by decide +kernel
theorem d_Mo_put_8 : decode cc_Mo_put 8 = .ok (.iload_n 1, 1) := by decide +kernel
theorem d_Mo_put_9 : decode cc_Mo_put 9 = .ok (.iastore, 1) := by decide +kernel
theorem d_Mo_put_10 : decode cc_Mo_put 10 = .ok (.aload_n 0, 1) := by decide +kernel
theorem d_Mo_put_11 : decode cc_Mo_put 11 = .ok (.dup, 1) := by decide +kernel
theorem d_Mo_put_12 : decode cc_Mo_put 12 = .ok (.getfield 128, 3) := by decide +kernel
theorem d_Mo_put_15 : decode cc_Mo_put 15 = .ok (.iconst 1, 1) := by decide +kernel
theorem d_Mo_put_16 : decode cc_Mo_put 16 = .ok (.iadd, 1) := by decide +kernel
theorem d_Mo_put_17 : decode cc_Mo_put 17 = .ok (.putfield 128, 3) := by decide +kernel
theorem d_Mo_put_20 : decode cc_Mo_put 20 = .ok (.return_, 1) := by decide +kernel
theorem d_Mo_param_0 : decode cc_Mo_param 0 = .ok (.iload_n 1, 1) := by decide +kernel
theorem d_Mo_param_1 : decode cc_Mo_param 1 = .ok (.ifCond .ge 5, 3) := by decide +kernel
theorem d_Mo_param_4 : decode cc_Mo_param 4 = .ok (.iconst (-1), 1) := by decide +kernel
theorem d_Mo_param_5 : decode cc_Mo_param 5 = .ok (.ireturn, 1) := by decide +kernel
theorem d_Mo_param_6 : decode cc_Mo_param 6 = .ok (.aload_n 0, 1) := by decide +kernel
theorem d_Mo_param_7 : decode cc_Mo_param 7 = .ok (.iload_n 2, 1) := by decide +kernel
theorem d_Mo_param_8 : decode cc_Mo_param 8 = .ok (.iload_n 3, 1) := by decide +kernel
theorem d_Mo_param_9 : decode cc_Mo_param 9 = .ok (.iconst 1, 1) := by decide +kernel
theorem d_Mo_param_10 : decode cc_Mo_param 10 = .ok (.iadd, 1) := by decide +kernel
theorem d_Mo_param_11 : decode cc_Mo_param 11 = .ok (.invokevirtual 122, 3) := by decide +kernel
theorem d_Mo_param_14 : decode cc_Mo_param 14 = .ok (.istore 4, 2) := by decide +kernel
theorem d_Mo_param_16 : decode cc_Mo_param 16 = .ok (.bipush 20, 2) := by decide +kernel
theorem d_Mo_param_18 : decode cc_Mo_param 18 = .ok (.iload_n 1, 1) := by decide +kernel
theorem d_Mo_param_19 : decode cc_Mo_param 19 = .ok (.imul, 1) := by decide +kernel
theorem d_Mo_param_20 : decode cc_Mo_param 20 = .ok (.istore 5, 2) := by decide +kernel
theorem d_Mo_param_22 : decode cc_Mo_param 22 = .ok (.iload 5, 2) := by decide +kernel
theorem d_Mo_param_24 : decode cc_Mo_param 24 = .ok (.bipush 20, 2) := by decide +kernel
theorem d_Mo_param_26 : decode cc_Mo_param 26 = .ok (.iload_n 1, 1) := by decide +kernel
theorem d_Mo_param_27 : decode cc_Mo_param 27 = .ok (.imul, 1) := by decide +kernel
theorem d_Mo_param_28 : decode cc_Mo_param 28 = .ok (.aload_n 0, 1) := by decide +kernel
theorem d_Mo_param_29 : decode cc_Mo_param 29 = .ok (.getfield 40, 3) := by decide +kernel
theorem d_Mo_param_32 : decode cc_Mo_param 32 = .ok (.iload_n 1, 1) := by decide +kernel
theorem d_Mo_param_33 : decode cc_Mo_param 33 = .ok (.iaload, 1) := by decide +kernel
theorem d_Mo_param_34 : decode cc_Mo_param 34 = .ok (.iadd, 1) := by decide +kernel
theorem d_Mo_param_35 : decode cc_Mo_param 35 = .ok (.if_icmp .ge 40, 3) := by decide +kernel
theorem d_Mo_param_38 : decode cc_Mo_param 38 = .ok (.aload_n 0, 1) := by decide +kernel
theorem d_Mo_param_39 : decode cc_Mo_param 39 = .ok (.iload_n 1, 1) := by decide +kernel
theorem d_Mo_param_40 : decode cc_Mo_param 40 = .ok (.aload_n 0, 1) := by decide +kernel
theorem d_Mo_param_41 : decode cc_Mo_param 41 = .ok (.getfield 28, 3) := by decide +kernel
theorem d_Mo_param_44 : decode cc_Mo_param 44 = .ok (.iload 5, 2) := by decide +kernel
theorem d_Mo_param_46 : decode cc_Mo_param 46 = .ok (.iaload, 1) := by decide +kernel
theorem d_Mo_param_47 : decode cc_Mo_param 47 = .ok (.aload_n 0, 1) := by decide +kernel
theorem d_Mo_param_48 : decode cc_Mo_param 48 = .ok (.getfield 31, 3) := by decide +kernel
theorem d_Mo_param_51 : decode cc_Mo_param 51 = .ok (.iload 5, 2) := by decide +kernel
theorem d_Mo_param_53 : decode cc_Mo_param 53 = .ok (.iaload, 1) := by decide +kernel
theorem d_Mo_param_54 : decode cc_Mo_param 54 = .ok (.iload_n 2, 1) := by decide +kernel
theorem d_Mo_param_55 : decode cc_Mo_param 55 = .ok (.iload_n 3, 1) := by decide +kernel
theorem d_Mo_param_56 : decode cc_Mo_param 56 = .ok (.iconst 1, 1) := by decide +kernel
theorem d_Mo_param_57 : decode cc_Mo_param 57 = .ok (.iadd, 1) := by decide +kernel
theorem d_Mo_param_58 : decode cc_Mo_param 58 = .ok (.iload 4, 2) := by decide +kernel
theorem d_Mo_param_60 : decode cc_Mo_param 60 = .ok (.invokevirtual 103, 3) := by decide +kernel
theorem d_Mo_param_63 : decode cc_Mo_param 63 = .ok (.ifCond .eq 6, 3) := by decide +kernel
theorem d_Mo_param_66 : decode cc_Mo_param 66 = .ok (.iload 5, 2) := by decide +kernel
theorem d_Mo_param_68 : decode cc_Mo_param 68 = .ok (.ireturn, 1) := by decide +kernel
theorem d_Mo_param_69 : decode cc_Mo_param 69 = .ok (.iinc 5 1, 3) := by decide +kernel
theorem d_Mo_param_72 : decode cc_Mo_param 72 = .ok (.goto (-50), 3) := by decide +kernel
theorem d_Mo_param_75 : decode cc_Mo_param 75 = .ok (.iconst (-1), 1) := by decide +kernel
theorem d_Mo_param_76 : decode cc_Mo_param 76 = .ok (.ireturn, 1) := by decide +kernel
theorem d_Mo_word_0 : decode cc_Mo_word 0 = .ok (.lconst 1, 1) := by decide +kernel
theorem d_Mo_word_1 : decode cc_Mo_word 1 = .ok (.lstore_n 3, 1) := by decide +kernel
theorem d_Mo_word_2 : decode cc_Mo_word 2 = .ok (.lload_n 1, 1) := by decide +kernel
theorem d_Mo_word_3 : decode cc_Mo_word 3 = .ok (.lload_n 3, 1) := by decide +kernel
theorem d_Mo_word_4 : decode cc_Mo_word 4 = .ok (.ldiv, 1) := by decide +kernel
theorem d_Mo_word_5 : decode cc_Mo_word 5 = .ok (.ldc2_w 131, 3) := by decide +kernel
theorem d_Mo_word_8 : decode cc_Mo_word 8 = .ok (.lcmp, 1) := by decide +kernel
theorem d_Mo_word_9 : decode cc_Mo_word 9 = .ok (.ifCond .lt 12, 3) := by decide +kernel
theorem d_Mo_word_12 : decode cc_Mo_word 12 = .ok (.lload_n 3, 1) := by decide +kernel
theorem d_Mo_word_13 : decode cc_Mo_word 13 = .ok (.ldc2_w 131, 3) := by decide +kernel
theorem d_Mo_word_16 : decode cc_Mo_word 16 = .ok (.lmul, 1) := by decide +kernel
theorem d_Mo_word_17 : decode cc_Mo_word 17 = .ok (.lstore_n 3, 1) := by decide +kernel
theorem d_Mo_word_18 : decode cc_Mo_word 18 = .ok (.goto (-16), 3) := by decide +kernel
theorem d_Mo_word_21 : decode cc_Mo_word 21 = .ok (.lload_n 3, 1) := by decide +kernel
theorem d_Mo_word_22 : decode cc_Mo_word 22 = .ok (.lconst 0, 1) := by decide +kernel
theorem d_Mo_word_23 : decode cc_Mo_word 23 = .ok (.lcmp, 1) := by decide +kernel
theorem d_Mo_word_24 : decode cc_Mo_word 24 = .ok (.ifCond .le 24, 3) := by decide +kernel
theorem d_Mo_word_27 : decode cc_Mo_word 27 = .ok (.aload_n 0, 1) := by decide +kernel
theorem d_Mo_word_28 : decode cc_Mo_word 28 = .ok (.lload_n 1, 1) := by decide +kernel
theorem d_Mo_word_29 : decode cc_Mo_word 29 = .ok (.lload_n 3, 1) := by decide +kernel
theorem d_Mo_word_30 : decode cc_Mo_word 30 = .ok (.ldiv, 1) := by decide +kernel
theorem d_Mo_word_31 : decode cc_Mo_word 31 = .ok (.ldc2_w 131, 3) := by decide +kernel
theorem d_Mo_word_34 : decode cc_Mo_word 34 = .ok (.lrem, 1) := by decide +kernel
theorem d_Mo_word_35 : decode cc_Mo_word 35 = .ok (.l2i, 1) := by decide +kernel
theorem d_Mo_word_36 : decode cc_Mo_word 36 = .ok (.invokevirtual 133, 3) := by decide +kernel
theorem d_Mo_word_39 : decode cc_Mo_word 39 = .ok (.lload_n 3, 1) := by decide +kernel
theorem d_Mo_word_40 : decode cc_Mo_word 40 = .ok (.ldc2_w 131, 3) := by decide +kernel
theorem d_Mo_word_43 : decode cc_Mo_word 43 = .ok (.ldiv, 1) := by decide +kernel
theorem d_Mo_word_44 : decode cc_Mo_word 44 = .ok (.lstore_n 3, 1) := by decide +kernel
theorem d_Mo_word_45 : decode cc_Mo_word 45 = .ok (.goto (-24), 3) := by decide +kernel
theorem d_Mo_word_48 : decode cc_Mo_word 48 = .ok (.return_, 1) := by decide +kernel
theorem d_Mo_resolve_0 : decode cc_Mo_resolve 0 = .ok (.aload_n 0, 1) := by decide +kernel
theorem d_Mo_resolve_1 : decode cc_Mo_resolve 1 = .ok (.aload_n 0, 1) := by decide +kernel
theorem d_Mo_resolve_2 : decode cc_Mo_resolve 2 = .ok (.getfield 170, 3) := by decide +kernel
theorem d_Mo_resolve_5 : decode cc_Mo_resolve 5 = .ok (.aload_n 0, 1) := by decide +kernel
theorem d_Mo_resolve_6 : decode cc_Mo_resolve 6 = .ok (.getfield 173, 3) := by decide +kernel
theorem d_Mo_resolve_9 : decode cc_Mo_resolve 9 = .ok (.invokevirtual 119, 3) := by decide +kernel
theorem d_Mo_resolve_12 : decode cc_Mo_resolve 12 = .ok (.iconst 2, 1) := by decide +kernel
theorem d_Mo_resolve_13 : decode cc_Mo_resolve 13 = .ok (.if_icmp .eq 19, 3) := by decide +kernel
theorem d_Mo_resolve_16 : decode cc_Mo_resolve 16 = .ok (.aload_n 0, 1) := by decide +kernel
theorem d_Mo_resolve_17 : decode cc_Mo_resolve 17 = .ok (.aload_n 0, 1) := by decide +kernel
theorem d_Mo_resolve_18 : decode cc_Mo_resolve 18 = .ok (.getfield 170, 3) := by decide +kernel
theorem d_Mo_resolve_21 : decode cc_Mo_resolve 21 = .ok (.aload_n 0, 1) := by decide +kernel
theorem d_Mo_resolve_22 : decode cc_Mo_resolve 22 = .ok (.getfield 173, 3) := by decide +kernel
theorem d_Mo_resolve_25 : decode cc_Mo_resolve 25 = .ok (.invokevirtual 119, 3) := by decide +kernel
theorem d_Mo_resolve_28 : decode cc_Mo_resolve 28 = .ok (.iconst 3, 1) := by decide +kernel
theorem d_Mo_resolve_29 : decode cc_Mo_resolve 29 = .ok (.if_icmp .ne 175, 3) := by decide +kernel
theorem d_Mo_resolve_32 : decode cc_Mo_resolve 32 = .ok (.aload_n 0, 1) := by decide +kernel
theorem d_Mo_resolve_33 : decode cc_Mo_resolve 33 = .ok (.aload_n 0, 1) := by decide +kernel
theorem d_Mo_resolve_34 : decode cc_Mo_resolve 34 = .ok (.getfield 170, 3) := by decide +kernel
theorem d_Mo_resolve_37 : decode cc_Mo_resolve 37 = .ok (.aload_n 0, 1) := by decide +kernel
theorem d_Mo_resolve_38 : decode cc_Mo_resolve 38 = .ok (.getfield 173, 3) := by decide +kernel
theorem d_Mo_resolve_41 : decode cc_Mo_resolve 41 = .ok (.invokevirtual 119, 3) := by decide +kernel
theorem d_Mo_resolve_44 : decode cc_Mo_resolve 44 = .ok (.iconst 3, 1) := by decide +kernel
theorem d_Mo_resolve_45 : decode cc_Mo_resolve 45 = .ok (.if_icmp .ne 22, 3) := by decide +kernel
theorem d_Mo_resolve_48 : decode cc_Mo_resolve 48 = .ok (.aload_n 0, 1) := by decide +kernel
theorem d_Mo_resolve_49 : decode cc_Mo_resolve 49 = .ok (.bipush 91, 2) := by decide +kernel
theorem d_Mo_resolve_51 : decode cc_Mo_resolve 51 = .ok (.invokevirtual 133, 3) := by decide +kernel
theorem d_Mo_resolve_54 : decode cc_Mo_resolve 54 = .ok (.aload_n 0, 1) := by decide +kernel
theorem d_Mo_resolve_55 : decode cc_Mo_resolve 55 = .ok (.dup, 1) := by decide +kernel
theorem d_Mo_resolve_56 : decode cc_Mo_resolve 56 = .ok (.getfield 173, 3) := by decide +kernel
theorem d_Mo_resolve_59 : decode cc_Mo_resolve 59 = .ok (.iconst 1, 1) := by decide +kernel
theorem d_Mo_resolve_60 : decode cc_Mo_resolve 60 = .ok (.iadd, 1) := by decide +kernel
theorem d_Mo_resolve_61 : decode cc_Mo_resolve 61 = .ok (.putfield 173, 3) := by decide +kernel
theorem d_Mo_resolve_64 : decode cc_Mo_resolve 64 = .ok (.goto (-64), 3) := by decide +kernel
theorem d_Mo_resolve_67 : decode cc_Mo_resolve 67 = .ok (.aload_n 0, 1) := by decide +kernel
theorem d_Mo_resolve_68 : decode cc_Mo_resolve 68 = .ok (.getfield 170, 3) := by decide +kernel
theorem d_Mo_resolve_71 : decode cc_Mo_resolve 71 = .ok (.istore_n 1, 1) := by decide +kernel
theorem d_Mo_resolve_72 : decode cc_Mo_resolve 72 = .ok (.aload_n 0, 1) := by decide +kernel
theorem d_Mo_resolve_73 : decode cc_Mo_resolve 73 = .ok (.iload_n 1, 1) := by decide +kernel
theorem d_Mo_resolve_74 : decode cc_Mo_resolve 74 = .ok (.aload_n 0, 1) := by decide +kernel
theorem d_Mo_resolve_75 : decode cc_Mo_resolve 75 = .ok (.getfield 170, 3) := by decide +kernel
theorem d_Mo_resolve_78 : decode cc_Mo_resolve 78 = .ok (.aload_n 0, 1) := by decide +kernel
theorem d_Mo_resolve_79 : decode cc_Mo_resolve 79 = .ok (.getfield 173, 3) := by decide +kernel
theorem d_Mo_resolve_82 : decode cc_Mo_resolve 82 = .ok (.invokevirtual 125, 3) := by decide +kernel
theorem d_Mo_resolve_85 : decode cc_Mo_resolve 85 = .ok (.istore_n 2, 1) := by decide +kernel
theorem d_Mo_resolve_86 : decode cc_Mo_resolve 86 = .ok (.iload_n 2, 1) := by decide +kernel
theorem d_Mo_resolve_87 : decode cc_Mo_resolve 87 = .ok (.ifCond .ge 47, 3) := by decide +kernel
theorem d_Mo_resolve_90 : decode cc_Mo_resolve 90 = .ok (.aload_n 0, 1) := by decide +kernel
theorem d_Mo_resolve_91 : decode cc_Mo_resolve 91 = .ok (.getfield 176, 3) := by decide +kernel
theorem d_Mo_resolve_94 : decode cc_Mo_resolve 94 = .ok (.ifCond .ne 40, 3) := by decide +kernel
theorem d_Mo_resolve_97 : decode cc_Mo_resolve 97 = .ok (.aload_n 0, 1) := by decide +kernel
theorem d_Mo_resolve_98 : decode cc_Mo_resolve 98 = .ok (.getfield 25, 3) := by decide +kernel
theorem d_Mo_resolve_101 : decode cc_Mo_resolve 101 = .ok (.aload_n 0, 1) := by decide +kernel
theorem d_Mo_resolve_102 : decode cc_Mo_resolve 102 = .ok (.getfield 170, 3) := by decide +kernel
theorem d_Mo_resolve_105 : decode cc_Mo_resolve 105 = .ok (.iaload, 1) := by decide +kernel
theorem d_Mo_resolve_106 : decode cc_Mo_resolve 106 = .ok (.istore_n 1, 1) := by decide +kernel
theorem d_Mo_resolve_107 : decode cc_Mo_resolve 107 = .ok (.aload_n 0, 1) := by decide +kernel
theorem d_Mo_resolve_108 : decode cc_Mo_resolve 108 = .ok (.iload_n 1, 1) := by decide +kernel
theorem d_Mo_resolve_109 : decode cc_Mo_resolve 109 = .ok (.aload_n 0, 1) := by decide +kernel
theorem d_Mo_resolve_110 : decode cc_Mo_resolve 110 = .ok (.getfield 170, 3) := by decide +kernel
theorem d_Mo_resolve_113 : decode cc_Mo_resolve 113 = .ok (.aload_n 0, 1) := by decide +kernel
theorem d_Mo_resolve_114 : decode cc_Mo_resolve 114 = .ok (.getfield 173, 3) := by decide +kernel
theorem d_Mo_resolve_117 : decode cc_Mo_resolve 117 = .ok (.invokevirtual 125, 3) := by decide +kernel
theorem d_Mo_resolve_120 : decode cc_Mo_resolve 120 = .ok (.istore_n 2, 1) := by decide +kernel
theorem d_Mo_resolve_121 : decode cc_Mo_resolve 121 = .ok (.aload_n 0, 1) := by decide +kernel
theorem d_Mo_resolve_122 : decode cc_Mo_resolve 122 = .ok (.iload_n 2, 1) := by decide +kernel
theorem d_Mo_resolve_123 : decode cc_Mo_resolve 123 = .ok (.ifCond .lt 7, 3) := by decide +kernel
theorem d_Mo_resolve_126 : decode cc_Mo_resolve 126 = .ok (.iconst 1, 1) := by decide +kernel
theorem d_Mo_resolve_127 : decode cc_Mo_resolve 127 = .ok (.goto 4, 3) := by decide +kernel
theorem d_Mo_resolve_130 : decode cc_Mo_resolve 130 = .ok (.iconst 0, 1) := by decide +kernel
theorem d_Mo_resolve_131 : decode cc_Mo_resolve 131 = .ok (.putfield 176, 3) := by decide +kernel
theorem d_Mo_resolve_134 : decode cc_Mo_resolve 134 = .ok (.iload_n 2, 1) := by decide +kernel
theorem d_Mo_resolve_135 : decode cc_Mo_resolve 135 = .ok (.ifCond .lt 21, 3) := by decide +kernel
theorem d_Mo_resolve_138 : decode cc_Mo_resolve 138 = .ok (.aload_n 0, 1) := by decide +kernel
theorem d_Mo_resolve_139 : decode cc_Mo_resolve 139 = .ok (.getfield 52, 3) := by decide +kernel
theorem d_Mo_resolve_142 : decode cc_Mo_resolve 142 = .ok (.iload_n 2, 1) := by decide +kernel
theorem d_Mo_resolve_143 : decode cc_Mo_resolve 143 = .ok (.baload, 1) := by decide +kernel
theorem d_Mo_resolve_144 : decode cc_Mo_resolve 144 = .ok (.ifCond .ne 12, 3) := by decide +kernel
theorem d_Mo_resolve_147 : decode cc_Mo_resolve 147 = .ok (.aload_n 0, 1) := by decide +kernel
theorem d_Mo_resolve_148 : decode cc_Mo_resolve 148 = .ok (.getfield 34, 3) := by decide +kernel
theorem d_Mo_resolve_151 : decode cc_Mo_resolve 151 = .ok (.iload_n 2, 1) := by decide +kernel
theorem d_Mo_resolve_152 : decode cc_Mo_resolve 152 = .ok (.iaload, 1) := by decide +kernel
theorem d_Mo_resolve_153 : decode cc_Mo_resolve 153 = .ok (.ifCond .ge 26, 3) := by decide +kernel
theorem d_Mo_resolve_156 : decode cc_Mo_resolve 156 = .ok (.aload_n 0, 1) := by decide +kernel
theorem d_Mo_resolve_157 : decode cc_Mo_resolve 157 = .ok (.ldc2_w 180, 3) := by decide +kernel
theorem d_Mo_resolve_160 : decode cc_Mo_resolve 160 = .ok (.invokevirtual 161, 3) := by decide +kernel
theorem d_Mo_resolve_163 : decode cc_Mo_resolve 163 = .ok (.aload_n 0, 1) := by decide +kernel
theorem d_Mo_resolve_164 : decode cc_Mo_resolve 164 = .ok (.ldc2_w 182, 3) := by decide +kernel
theorem d_Mo_resolve_167 : decode cc_Mo_resolve 167 = .ok (.invokevirtual 161, 3) := by decide +kernel
theorem d_Mo_resolve_170 : decode cc_Mo_resolve 170 = .ok (.aload_n 0, 1) := by decide +kernel
theorem d_Mo_resolve_171 : decode cc_Mo_resolve 171 = .ok (.ldc2_w 184, 3) := by decide +kernel
theorem d_Mo_resolve_174 : decode cc_Mo_resolve 174 = .ok (.invokevirtual 161, 3) := by decide +kernel
theorem d_Mo_resolve_177 : decode cc_Mo_resolve 177 = .ok (.iconst 0, 1) := by decide +kernel
theorem d_Mo_resolve_178 : decode cc_Mo_resolve 178 = .ok (.ireturn, 1) := by decide +kernel
theorem d_Mo_resolve_179 : decode cc_Mo_resolve 179 = .ok (.aload_n 0, 1) := by decide +kernel
theorem d_Mo_resolve_180 : decode cc_Mo_resolve 180 = .ok (.getfield 52, 3) := by decide +kernel
theorem d_Mo_resolve_183 : decode cc_Mo_resolve 183 = .ok (.iload_n 2, 1) := by decide +kernel
theorem d_Mo_resolve_184 : decode cc_Mo_resolve 184 = .ok (.iconst 1, 1) := by decide +kernel
theorem d_Mo_resolve_185 : decode cc_Mo_resolve 185 = .ok (.bastore, 1) := by decide +kernel
theorem d_Mo_resolve_186 : decode cc_Mo_resolve 186 = .ok (.aload_n 0, 1) := by decide +kernel
theorem d_Mo_resolve_187 : decode cc_Mo_resolve 187 = .ok (.iload_n 1, 1) := by decide +kernel
theorem d_Mo_resolve_188 : decode cc_Mo_resolve 188 = .ok (.putfield 170, 3) := by decide +kernel
theorem d_Mo_resolve_191 : decode cc_Mo_resolve 191 = .ok (.aload_n 0, 1) := by decide +kernel
theorem d_Mo_resolve_192 : decode cc_Mo_resolve 192 = .ok (.aload_n 0, 1) := by decide +kernel
theorem d_Mo_resolve_193 : decode cc_Mo_resolve 193 = .ok (.getfield 34, 3) := by decide +kernel
theorem d_Mo_resolve_196 : decode cc_Mo_resolve 196 = .ok (.iload_n 2, 1) := by decide +kernel
theorem d_Mo_resolve_197 : decode cc_Mo_resolve 197 = .ok (.iaload, 1) := by decide +kernel
theorem d_Mo_resolve_198 : decode cc_Mo_resolve 198 = .ok (.putfield 173, 3) := by decide +kernel
theorem d_Mo_resolve_201 : decode cc_Mo_resolve 201 = .ok (.goto (-201), 3) := by decide +kernel
theorem d_Mo_resolve_204 : decode cc_Mo_resolve 204 = .ok (.iconst 1, 1) := by decide +kernel
theorem d_Mo_resolve_205 : decode cc_Mo_resolve 205 = .ok (.ireturn, 1) := by decide +kernel
theorem d_Mo_erase_0 : decode cc_Mo_erase 0 = .ok (.iconst 0, 1) := by decide +kernel
theorem d_Mo_erase_1 : decode cc_Mo_erase 1 = .ok (.istore_n 3, 1) := by decide +kernel
theorem d_Mo_erase_2 : decode cc_Mo_erase 2 = .ok (.iload_n 3, 1) := by decide +kernel
theorem d_Mo_erase_3 : decode cc_Mo_erase 3 = .ok (.sipush 500, 3) := by decide +kernel
theorem d_Mo_erase_6 : decode cc_Mo_erase 6 = .ok (.if_icmp .ge 16, 3) := by decide +kernel
theorem d_Mo_erase_9 : decode cc_Mo_erase 9 = .ok (.aload_n 0, 1) := by decide +kernel
theorem d_Mo_erase_10 : decode cc_Mo_erase 10 = .ok (.getfield 52, 3) := by decide +kernel
theorem d_Mo_erase_13 : decode cc_Mo_erase 13 = .ok (.iload_n 3, 1) := by decide +kernel
theorem d_Mo_erase_14 : decode cc_Mo_erase 14 = .ok (.iconst 0, 1) := by decide +kernel
theorem d_Mo_erase_15 : decode cc_Mo_erase 15 = .ok (.bastore, 1) := by decide +kernel
theorem d_Mo_erase_16 : decode cc_Mo_erase 16 = .ok (.iinc 3 1, 3) := by decide +kernel
theorem d_Mo_erase_19 : decode cc_Mo_erase 19 = .ok (.goto (-17), 3) := by decide +kernel
theorem d_Mo_erase_22 : decode cc_Mo_erase 22 = .ok (.aload_n 0, 1) := by decide +kernel
theorem d_Mo_erase_23 : decode cc_Mo_erase 23 = .ok (.iload_n 1, 1) := by decide +kernel
theorem d_Mo_erase_24 : decode cc_Mo_erase 24 = .ok (.putfield 170, 3) := by decide +kernel
theorem d_Mo_erase_27 : decode cc_Mo_erase 27 = .ok (.aload_n 0, 1) := by decide +kernel
theorem d_Mo_erase_28 : decode cc_Mo_erase 28 = .ok (.iload_n 2, 1) := by decide +kernel
theorem d_Mo_erase_29 : decode cc_Mo_erase 29 = .ok (.putfield 173, 3) := by decide +kernel
theorem d_Mo_erase_32 : decode cc_Mo_erase 32 = .ok (.aload_n 0, 1) := by decide +kernel
theorem d_Mo_erase_33 : decode cc_Mo_erase 33 = .ok (.iconst 0, 1) := by decide +kernel
theorem d_Mo_erase_34 : decode cc_Mo_erase 34 = .ok (.putfield 176, 3) := by decide +kernel
theorem d_Mo_erase_37 : decode cc_Mo_erase 37 = .ok (.aload_n 0, 1) := by decide +kernel
theorem d_Mo_erase_38 : decode cc_Mo_erase 38 = .ok (.invokevirtual 186, 3) := by decide +kernel
theorem d_Mo_erase_41 : decode cc_Mo_erase 41 = .ok (.ifCond .ne 4, 3) := by decide +kernel
theorem d_Mo_erase_44 : decode cc_Mo_erase 44 = .ok (.return_, 1) := by decide +kernel
theorem d_Mo_erase_45 : decode cc_Mo_erase 45 = .ok (.aload_n 0, 1) := by decide +kernel
theorem d_Mo_erase_46 : decode cc_Mo_erase 46 = .ok (.aload_n 0, 1) := by decide +kernel
theorem d_Mo_erase_47 : decode cc_Mo_erase 47 = .ok (.getfield 170, 3) := by decide +kernel
theorem d_Mo_erase_50 : decode cc_Mo_erase 50 = .ok (.aload_n 0, 1) := by decide +kernel
theorem d_Mo_erase_51 : decode cc_Mo_erase 51 = .ok (.getfield 173, 3) := by decide +kernel
theorem d_Mo_erase_54 : decode cc_Mo_erase 54 = .ok (.invokevirtual 119, 3) := by decide +kernel
theorem d_Mo_erase_57 : decode cc_Mo_erase 57 = .ok (.iconst 1, 1) := by decide +kernel
theorem d_Mo_erase_58 : decode cc_Mo_erase 58 = .ok (.if_icmp .eq 20, 3) := by decide +kernel
theorem d_Mo_erase_61 : decode cc_Mo_erase 61 = .ok (.aload_n 0, 1) := by decide +kernel
