theorem d_Sh_showWaiting_7 : decode cc_Sh_showWaiting 7 = .ok (.aload_n 0, 1) := by decide +kernel
theorem d_Sh_showWaiting_8 : decode cc_Sh_showWaiting 8 = .ok (.getfield 15, 3) := by decide +kernel
theorem d_Sh_showWaiting_11 : decode cc_Sh_showWaiting 11 = .ok (.iaload, 1) := by decide +kernel
theorem d_Sh_showWaiting_12 : decode cc_Sh_showWaiting 12 = .ok (.if_icmp .ge 15, 3) := by decide +kernel
theorem d_Sh_showWaiting_15 : decode cc_Sh_showWaiting 15 = .ok (.aload_n 1, 1) := by decide +kernel
theorem d_Sh_showWaiting_16 : decode cc_Sh_showWaiting 16 = .ok (.ldc 86, 2) := by decide +kernel
theorem d_Sh_showWaiting_18 : decode cc_Sh_showWaiting 18 = .ok (.invokevirtual 75, 3) := by decide +kernel
theorem d_Sh_showWaiting_21 : decode cc_Sh_showWaiting 21 = .ok (.iinc 2 1, 3) := by decide +kernel
theorem d_Sh_showWaiting_24 : decode cc_Sh_showWaiting 24 = .ok (.goto (-22), 3) := by decide +kernel
theorem d_Sh_showWaiting_27 : decode cc_Sh_showWaiting 27 = .ok (.aload_n 0, 1) := by decide +kernel
theorem d_Sh_showWaiting_28 : decode cc_Sh_showWaiting 28 = .ok (.getfield 9, 3) := by decide +kernel
theorem d_Sh_showWaiting_31 : decode cc_Sh_showWaiting 31 = .ok (.aload_n 0, 1) := by decide +kernel
theorem d_Sh_showWaiting_32 : decode cc_Sh_showWaiting 32 = .ok (.getfield 15, 3) := by decide +kernel
theorem d_Sh_showWaiting_35 : decode cc_Sh_showWaiting 35 = .ok (.iconst 0, 1) := by decide +kernel
theorem d_Sh_showWaiting_36 : decode cc_Sh_showWaiting 36 = .ok (.iastore, 1) := by decide +kernel
theorem d_Sh_showWaiting_37 : decode cc_Sh_showWaiting 37 = .ok (.return_, 1) := by decide +kernel
theorem d_Sh_showColon_0 : decode cc_Sh_showColon 0 = .ok (.iload_n 2, 1) := by decide +kernel
theorem d_Sh_showColon_1 : decode cc_Sh_showColon 1 = .ok (.iconst 4, 1) := by decide +kernel
theorem d_Sh_showColon_2 : decode cc_Sh_showColon 2 = .ok (.if_icmp .ne 21, 3) := by decide +kernel
theorem d_Sh_showColon_5 : decode cc_Sh_showColon 5 = .ok (.aload_n 0, 1) := by decide +kernel
theorem d_Sh_showColon_6 : decode cc_Sh_showColon 6 = .ok (.iload_n 1, 1) := by decide +kernel
theorem d_Sh_showColon_7 : decode cc_Sh_showColon 7 = .ok (.iconst 1, 1) := by decide +kernel
theorem d_Sh_showColon_8 : decode cc_Sh_showColon 8 = .ok (.isub, 1) := by decide +kernel
theorem d_Sh_showColon_9 : decode cc_Sh_showColon 9 = .ok (.invokevirtual 32, 3) := by decide +kernel
theorem d_Sh_showColon_12 : decode cc_Sh_showColon 12 = .ok (.iconst 3, 1) := by decide +kernel
theorem d_Sh_showColon_13 : decode cc_Sh_showColon 13 = .ok (.if_icmp .eq 9, 3) := by decide +kernel
theorem d_Sh_showColon_16 : decode cc_Sh_showColon 16 = .ok (.aload_n 3, 1) := by decide +kernel
theorem d_Sh_showColon_17 : decode cc_Sh_showColon 17 = .ok (.bipush 38, 2) := by decide +kernel
theorem d_Sh_showColon_19 : decode cc_Sh_showColon 19 = .ok (.invokevirtual 54, 3) := by decide +kernel
theorem d_Sh_showColon_22 : decode cc_Sh_showColon 22 = .ok (.return_, 1) := by decide +kernel
theorem d_Sh_showColon_23 : decode cc_Sh_showColon 23 = .ok (.aload_n 0, 1) := by decide +kernel
theorem d_Sh_showColon_24 : decode cc_Sh_showColon 24 = .ok (.iload_n 1, 1) := by decide +kernel
theorem d_Sh_showColon_25 : decode cc_Sh_showColon 25 = .ok (.iconst 1, 1) := by decide +kernel
theorem d_Sh_showColon_26 : decode cc_Sh_showColon 26 = .ok (.iadd, 1) := by decide +kernel
theorem d_Sh_showColon_27 : decode cc_Sh_showColon 27 = .ok (.invokevirtual 32, 3) := by decide +kernel
theorem d_Sh_showColon_30 : decode cc_Sh_showColon 30 = .ok (.istore 4, 2) := by decide +kernel
theorem d_Sh_showColon_32 : decode cc_Sh_showColon 32 = .ok (.iload 4, 2) := by decide +kernel
theorem d_Sh_showColon_34 : decode cc_Sh_showColon 34 = .ok (.iconst 4, 1) := by decide +kernel
theorem d_Sh_showColon_35 : decode cc_Sh_showColon 35 = .ok (.if_icmp .eq 11, 3) := by decide +kernel
theorem d_Sh_showColon_38 : decode cc_Sh_showColon 38 = .ok (.iload 4, 2) := by decide +kernel
theorem d_Sh_showColon_40 : decode cc_Sh_showColon 40 = .ok (.invokestatic 88, 3) := by decide +kernel
theorem d_Sh_showColon_43 : decode cc_Sh_showColon 43 = .ok (.ifCond .eq 9, 3) := by decide +kernel
theorem d_Sh_showColon_46 : decode cc_Sh_showColon 46 = .ok (.aload_n 3, 1) := by decide +kernel
theorem d_Sh_showColon_47 : decode cc_Sh_showColon 47 = .ok (.bipush 58, 2) := by decide +kernel
theorem d_Sh_showColon_49 : decode cc_Sh_showColon 49 = .ok (.invokevirtual 54, 3) := by decide +kernel
theorem d_Sh_showColon_52 : decode cc_Sh_showColon 52 = .ok (.return_, 1) := by decide +kernel
theorem d_Sh_showLetter_0 : decode cc_Sh_showLetter 0 = .ok (.aload_n 1, 1) := by decide +kernel
theorem d_Sh_showLetter_1 : decode cc_Sh_showLetter 1 = .ok (.iload_n 2, 1) := by decide +kernel
theorem d_Sh_showLetter_2 : decode cc_Sh_showLetter 2 = .ok (.invokevirtual 63, 3) := by decide +kernel
theorem d_Sh_showLetter_5 : decode cc_Sh_showLetter 5 = .ok (.istore 5, 2) := by decide +kernel
theorem d_Sh_showLetter_7 : decode cc_Sh_showLetter 7 = .ok (.iload_n 3, 1) := by decide +kernel
theorem d_Sh_showLetter_8 : decode cc_Sh_showLetter 8 = .ok (.tableswitch 226 3 24 #[188, 188, 226, 104, 226, 107, 104, 226, 151, 151, 226, 107, 226, 226, 161, 171, 135, 116, 116, 226, 226, 199], 104) := by decide +kernel
theorem d_Sh_showLetter_112 : decode cc_Sh_showLetter 112 = .ok (.goto 134, 3) := by decide +kernel
theorem d_Sh_showLetter_115 : decode cc_Sh_showLetter 115 = .ok (.aload_n 0, 1) := by decide +kernel
theorem d_Sh_showLetter_116 : decode cc_Sh_showLetter 116 = .ok (.aload 4, 2) := by decide +kernel
theorem d_Sh_showLetter_118 : decode cc_Sh_showLetter 118 = .ok (.invokevirtual 67, 3) := by decide +kernel
theorem d_Sh_showLetter_121 : decode cc_Sh_showLetter 121 = .ok (.goto 125, 3) := by decide +kernel
theorem d_Sh_showLetter_124 : decode cc_Sh_showLetter 124 = .ok (.aload 4, 2) := by decide +kernel
theorem d_Sh_showLetter_126 : decode cc_Sh_showLetter 126 = .ok (.iload 5, 2) := by decide +kernel
theorem d_Sh_showLetter_128 : decode cc_Sh_showLetter 128 = .ok (.invokestatic 71, 3) := by decide +kernel
theorem d_Sh_showLetter_131 : decode cc_Sh_showLetter 131 = .ok (.invokevirtual 75, 3) := by decide +kernel
theorem d_Sh_showLetter_134 : decode cc_Sh_showLetter 134 = .ok (.aload_n 0, 1) := by decide +kernel
theorem d_Sh_showLetter_135 : decode cc_Sh_showLetter 135 = .ok (.aload 4, 2) := by decide +kernel
theorem d_Sh_showLetter_137 : decode cc_Sh_showLetter 137 = .ok (.invokevirtual 67, 3) := by decide +kernel
theorem d_Sh_showLetter_140 : decode cc_Sh_showLetter 140 = .ok (.goto 106, 3) := by decide +kernel
theorem d_Sh_showLetter_143 : decode cc_Sh_showLetter 143 = .ok (.aload_n 0, 1) := by decide +kernel
theorem d_Sh_showLetter_144 : decode cc_Sh_showLetter 144 = .ok (.getfield 9, 3) := by decide +kernel
theorem d_Sh_showLetter_147 : decode cc_Sh_showLetter 147 = .ok (.aload_n 0, 1) := by decide +kernel
theorem d_Sh_showLetter_148 : decode cc_Sh_showLetter 148 = .ok (.getfield 15, 3) := by decide +kernel
theorem d_Sh_showLetter_151 : decode cc_Sh_showLetter 151 = .ok (.dup2, 1) := by decide +kernel
theorem d_Sh_showLetter_152 : decode cc_Sh_showLetter 152 = .ok (.iaload, 1) := by decide +kernel
theorem d_Sh_showLetter_153 : decode cc_Sh_showLetter 153 = .ok (.iconst 1, 1) := by decide +kernel
theorem d_Sh_showLetter_154 : decode cc_Sh_showLetter 154 = .ok (.iadd, 1) := by decide +kernel
theorem d_Sh_showLetter_155 : decode cc_Sh_showLetter 155 = .ok (.iastore, 1) := by decide +kernel
theorem d_Sh_showLetter_156 : decode cc_Sh_showLetter 156 = .ok (.goto 90, 3) := by decide +kernel
theorem d_Sh_showLetter_159 : decode cc_Sh_showLetter 159 = .ok (.aload 4, 2) := by decide +kernel
theorem d_Sh_showLetter_161 : decode cc_Sh_showLetter 161 = .ok (.bipush 46, 2) := by decide +kernel
theorem d_Sh_showLetter_163 : decode cc_Sh_showLetter 163 = .ok (.invokevirtual 54, 3) := by decide +kernel
theorem d_Sh_showLetter_166 : decode cc_Sh_showLetter 166 = .ok (.goto 80, 3) := by decide +kernel
theorem d_Sh_showLetter_169 : decode cc_Sh_showLetter 169 = .ok (.aload 4, 2) := by decide +kernel
theorem d_Sh_showLetter_171 : decode cc_Sh_showLetter 171 = .ok (.bipush 63, 2) := by decide +kernel
theorem d_Sh_showLetter_173 : decode cc_Sh_showLetter 173 = .ok (.invokevirtual 54, 3) := by decide +kernel
theorem d_Sh_showLetter_176 : decode cc_Sh_showLetter 176 = .ok (.goto 70, 3) := by decide +kernel
theorem d_Sh_showLetter_179 : decode cc_Sh_showLetter 179 = .ok (.aload 4, 2) := by decide +kernel
theorem d_Sh_showLetter_181 : decode cc_Sh_showLetter 181 = .ok (.bipush 63, 2) := by decide +kernel
theorem d_Sh_showLetter_183 : decode cc_Sh_showLetter 183 = .ok (.invokevirtual 54, 3) := by decide +kernel
theorem d_Sh_showLetter_186 : decode cc_Sh_showLetter 186 = .ok (.aload 4, 2) := by decide +kernel
theorem d_Sh_showLetter_188 : decode cc_Sh_showLetter 188 = .ok (.iload 5, 2) := by decide +kernel
theorem d_Sh_showLetter_190 : decode cc_Sh_showLetter 190 = .ok (.invokevirtual 54, 3) := by decide +kernel
theorem d_Sh_showLetter_193 : decode cc_Sh_showLetter 193 = .ok (.goto 53, 3) := by decide +kernel
theorem d_Sh_showLetter_196 : decode cc_Sh_showLetter 196 = .ok (.aload_n 1, 1) := by decide +kernel
theorem d_Sh_showLetter_197 : decode cc_Sh_showLetter 197 = .ok (.iload_n 2, 1) := by decide +kernel
theorem d_Sh_showLetter_198 : decode cc_Sh_showLetter 198 = .ok (.iload_n 3, 1) := by decide +kernel
theorem d_Sh_showLetter_199 : decode cc_Sh_showLetter 199 = .ok (.aload 4, 2) := by decide +kernel
theorem d_Sh_showLetter_201 : decode cc_Sh_showLetter 201 = .ok (.invokestatic 79, 3) := by decide +kernel
theorem d_Sh_showLetter_204 : decode cc_Sh_showLetter 204 = .ok (.goto 42, 3) := by decide +kernel
theorem d_Sh_showLetter_207 : decode cc_Sh_showLetter 207 = .ok (.aload 4, 2) := by decide +kernel
theorem d_Sh_showLetter_209 : decode cc_Sh_showLetter 209 = .ok (.aload_n 0, 1) := by decide +kernel
theorem d_Sh_showLetter_210 : decode cc_Sh_showLetter 210 = .ok (.getfield 23, 3) := by decide +kernel
theorem d_Sh_showLetter_213 : decode cc_Sh_showLetter 213 = .ok (.ifCond .eq 8, 3) := by decide +kernel
theorem d_Sh_showLetter_216 : decode cc_Sh_showLetter 216 = .ok (.bipush 44, 2) := by decide +kernel
theorem d_Sh_showLetter_218 : decode cc_Sh_showLetter 218 = .ok (.goto 5, 3) := by decide +kernel
theorem d_Sh_showLetter_221 : decode cc_Sh_showLetter 221 = .ok (.bipush 94, 2) := by decide +kernel
theorem d_Sh_showLetter_223 : decode cc_Sh_showLetter 223 = .ok (.invokevirtual 54, 3) := by decide +kernel
theorem d_Sh_showLetter_226 : decode cc_Sh_showLetter 226 = .ok (.aload_n 0, 1) := by decide +kernel
theorem d_Sh_showLetter_227 : decode cc_Sh_showLetter 227 = .ok (.iconst 1, 1) := by decide +kernel
theorem d_Sh_showLetter_228 : decode cc_Sh_showLetter 228 = .ok (.putfield 23, 3) := by decide +kernel
theorem d_Sh_showLetter_231 : decode cc_Sh_showLetter 231 = .ok (.goto 15, 3) := by decide +kernel
theorem d_Sh_showLetter_234 : decode cc_Sh_showLetter 234 = .ok (.aload_n 0, 1) := by decide +kernel
theorem d_Sh_showLetter_235 : decode cc_Sh_showLetter 235 = .ok (.iload_n 3, 1) := by decide +kernel
theorem d_Sh_showLetter_236 : decode cc_Sh_showLetter 236 = .ok (.invokevirtual 82, 3) := by decide +kernel
theorem d_Sh_showLetter_239 : decode cc_Sh_showLetter 239 = .ok (.aload 4, 2) := by decide +kernel
theorem d_Sh_showLetter_241 : decode cc_Sh_showLetter 241 = .ok (.iload 5, 2) := by decide +kernel
theorem d_Sh_showLetter_243 : decode cc_Sh_showLetter 243 = .ok (.invokevirtual 54, 3) := by decide +kernel
theorem d_Sh_showLetter_246 : decode cc_Sh_showLetter 246 = .ok (.return_, 1) := by decide +kernel
theorem d_Sh_show_0 : decode cc_Sh_show 0 = .ok (.aload_n 0, 1) := by decide +kernel
theorem d_Sh_show_1 : decode cc_Sh_show 1 = .ok (.iconst 0, 1) := by decide +kernel
theorem d_Sh_show_2 : decode cc_Sh_show 2 = .ok (.putfield 15, 3) := by decide +kernel
theorem d_Sh_show_5 : decode cc_Sh_show 5 = .ok (.aload_n 0, 1) := by decide +kernel
theorem d_Sh_show_6 : decode cc_Sh_show 6 = .ok (.getfield 9, 3) := by decide +kernel
theorem d_Sh_show_9 : decode cc_Sh_show 9 = .ok (.iconst 0, 1) := by decide +kernel
theorem d_Sh_show_10 : decode cc_Sh_show 10 = .ok (.iconst 0, 1) := by decide +kernel
theorem d_Sh_show_11 : decode cc_Sh_show 11 = .ok (.iastore, 1) := by decide +kernel
theorem d_Sh_show_12 : decode cc_Sh_show 12 = .ok (.aload_n 0, 1) := by decide +kernel
theorem d_Sh_show_13 : decode cc_Sh_show 13 = .ok (.iconst 0, 1) := by decide +kernel
theorem d_Sh_show_14 : decode cc_Sh_show 14 = .ok (.putfield 19, 3) := by decide +kernel
theorem d_Sh_show_17 : decode cc_Sh_show 17 = .ok (.aload_n 0, 1) := by decide +kernel
theorem d_Sh_show_18 : decode cc_Sh_show 18 = .ok (.iconst 0, 1) := by decide +kernel
theorem d_Sh_show_19 : decode cc_Sh_show 19 = .ok (.putfield 23, 3) := by decide +kernel
theorem d_Sh_show_22 : decode cc_Sh_show 22 = .ok (.iconst 0, 1) := by decide +kernel
theorem d_Sh_show_23 : decode cc_Sh_show 23 = .ok (.istore_n 3, 1) := by decide +kernel
theorem d_Sh_show_24 : decode cc_Sh_show 24 = .ok (.iload_n 3, 1) := by decide +kernel
theorem d_Sh_show_25 : decode cc_Sh_show 25 = .ok (.aload_n 1, 1) := by decide +kernel
theorem d_Sh_show_26 : decode cc_Sh_show 26 = .ok (.getfield 26, 3) := by decide +kernel
theorem d_Sh_show_29 : decode cc_Sh_show 29 = .ok (.arraylength, 1) := by decide +kernel
theorem d_Sh_show_30 : decode cc_Sh_show 30 = .ok (.if_icmp .ge 34, 3) := by decide +kernel
theorem d_Sh_show_33 : decode cc_Sh_show 33 = .ok (.aload_n 1, 1) := by decide +kernel
theorem d_Sh_show_34 : decode cc_Sh_show 34 = .ok (.iload_n 3, 1) := by decide +kernel
theorem d_Sh_show_35 : decode cc_Sh_show 35 = .ok (.invokevirtual 32, 3) := by decide +kernel
theorem d_Sh_show_38 : decode cc_Sh_show 38 = .ok (.istore 4, 2) := by decide +kernel
theorem d_Sh_show_40 : decode cc_Sh_show 40 = .ok (.aload_n 0, 1) := by decide +kernel
theorem d_Sh_show_41 : decode cc_Sh_show 41 = .ok (.aload_n 1, 1) := by decide +kernel
theorem d_Sh_show_42 : decode cc_Sh_show 42 = .ok (.iload_n 3, 1) := by decide +kernel
theorem d_Sh_show_43 : decode cc_Sh_show 43 = .ok (.iload 4, 2) := by decide +kernel
theorem d_Sh_show_45 : decode cc_Sh_show 45 = .ok (.aload_n 2, 1) := by decide +kernel
theorem d_Sh_show_46 : decode cc_Sh_show 46 = .ok (.invokevirtual 36, 3) := by decide +kernel
theorem d_Sh_show_49 : decode cc_Sh_show 49 = .ok (.aload_n 0, 1) := by decide +kernel
theorem d_Sh_show_50 : decode cc_Sh_show 50 = .ok (.aload_n 1, 1) := by decide +kernel
theorem d_Sh_show_51 : decode cc_Sh_show 51 = .ok (.iload_n 3, 1) := by decide +kernel
theorem d_Sh_show_52 : decode cc_Sh_show 52 = .ok (.iload 4, 2) := by decide +kernel
theorem d_Sh_show_54 : decode cc_Sh_show 54 = .ok (.aload_n 2, 1) := by decide +kernel
theorem d_Sh_show_55 : decode cc_Sh_show 55 = .ok (.invokevirtual 40, 3) := by decide +kernel
theorem d_Sh_show_58 : decode cc_Sh_show 58 = .ok (.iinc 3 1, 3) := by decide +kernel
theorem d_Sh_show_61 : decode cc_Sh_show 61 = .ok (.goto (-37), 3) := by decide +kernel
theorem d_Sh_show_64 : decode cc_Sh_show 64 = .ok (.return_, 1) := by decide +kernel
theorem d_Sh_init_0 : decode cc_Sh_init 0 = .ok (.aload_n 0, 1) := by decide +kernel
theorem d_Sh_init_1 : decode cc_Sh_init 1 = .ok (.invokespecial 3, 3) := by decide +kernel
theorem d_Sh_init_4 : decode cc_Sh_init 4 = .ok (.aload_n 0, 1) := by decide +kernel
theorem d_Sh_init_5 : decode cc_Sh_init 5 = .ok (.bipush 120, 2) := by decide +kernel
theorem d_Sh_init_7 : decode cc_Sh_init 7 = .ok (.newarray .int, 2) := by decide +kernel
theorem d_Sh_init_9 : decode cc_Sh_init 9 = .ok (.putfield 9, 3) := by decide +kernel
theorem d_Sh_init_12 : decode cc_Sh_init 12 = .ok (.return_, 1) := by decide +kernel
theorem d_Er_eraseBrackets_0 : decode cc_Er_eraseBrackets 0 = .ok (.iload_n 2, 1) := by decide +kernel
theorem d_Er_eraseBrackets_1 : decode cc_Er_eraseBrackets 1 = .ok (.istore_n 3, 1) := by decide +kernel
theorem d_Er_eraseBrackets_2 : decode cc_Er_eraseBrackets 2 = .ok (.iload_n 3, 1) := by decide +kernel
theorem d_Er_eraseBrackets_3 : decode cc_Er_eraseBrackets 3 = .ok (.aload_n 1, 1) := by decide +kernel
theorem d_Er_eraseBrackets_4 : decode cc_Er_eraseBrackets 4 = .ok (.getfield 50, 3) := by decide +kernel
theorem d_Er_eraseBrackets_7 : decode cc_Er_eraseBrackets 7 = .ok (.arraylength, 1) := by decide +kernel
theorem d_Er_eraseBrackets_8 : decode cc_Er_eraseBrackets 8 = .ok (.if_icmp .ge 29, 3) := by decide +kernel
theorem d_Er_eraseBrackets_11 : decode cc_Er_eraseBrackets 11 = .ok (.aload_n 1, 1) := by decide +kernel
theorem d_Er_eraseBrackets_12 : decode cc_Er_eraseBrackets 12 = .ok (.iload_n 3, 1) := by decide +kernel
theorem d_Er_eraseBrackets_13 : decode cc_Er_eraseBrackets 13 = .ok (.invokevirtual 28, 3) := by decide +kernel
theorem d_Er_eraseBrackets_16 : decode cc_Er_eraseBrackets 16 = .ok (.bipush 19, 2) := by decide +kernel
theorem d_Er_eraseBrackets_18 : decode cc_Er_eraseBrackets 18 = .ok (.if_icmp .ne 19, 3) := by decide +kernel
theorem d_Er_eraseBrackets_21 : decode cc_Er_eraseBrackets 21 = .ok (.aload_n 0, 1) := by decide +kernel
theorem d_Er_eraseBrackets_22 : decode cc_Er_eraseBrackets 22 = .ok (.getfield 14, 3) := by decide +kernel
theorem d_Er_eraseBrackets_25 : decode cc_Er_eraseBrackets 25 = .ok (.bipush 91, 2) := by decide +kernel
theorem d_Er_eraseBrackets_27 : decode cc_Er_eraseBrackets 27 = .ok (.invokevirtual 54, 3) := by decide +kernel
theorem d_Er_eraseBrackets_30 : decode cc_Er_eraseBrackets 30 = .ok (.pop, 1) := by decide +kernel
theorem d_Er_eraseBrackets_31 : decode cc_Er_eraseBrackets 31 = .ok (.iinc 3 1, 3) := by decide +kernel
theorem d_Er_eraseBrackets_34 : decode cc_Er_eraseBrackets 34 = .ok (.goto (-32), 3) := by decide +kernel
theorem d_Er_eraseBrackets_37 : decode cc_Er_eraseBrackets 37 = .ok (.iload_n 3, 1) := by decide +kernel
theorem d_Er_eraseBrackets_38 : decode cc_Er_eraseBrackets 38 = .ok (.ireturn, 1) := by decide +kernel
theorem d_Er_eraseNamed_0 : decode cc_Er_eraseNamed 0 = .ok (.aload_n 1, 1) := by decide +kernel
theorem d_Er_eraseNamed_1 : decode cc_Er_eraseNamed 1 = .ok (.iload_n 2, 1) := by decide +kernel
theorem d_Er_eraseNamed_2 : decode cc_Er_eraseNamed 2 = .ok (.invokevirtual 58, 3) := by decide +kernel
theorem d_Er_eraseNamed_5 : decode cc_Er_eraseNamed 5 = .ok (.istore_n 3, 1) := by decide +kernel
theorem d_Er_eraseNamed_6 : decode cc_Er_eraseNamed 6 = .ok (.iconst 0, 1) := by decide +kernel
theorem d_Er_eraseNamed_7 : decode cc_Er_eraseNamed 7 = .ok (.istore 4, 2) := by decide +kernel
theorem d_Er_eraseNamed_9 : decode cc_Er_eraseNamed 9 = .ok (.iload_n 2, 1) := by decide +kernel
theorem d_Er_eraseNamed_10 : decode cc_Er_eraseNamed 10 = .ok (.istore 5, 2) := by decide +kernel
theorem d_Er_eraseNamed_12 : decode cc_Er_eraseNamed 12 = .ok (.iload 5, 2) := by decide +kernel
theorem d_Er_eraseNamed_14 : decode cc_Er_eraseNamed 14 = .ok (.iload_n 3, 1) := by decide +kernel
theorem d_Er_eraseNamed_15 : decode cc_Er_eraseNamed 15 = .ok (.if_icmp .ge 74, 3) := by decide +kernel
theorem d_Er_eraseNamed_18 : decode cc_Er_eraseNamed 18 = .ok (.aload_n 1, 1) := by decide +kernel
theorem d_Er_eraseNamed_19 : decode cc_Er_eraseNamed 19 = .ok (.iload 5, 2) := by decide +kernel
theorem d_Er_eraseNamed_21 : decode cc_Er_eraseNamed 21 = .ok (.invokevirtual 28, 3) := by decide +kernel
theorem d_Er_eraseNamed_24 : decode cc_Er_eraseNamed 24 = .ok (.istore 6, 2) := by decide +kernel
theorem d_Er_eraseNamed_26 : decode cc_Er_eraseNamed 26 = .ok (.iload 6, 2) := by decide +kernel
theorem d_Er_eraseNamed_28 : decode cc_Er_eraseNamed 28 = .ok (.bipush 15, 2) := by decide +kernel
theorem d_Er_eraseNamed_30 : decode cc_Er_eraseNamed 30 = .ok (.if_icmp .ne 9, 3) := by decide +kernel
theorem d_Er_eraseNamed_33 : decode cc_Er_eraseNamed 33 = .ok (.iinc 4 1, 3) := by decide +kernel
theorem d_Er_eraseNamed_36 : decode cc_Er_eraseNamed 36 = .ok (.goto 47, 3) := by decide +kernel
theorem d_Er_eraseNamed_39 : decode cc_Er_eraseNamed 39 = .ok (.iload 6, 2) := by decide +kernel
theorem d_Er_eraseNamed_41 : decode cc_Er_eraseNamed 41 = .ok (.bipush 16, 2) := by decide +kernel
theorem d_Er_eraseNamed_43 : decode cc_Er_eraseNamed 43 = .ok (.if_icmp .ne 9, 3) := by decide +kernel
theorem d_Er_eraseNamed_46 : decode cc_Er_eraseNamed 46 = .ok (.iinc 4 (-1), 3) := by decide +kernel
theorem d_Er_eraseNamed_49 : decode cc_Er_eraseNamed 49 = .ok (.goto 34, 3) := by decide +kernel
theorem d_Er_eraseNamed_52 : decode cc_Er_eraseNamed 52 = .ok (.iload 4, 2) := by decide +kernel
theorem d_Er_eraseNamed_54 : decode cc_Er_eraseNamed 54 = .ok (.ifCond .ne 29, 3) := by decide +kernel
theorem d_Er_eraseNamed_57 : decode cc_Er_eraseNamed 57 = .ok (.aload_n 0, 1) := by decide +kernel
theorem d_Er_eraseNamed_58 : decode cc_Er_eraseNamed 58 = .ok (.getfield 14, 3) := by decide +kernel
theorem d_Er_eraseNamed_61 : decode cc_Er_eraseNamed 61 = .ok (.iload 6, 2) := by decide +kernel
theorem d_Er_eraseNamed_63 : decode cc_Er_eraseNamed 63 = .ok (.bipush 12, 2) := by decide +kernel
theorem d_Er_eraseNamed_65 : decode cc_Er_eraseNamed 65 = .ok (.if_icmp .ne 8, 3) := by decide +kernel
theorem d_Er_eraseNamed_68 : decode cc_Er_eraseNamed 68 = .ok (.bipush 36, 2) := by decide +kernel
theorem d_Er_eraseNamed_70 : decode cc_Er_eraseNamed 70 = .ok (.goto 9, 3) := by decide +kernel
theorem d_Er_eraseNamed_73 : decode cc_Er_eraseNamed 73 = .ok (.aload_n 1, 1) := by decide +kernel
theorem d_Er_eraseNamed_74 : decode cc_Er_eraseNamed 74 = .ok (.iload 5, 2) := by decide +kernel
theorem d_Er_eraseNamed_76 : decode cc_Er_eraseNamed 76 = .ok (.invokevirtual 61, 3) := by decide +kernel
theorem d_Er_eraseNamed_79 : decode cc_Er_eraseNamed 79 = .ok (.invokevirtual 54, 3) := by decide +kernel
theorem d_Er_eraseNamed_82 : decode cc_Er_eraseNamed 82 = .ok (.pop, 1) := by decide +kernel
theorem d_Er_eraseNamed_83 : decode cc_Er_eraseNamed 83 = .ok (.iinc 5 1, 3) := by decide +kernel
theorem d_Er_eraseNamed_86 : decode cc_Er_eraseNamed 86 = .ok (.goto (-74), 3) := by decide +kernel
theorem d_Er_eraseNamed_89 : decode cc_Er_eraseNamed 89 = .ok (.return_, 1) := by decide +kernel
theorem d_Er_erase_0 : decode cc_Er_erase 0 = .ok (.aload_n 0, 1) := by decide +kernel
theorem d_Er_erase_1 : decode cc_Er_erase 1 = .ok (.getfield 14, 3) := by decide +kernel
theorem d_Er_erase_4 : decode cc_Er_erase 4 = .ok (.iconst 0, 1) := by decide +kernel
theorem d_Er_erase_5 : decode cc_Er_erase 5 = .ok (.putfield 20, 3) := by decide +kernel
theorem d_Er_erase_8 : decode cc_Er_erase 8 = .ok (.aload_n 1, 1) := by decide +kernel
theorem d_Er_erase_9 : decode cc_Er_erase 9 = .ok (.astore 4, 2) := by decide +kernel
theorem d_Er_erase_11 : decode cc_Er_erase 11 = .ok (.aload_n 2, 1) := by decide +kernel
theorem d_Er_erase_12 : decode cc_Er_erase 12 = .ok (.astore 5, 2) := by decide +kernel
theorem d_Er_erase_14 : decode cc_Er_erase 14 = .ok (.iload_n 3, 1) := by decide +kernel
theorem d_Er_erase_15 : decode cc_Er_erase 15 = .ok (.istore 6, 2) := by decide +kernel
theorem d_Er_erase_17 : decode cc_Er_erase 17 = .ok (.lconst 0, 1) := by decide +kernel
theorem d_Er_erase_18 : decode cc_Er_erase 18 = .ok (.lstore 7, 2) := by decide +kernel
theorem d_Er_erase_20 : decode cc_Er_erase 20 = .ok (.iconst 0, 1) := by decide +kernel
theorem d_Er_erase_21 : decode cc_Er_erase 21 = .ok (.istore 9, 2) := by decide +kernel
theorem d_Er_erase_23 : decode cc_Er_erase 23 = .ok (.iload 9, 2) := by decide +kernel
theorem d_Er_erase_25 : decode cc_Er_erase 25 = .ok (.sipush 240, 3) := by decide +kernel
theorem d_Er_erase_28 : decode cc_Er_erase 28 = .ok (.if_icmp .gt 147, 3) := by decide +kernel
theorem d_Er_erase_31 : decode cc_Er_erase 31 = .ok (.aload_n 0, 1) := by decide +kernel
theorem d_Er_erase_32 : decode cc_Er_erase 32 = .ok (.aload 4, 2) := by decide +kernel
theorem d_Er_erase_34 : decode cc_Er_erase 34 = .ok (.iload 6, 2) := by decide +kernel
theorem d_Er_erase_36 : decode cc_Er_erase 36 = .ok (.invokevirtual 24, 3) := by decide +kernel
theorem d_Er_erase_39 : decode cc_Er_erase 39 = .ok (.istore 6, 2) := by decide +kernel
theorem d_Er_erase_41 : decode cc_Er_erase 41 = .ok (.aload 4, 2) := by decide +kernel
theorem d_Er_erase_43 : decode cc_Er_erase 43 = .ok (.iload 6, 2) := by decide +kernel
theorem d_Er_erase_45 : decode cc_Er_erase 45 = .ok (.invokevirtual 28, 3) := by decide +kernel
theorem d_Er_erase_48 : decode cc_Er_erase 48 = .ok (.bipush 6, 2) := by decide +kernel
theorem d_Er_erase_50 : decode cc_Er_erase 50 = .ok (.if_icmp .eq 12, 3) := by decide +kernel
theorem d_Er_erase_53 : decode cc_Er_erase 53 = .ok (.aload_n 0, 1) := by decide +kernel
theorem d_Er_erase_54 : decode cc_Er_erase 54 = .ok (.aload 4, 2) := by decide +kernel
theorem d_Er_erase_56 : decode cc_Er_erase 56 = .ok (.iload 6, 2) := by decide +kernel
theorem d_Er_erase_58 : decode cc_Er_erase 58 = .ok (.invokevirtual 34, 3) := by decide +kernel
theorem d_Er_erase_61 : decode cc_Er_erase 61 = .ok (.return_, 1) := by decide +kernel
theorem d_Er_erase_62 : decode cc_Er_erase 62 = .ok (.aload 4, 2) := by decide +kernel
theorem d_Er_erase_64 : decode cc_Er_erase 64 = .ok (.aload 4, 2) := by decide +kernel
theorem d_Er_erase_66 : decode cc_Er_erase 66 = .ok (.iload 6, 2) := by decide +kernel
theorem d_Er_erase_68 : decode cc_Er_erase 68 = .ok (.iconst 1, 1) := by decide +kernel
theorem d_Er_erase_69 : decode cc_Er_erase 69 = .ok (.iadd, 1) := by decide +kernel
theorem d_Er_erase_70 : decode cc_Er_erase 70 = .ok (.invokevirtual 38, 3) := by decide +kernel
theorem d_Er_erase_73 : decode cc_Er_erase 73 = .ok (.istore 10, 2) := by decide +kernel
theorem d_Er_erase_75 : decode cc_Er_erase 75 = .ok (.iload 10, 2) := by decide +kernel
theorem d_Er_erase_77 : decode cc_Er_erase 77 = .ok (.iconst (-1), 1) := by decide +kernel
theorem d_Er_erase_78 : decode cc_Er_erase 78 = .ok (.if_icmp .ne 31, 3) := by decide +kernel
theorem d_Er_erase_81 : decode cc_Er_erase 81 = .ok (.aload 5, 2) := by decide +kernel
theorem d_Er_erase_83 : decode cc_Er_erase 83 = .ok (.ifnull 26, 3) := by decide +kernel
theorem d_Er_erase_86 : decode cc_Er_erase 86 = .ok (.aload 5, 2) := by decide +kernel
theorem d_Er_erase_88 : decode cc_Er_erase 88 = .ok (.aload 4, 2) := by decide +kernel
theorem d_Er_erase_90 : decode cc_Er_erase 90 = .ok (.iload 6, 2) := by decide +kernel
theorem d_Er_erase_92 : decode cc_Er_erase 92 = .ok (.iconst 1, 1) := by decide +kernel
theorem d_Er_erase_93 : decode cc_Er_erase 93 = .ok (.iadd, 1) := by decide +kernel
theorem d_Er_erase_94 : decode cc_Er_erase 94 = .ok (.invokevirtual 38, 3) := by decide +kernel
theorem d_Er_erase_97 : decode cc_Er_erase 97 = .ok (.istore 10, 2) := by decide +kernel
theorem d_Er_erase_99 : decode cc_Er_erase 99 = .ok (.aload 5, 2) := by decide +kernel
theorem d_Er_erase_101 : decode cc_Er_erase 101 = .ok (.astore 4, 2) := by decide +kernel
theorem d_Er_erase_103 : decode cc_Er_erase 103 = .ok (.aconst_null, 1) := by decide +kernel
theorem d_Er_erase_104 : decode cc_Er_erase 104 = .ok (.astore 5, 2) := by decide +kernel
theorem d_Er_erase_106 : decode cc_Er_erase 106 = .ok (.lconst 0, 1) := by decide +kernel
theorem d_Er_erase_107 : decode cc_Er_erase 107 = .ok (.lstore 7, 2) := by decide +kernel
theorem d_Er_erase_109 : decode cc_Er_erase 109 = .ok (.iload 10, 2) := by decide +kernel
theorem d_Er_erase_111 : decode cc_Er_erase 111 = .ok (.iconst (-1), 1) := by decide +kernel
theorem d_Er_erase_112 : decode cc_Er_erase 112 = .ok (.if_icmp .ne 7, 3) := by decide +kernel
theorem d_Er_erase_115 : decode cc_Er_erase 115 = .ok (.iconst (-1), 1) := by decide +kernel
theorem d_Er_erase_116 : decode cc_Er_erase 116 = .ok (.goto 10, 3) := by decide +kernel
theorem d_Er_erase_119 : decode cc_Er_erase 119 = .ok (.aload 4, 2) := by decide +kernel
theorem d_Er_erase_121 : decode cc_Er_erase 121 = .ok (.iload 10, 2) := by decide +kernel
theorem d_Er_erase_123 : decode cc_Er_erase 123 = .ok (.invokevirtual 41, 3) := by decide +kernel
theorem d_Er_erase_126 : decode cc_Er_erase 126 = .ok (.istore 11, 2) := by decide +kernel
theorem d_Er_erase_128 : decode cc_Er_erase 128 = .ok (.iload 11, 2) := by decide +kernel
theorem d_Er_erase_130 : decode cc_Er_erase 130 = .ok (.iconst (-1), 1) := by decide +kernel
theorem d_Er_erase_131 : decode cc_Er_erase 131 = .ok (.if_icmp .eq 15, 3) := by decide +kernel
theorem d_Er_erase_134 : decode cc_Er_erase 134 = .ok (.lload 7, 2) := by decide +kernel
theorem d_Er_erase_136 : decode cc_Er_erase 136 = .ok (.iload 10, 2) := by decide +kernel
theorem d_Er_erase_138 : decode cc_Er_erase 138 = .ok (.lshr, 1) := by decide +kernel
theorem d_Er_erase_139 : decode cc_Er_erase 139 = .ok (.lconst 1, 1) := by decide +kernel
theorem d_Er_erase_140 : decode cc_Er_erase 140 = .ok (.land, 1) := by decide +kernel
theorem d_Er_erase_141 : decode cc_Er_erase 141 = .ok (.lconst 0, 1) := by decide +kernel
theorem d_Er_erase_142 : decode cc_Er_erase 142 = .ok (.lcmp, 1) := by decide +kernel
theorem d_Er_erase_143 : decode cc_Er_erase 143 = .ok (.ifCond .eq 13, 3) := by decide +kernel
theorem d_Er_erase_146 : decode cc_Er_erase 146 = .ok (.aload_n 0, 1) := by decide +kernel
theorem d_Er_erase_147 : decode cc_Er_erase 147 = .ok (.getfield 14, 3) := by decide +kernel
theorem d_Er_erase_150 : decode cc_Er_erase 150 = .ok (.ldc 44, 2) := by decide +kernel
theorem d_Er_erase_152 : decode cc_Er_erase 152 = .ok (.invokevirtual 46, 3) := by decide +kernel
theorem d_Er_erase_155 : decode cc_Er_erase 155 = .ok (.return_, 1) := by decide +kernel
theorem d_Er_erase_156 : decode cc_Er_erase 156 = .ok (.lload 7, 2) := by decide +kernel
theorem d_Er_erase_158 : decode cc_Er_erase 158 = .ok (.lconst 1, 1) := by decide +kernel
theorem d_Er_erase_159 : decode cc_Er_erase 159 = .ok (.iload 10, 2) := by decide +kernel
theorem d_Er_erase_161 : decode cc_Er_erase 161 = .ok (.lshl, 1) := by decide +kernel
theorem d_Er_erase_162 : decode cc_Er_erase 162 = .ok (.lor, 1) := by decide +kernel
theorem d_Er_erase_163 : decode cc_Er_erase 163 = .ok (.lstore 7, 2) := by decide +kernel
theorem d_Er_erase_165 : decode cc_Er_erase 165 = .ok (.iload 11, 2) := by decide +kernel
theorem d_Er_erase_167 : decode cc_Er_erase 167 = .ok (.istore 6, 2) := by decide +kernel
theorem d_Er_erase_169 : decode cc_Er_erase 169 = .ok (.iinc 9 1, 3) := by decide +kernel
theorem d_Er_erase_172 : decode cc_Er_erase 172 = .ok (.goto (-149), 3) := by decide +kernel
theorem d_Er_erase_175 : decode cc_Er_erase 175 = .ok (.return_, 1) := by decide +kernel
theorem d_Er_init_0 : decode cc_Er_init 0 = .ok (.aload_n 0, 1) := by decide +kernel
theorem d_Er_init_1 : decode cc_Er_init 1 = .ok (.invokespecial 3, 3) := by decide +kernel
theorem d_Er_init_4 : decode cc_Er_init 4 = .ok (.aload_n 0, 1) := by decide +kernel
theorem d_Er_init_5 : decode cc_Er_init 5 = .ok (.new 9, 3) := by decide +kernel
theorem d_Er_init_8 : decode cc_Er_init 8 = .ok (.dup, 1) := by decide +kernel
theorem d_Er_init_9 : decode cc_Er_init 9 = .ok (.sipush 260, 3) := by decide +kernel
theorem d_Er_init_12 : decode cc_Er_init 12 = .ok (.invokespecial 11, 3) := by decide +kernel
theorem d_Er_init_15 : decode cc_Er_init 15 = .ok (.putfield 14, 3) := by decide +kernel
theorem d_Er_init_18 : decode cc_Er_init 18 = .ok (.return_, 1) := by decide +kernel
theorem d_Fo_find_0 : decode cc_Fo_find 0 = .ok (.iload_n 1, 1) := by decide +kernel
theorem d_Fo_find_1 : decode cc_Fo_find 1 = .ok (.ifCond .lt 20, 3) := by decide +kernel
theorem d_Fo_find_4 : decode cc_Fo_find 4 = .ok (.iload_n 1, 1) := by decide +kernel
theorem d_Fo_find_5 : decode cc_Fo_find 5 = .ok (.aload_n 0, 1) := by decide +kernel
theorem d_Fo_find_6 : decode cc_Fo_find 6 = .ok (.getfield 130, 3) := by decide +kernel
theorem d_Fo_find_9 : decode cc_Fo_find 9 = .ok (.if_icmp .ge 12, 3) := by decide +kernel
theorem d_Fo_find_12 : decode cc_Fo_find 12 = .ok (.aload_n 0, 1) := by decide +kernel
theorem d_Fo_find_13 : decode cc_Fo_find 13 = .ok (.getfield 54, 3) := by decide +kernel
theorem d_Fo_find_16 : decode cc_Fo_find 16 = .ok (.iload_n 1, 1) := by decide +kernel
theorem d_Fo_find_17 : decode cc_Fo_find 17 = .ok (.aaload, 1) := by decide +kernel
theorem d_Fo_find_18 : decode cc_Fo_find 18 = .ok (.goto 4, 3) := by decide +kernel
theorem d_Fo_find_21 : decode cc_Fo_find 21 = .ok (.aconst_null, 1) := by decide +kernel
theorem d_Fo_find_22 : decode cc_Fo_find 22 = .ok (.areturn, 1) := by decide +kernel
theorem d_Fo_passErased_0 : decode cc_Fo_passErased 0 = .ok (.aload_n 0, 1) := by decide +kernel
theorem d_Fo_passErased_1 : decode cc_Fo_passErased 1 = .ok (.aload_n 1, 1) := by decide +kernel
theorem d_Fo_passErased_2 : decode cc_Fo_passErased 2 = .ok (.getfield 80, 3) := by decide +kernel
theorem d_Fo_passErased_5 : decode cc_Fo_passErased 5 = .ok (.invokevirtual 73, 3) := by decide +kernel
theorem d_Fo_passErased_8 : decode cc_Fo_passErased 8 = .ok (.astore_n 2, 1) := by decide +kernel
theorem d_Fo_passErased_9 : decode cc_Fo_passErased 9 = .ok (.aload_n 1, 1) := by decide +kernel
theorem d_Fo_passErased_10 : decode cc_Fo_passErased 10 = .ok (.getfield 155, 3) := by decide +kernel
theorem d_Fo_passErased_13 : decode cc_Fo_passErased 13 = .ok (.istore_n 3, 1) := by decide +kernel
theorem d_Fo_passErased_14 : decode cc_Fo_passErased 14 = .ok (.iload_n 3, 1) := by decide +kernel
theorem d_Fo_passErased_15 : decode cc_Fo_passErased 15 = .ok (.istore 4, 2) := by decide +kernel
theorem d_Fo_passErased_17 : decode cc_Fo_passErased 17 = .ok (.iload 4, 2) := by decide +kernel
theorem d_Fo_passErased_19 : decode cc_Fo_passErased 19 = .ok (.aload_n 1, 1) := by decide +kernel
theorem d_Fo_passErased_20 : decode cc_Fo_passErased 20 = .ok (.getfield 139, 3) := by decide +kernel
theorem d_Fo_passErased_23 : decode cc_Fo_passErased 23 = .ok (.arraylength, 1) := by decide +kernel
theorem d_Fo_passErased_24 : decode cc_Fo_passErased 24 = .ok (.if_icmp .ge 111, 3) := by decide +kernel
theorem d_Fo_passErased_27 : decode cc_Fo_passErased 27 = .ok (.aload_n 1, 1) := by decide +kernel
theorem d_Fo_passErased_28 : decode cc_Fo_passErased 28 = .ok (.iload 4, 2) := by decide +kernel
theorem d_Fo_passErased_30 : decode cc_Fo_passErased 30 = .ok (.invokevirtual 158, 3) := by decide +kernel
theorem d_Fo_passErased_33 : decode cc_Fo_passErased 33 = .ok (.istore 5, 2) := by decide +kernel
theorem d_Fo_passErased_35 : decode cc_Fo_passErased 35 = .ok (.iload 5, 2) := by decide +kernel
theorem d_Fo_passErased_37 : decode cc_Fo_passErased 37 = .ok (.bipush 24, 2) := by decide +kernel
theorem d_Fo_passErased_39 : decode cc_Fo_passErased 39 = .ok (.if_icmp .ne 4, 3) := by decide +kernel
theorem d_Fo_passErased_42 : decode cc_Fo_passErased 42 = .ok (.return_, 1) := by decide +kernel
theorem d_Fo_passErased_43 : decode cc_Fo_passErased 43 = .ok (.iload 5, 2) := by decide +kernel
theorem d_Fo_passErased_45 : decode cc_Fo_passErased 45 = .ok (.bipush 22, 2) := by decide +kernel
theorem d_Fo_passErased_47 : decode cc_Fo_passErased 47 = .ok (.if_icmp .eq 10, 3) := by decide +kernel
theorem d_Fo_passErased_50 : decode cc_Fo_passErased 50 = .ok (.iload 5, 2) := by decide +kernel
theorem d_Fo_passErased_52 : decode cc_Fo_passErased 52 = .ok (.bipush 23, 2) := by decide +kernel
theorem d_Fo_passErased_54 : decode cc_Fo_passErased 54 = .ok (.if_icmp .ne 24, 3) := by decide +kernel
theorem d_Fo_passErased_57 : decode cc_Fo_passErased 57 = .ok (.aload_n 0, 1) := by decide +kernel
theorem d_Fo_passErased_58 : decode cc_Fo_passErased 58 = .ok (.getfield 31, 3) := by decide +kernel
theorem d_Fo_passErased_61 : decode cc_Fo_passErased 61 = .ok (.aload_n 1, 1) := by decide +kernel
theorem d_Fo_passErased_62 : decode cc_Fo_passErased 62 = .ok (.iload 4, 2) := by decide +kernel
theorem d_Fo_passErased_64 : decode cc_Fo_passErased 64 = .ok (.invokevirtual 161, 3) := by decide +kernel
theorem d_Fo_passErased_67 : decode cc_Fo_passErased 67 = .ok (.invokevirtual 165, 3) := by decide +kernel
theorem d_Fo_passErased_70 : decode cc_Fo_passErased 70 = .ok (.iload 4, 2) := by decide +kernel
theorem d_Fo_passErased_72 : decode cc_Fo_passErased 72 = .ok (.iconst 1, 1) := by decide +kernel
theorem d_Fo_passErased_73 : decode cc_Fo_passErased 73 = .ok (.iadd, 1) := by decide +kernel
theorem d_Fo_passErased_74 : decode cc_Fo_passErased 74 = .ok (.istore_n 3, 1) := by decide +kernel
theorem d_Fo_passErased_75 : decode cc_Fo_passErased 75 = .ok (.goto 54, 3) := by decide +kernel
theorem d_Fo_passErased_78 : decode cc_Fo_passErased 78 = .ok (.iload 4, 2) := by decide +kernel
theorem d_Fo_passErased_80 : decode cc_Fo_passErased 80 = .ok (.iload_n 3, 1) := by decide +kernel
theorem d_Fo_passErased_81 : decode cc_Fo_passErased 81 = .ok (.if_icmp .ne 48, 3) := by decide +kernel
theorem d_Fo_passErased_84 : decode cc_Fo_passErased 84 = .ok (.aload_n 0, 1) := by decide +kernel
theorem d_Fo_passErased_85 : decode cc_Fo_passErased 85 = .ok (.getfield 45, 3) := by decide +kernel
theorem d_Fo_passErased_88 : decode cc_Fo_passErased 88 = .ok (.aload_n 1, 1) := by decide +kernel
theorem d_Fo_passErased_89 : decode cc_Fo_passErased 89 = .ok (.aload_n 2, 1) := by decide +kernel
theorem d_Fo_passErased_90 : decode cc_Fo_passErased 90 = .ok (.iload 4, 2) := by decide +kernel
theorem d_Fo_passErased_92 : decode cc_Fo_passErased 92 = .ok (.invokevirtual 169, 3) := by decide +kernel
theorem d_Fo_passErased_95 : decode cc_Fo_passErased 95 = .ok (.aload_n 0, 1) := by decide +kernel
theorem d_Fo_passErased_96 : decode cc_Fo_passErased 96 = .ok (.getfield 31, 3) := by decide +kernel
theorem d_Fo_passErased_99 : decode cc_Fo_passErased 99 = .ok (.aload_n 0, 1) := by decide +kernel
theorem d_Fo_passErased_100 : decode cc_Fo_passErased 100 = .ok (.getfield 45, 3) := by decide +kernel
theorem d_Fo_passErased_103 : decode cc_Fo_passErased 103 = .ok (.getfield 173, 3) := by decide +kernel
theorem d_Fo_passErased_106 : decode cc_Fo_passErased 106 = .ok (.getfield 176, 3) := by decide +kernel
theorem d_Fo_passErased_109 : decode cc_Fo_passErased 109 = .ok (.aload_n 0, 1) := by decide +kernel
theorem d_Fo_passErased_110 : decode cc_Fo_passErased 110 = .ok (.getfield 45, 3) := by decide +kernel
theorem d_Fo_passErased_113 : decode cc_Fo_passErased 113 = .ok (.getfield 173, 3) := by decide +kernel
theorem d_Fo_passErased_116 : decode cc_Fo_passErased 116 = .ok (.getfield 62, 3) := by decide +kernel
theorem d_Fo_passErased_119 : decode cc_Fo_passErased 119 = .ok (.invokevirtual 143, 3) := by decide +kernel
theorem d_Fo_passErased_122 : decode cc_Fo_passErased 122 = .ok (.aload_n 1, 1) := by decide +kernel
theorem d_Fo_passErased_123 : decode cc_Fo_passErased 123 = .ok (.iload 4, 2) := by decide +kernel
theorem d_Fo_passErased_125 : decode cc_Fo_passErased 125 = .ok (.invokevirtual 177, 3) := by decide +kernel
theorem d_Fo_passErased_128 : decode cc_Fo_passErased 128 = .ok (.istore_n 3, 1) := by decide +kernel
theorem d_Fo_passErased_129 : decode cc_Fo_passErased 129 = .ok (.iinc 4 1, 3) := by decide +kernel
theorem d_Fo_passErased_132 : decode cc_Fo_passErased 132 = .ok (.goto (-115), 3) := by decide +kernel
theorem d_Fo_passErased_135 : decode cc_Fo_passErased 135 = .ok (.return_, 1) := by decide +kernel
theorem d_Fo_seek_0 : decode cc_Fo_seek 0 = .ok (.aload_n 0, 1) := by decide +kernel
theorem d_Fo_seek_1 : decode cc_Fo_seek 1 = .ok (.getfield 31, 3) := by decide +kernel
theorem d_Fo_seek_4 : decode cc_Fo_seek 4 = .ok (.iload_n 3, 1) := by decide +kernel
theorem d_Fo_seek_5 : decode cc_Fo_seek 5 = .ok (.invokevirtual 136, 3) := by decide +kernel
theorem d_Fo_seek_8 : decode cc_Fo_seek 8 = .ok (.iload_n 2, 1) := by decide +kernel
theorem d_Fo_seek_9 : decode cc_Fo_seek 9 = .ok (.tableswitch 66 0 2 #[27, 45, 59], 27) := by decide +kernel
theorem d_Fo_seek_36 : decode cc_Fo_seek 36 = .ok (.aload_n 0, 1) := by decide +kernel
theorem d_Fo_seek_37 : decode cc_Fo_seek 37 = .ok (.getfield 31, 3) := by decide +kernel
theorem d_Fo_seek_40 : decode cc_Fo_seek 40 = .ok (.aload_n 1, 1) := by decide +kernel
theorem d_Fo_seek_41 : decode cc_Fo_seek 41 = .ok (.getfield 139, 3) := by decide +kernel
theorem d_Fo_seek_44 : decode cc_Fo_seek 44 = .ok (.aload_n 1, 1) := by decide +kernel
theorem d_Fo_seek_45 : decode cc_Fo_seek 45 = .ok (.getfield 139, 3) := by decide +kernel
theorem d_Fo_seek_48 : decode cc_Fo_seek 48 = .ok (.arraylength, 1) := by decide +kernel
theorem d_Fo_seek_49 : decode cc_Fo_seek 49 = .ok (.invokevirtual 143, 3) := by decide +kernel
theorem d_Fo_seek_52 : decode cc_Fo_seek 52 = .ok (.iconst 1, 1) := by decide +kernel
theorem d_Fo_seek_53 : decode cc_Fo_seek 53 = .ok (.ireturn, 1) := by decide +kernel
theorem d_Fo_seek_54 : decode cc_Fo_seek 54 = .ok (.aload_n 0, 1) := by decide +kernel
theorem d_Fo_seek_55 : decode cc_Fo_seek 55 = .ok (.getfield 38, 3) := by decide +kernel
theorem d_Fo_seek_58 : decode cc_Fo_seek 58 = .ok (.aload_n 1, 1) := by decide +kernel
theorem d_Fo_seek_59 : decode cc_Fo_seek 59 = .ok (.aload_n 0, 1) := by decide +kernel
theorem d_Fo_seek_60 : decode cc_Fo_seek 60 = .ok (.getfield 31, 3) := by decide +kernel
theorem d_Fo_seek_63 : decode cc_Fo_seek 63 = .ok (.invokevirtual 147, 3) := by decide +kernel
theorem d_Fo_seek_66 : decode cc_Fo_seek 66 = .ok (.iconst 1, 1) := by decide +kernel
theorem d_Fo_seek_67 : decode cc_Fo_seek 67 = .ok (.ireturn, 1) := by decide +kernel
theorem d_Fo_seek_68 : decode cc_Fo_seek 68 = .ok (.aload_n 0, 1) := by decide +kernel
theorem d_Fo_seek_69 : decode cc_Fo_seek 69 = .ok (.aload_n 1, 1) := by decide +kernel
theorem d_Fo_seek_70 : decode cc_Fo_seek 70 = .ok (.invokevirtual 151, 3) := by decide +kernel
theorem d_Fo_seek_73 : decode cc_Fo_seek 73 = .ok (.iconst 1, 1) := by decide +kernel
theorem d_Fo_seek_74 : decode cc_Fo_seek 74 = .ok (.ireturn, 1) := by decide +kernel
theorem d_Fo_seek_75 : decode cc_Fo_seek 75 = .ok (.iconst 0, 1) := by decide +kernel
theorem d_Fo_seek_76 : decode cc_Fo_seek 76 = .ok (.ireturn, 1) := by decide +kernel
theorem d_Fo_text_0 : decode cc_Fo_text 0 = .ok (.aload_n 0, 1) := by decide +kernel
theorem d_Fo_text_1 : decode cc_Fo_text 1 = .ok (.iload_n 1, 1) := by decide +kernel
theorem d_Fo_text_2 : decode cc_Fo_text 2 = .ok (.invokevirtual 73, 3) := by decide +kernel
theorem d_Fo_text_5 : decode cc_Fo_text 5 = .ok (.astore 4, 2) := by decide +kernel
theorem d_Fo_text_7 : decode cc_Fo_text 7 = .ok (.aload 4, 2) := by decide +kernel
theorem d_Fo_text_9 : decode cc_Fo_text 9 = .ok (.ifnull 7, 3) := by decide +kernel
theorem d_Fo_text_12 : decode cc_Fo_text 12 = .ok (.iload_n 3, 1) := by decide +kernel
theorem d_Fo_text_13 : decode cc_Fo_text 13 = .ok (.ifCond .ge 5, 3) := by decide +kernel
theorem d_Fo_text_16 : decode cc_Fo_text 16 = .ok (.iconst (-1), 1) := by decide +kernel
theorem d_Fo_text_17 : decode cc_Fo_text 17 = .ok (.ireturn, 1) := by decide +kernel
theorem d_Fo_text_18 : decode cc_Fo_text 18 = .ok (.aload_n 0, 1) := by decide +kernel
theorem d_Fo_text_19 : decode cc_Fo_text 19 = .ok (.aload 4, 2) := by decide +kernel
theorem d_Fo_text_21 : decode cc_Fo_text 21 = .ok (.iload_n 2, 1) := by decide +kernel
theorem d_Fo_text_22 : decode cc_Fo_text 22 = .ok (.iload_n 3, 1) := by decide +kernel
theorem d_Fo_text_23 : decode cc_Fo_text 23 = .ok (.invokevirtual 83, 3) := by decide +kernel
theorem d_Fo_text_26 : decode cc_Fo_text 26 = .ok (.ifCond .eq 13, 3) := by decide +kernel
theorem d_Fo_text_29 : decode cc_Fo_text 29 = .ok (.aload_n 0, 1) := by decide +kernel
theorem d_Fo_text_30 : decode cc_Fo_text 30 = .ok (.getfield 31, 3) := by decide +kernel
theorem d_Fo_text_33 : decode cc_Fo_text 33 = .ok (.getfield 87, 3) := by decide +kernel
theorem d_Fo_text_36 : decode cc_Fo_text 36 = .ok (.goto 4, 3) := by decide +kernel
theorem d_Fo_text_39 : decode cc_Fo_text 39 = .ok (.iconst (-1), 1) := by decide +kernel
theorem d_Fo_text_40 : decode cc_Fo_text 40 = .ok (.ireturn, 1) := by decide +kernel
theorem d_Fo_length_0 : decode cc_Fo_length 0 = .ok (.aload_n 0, 1) := by decide +kernel
theorem d_Fo_length_1 : decode cc_Fo_length 1 = .ok (.iload_n 1, 1) := by decide +kernel
theorem d_Fo_length_2 : decode cc_Fo_length 2 = .ok (.invokevirtual 73, 3) := by decide +kernel
theorem d_Fo_length_5 : decode cc_Fo_length 5 = .ok (.astore_n 3, 1) := by decide +kernel
theorem d_Fo_length_6 : decode cc_Fo_length 6 = .ok (.aload_n 3, 1) := by decide +kernel
theorem d_Fo_length_7 : decode cc_Fo_length 7 = .ok (.ifnonnull 6, 3) := by decide +kernel
theorem d_Fo_length_10 : decode cc_Fo_length 10 = .ok (.bipush (-100), 2) := by decide +kernel
theorem d_Fo_length_12 : decode cc_Fo_length 12 = .ok (.ireturn, 1) := by decide +kernel
theorem d_Fo_length_13 : decode cc_Fo_length 13 = .ok (.aload_n 0, 1) := by decide +kernel
theorem d_Fo_length_14 : decode cc_Fo_length 14 = .ok (.aload_n 3, 1) := by decide +kernel
theorem d_Fo_length_15 : decode cc_Fo_length 15 = .ok (.iload_n 2, 1) := by decide +kernel
theorem d_Fo_length_16 : decode cc_Fo_length 16 = .ok (.iconst (-1), 1) := by decide +kernel
theorem d_Fo_length_17 : decode cc_Fo_length 17 = .ok (.invokevirtual 83, 3) := by decide +kernel
theorem d_Fo_length_20 : decode cc_Fo_length 20 = .ok (.ifCond .eq 13, 3) := by decide +kernel
theorem d_Fo_length_23 : decode cc_Fo_length 23 = .ok (.aload_n 0, 1) := by decide +kernel
theorem d_Fo_length_24 : decode cc_Fo_length 24 = .ok (.getfield 31, 3) := by decide +kernel
theorem d_Fo_length_27 : decode cc_Fo_length 27 = .ok (.getfield 90, 3) := by decide +kernel
theorem d_Fo_length_30 : decode cc_Fo_length 30 = .ok (.goto 5, 3) := by decide +kernel
theorem d_Fo_length_33 : decode cc_Fo_length 33 = .ok (.bipush (-100), 2) := by decide +kernel
theorem d_Fo_length_35 : decode cc_Fo_length 35 = .ok (.ireturn, 1) := by decide +kernel
theorem d_Fo_kind_0 : decode cc_Fo_kind 0 = .ok (.aload_n 0, 1) := by decide +kernel
theorem d_Fo_kind_1 : decode cc_Fo_kind 1 = .ok (.iload_n 1, 1) := by decide +kernel
theorem d_Fo_kind_2 : decode cc_Fo_kind 2 = .ok (.invokevirtual 73, 3) := by decide +kernel
theorem d_Fo_kind_5 : decode cc_Fo_kind 5 = .ok (.astore_n 2, 1) := by decide +kernel
theorem d_Fo_kind_6 : decode cc_Fo_kind 6 = .ok (.aload_n 2, 1) := by decide +kernel
theorem d_Fo_kind_7 : decode cc_Fo_kind 7 = .ok (.ifnonnull 8, 3) := by decide +kernel
theorem d_Fo_kind_10 : decode cc_Fo_kind 10 = .ok (.bipush (-100), 2) := by decide +kernel
theorem d_Fo_kind_12 : decode cc_Fo_kind 12 = .ok (.goto 7, 3) := by decide +kernel
theorem d_Fo_kind_15 : decode cc_Fo_kind 15 = .ok (.aload_n 2, 1) := by decide +kernel
theorem d_Fo_kind_16 : decode cc_Fo_kind 16 = .ok (.getfield 77, 3) := by decide +kernel
theorem d_Fo_kind_19 : decode cc_Fo_kind 19 = .ok (.ireturn, 1) := by decide +kernel
theorem d_Fo_parameters_0 : decode cc_Fo_parameters 0 = .ok (.aload_n 0, 1) := by decide +kernel
theorem d_Fo_parameters_1 : decode cc_Fo_parameters 1 = .ok (.iload_n 1, 1) := by decide +kernel
theorem d_Fo_parameters_2 : decode cc_Fo_parameters 2 = .ok (.invokevirtual 73, 3) := by decide +kernel
theorem d_Fo_parameters_5 : decode cc_Fo_parameters 5 = .ok (.astore_n 2, 1) := by decide +kernel
theorem d_Fo_parameters_6 : decode cc_Fo_parameters 6 = .ok (.aload_n 2, 1) := by decide +kernel
theorem d_Fo_parameters_7 : decode cc_Fo_parameters 7 = .ok (.ifnonnull 8, 3) := by decide +kernel
theorem d_Fo_parameters_10 : decode cc_Fo_parameters 10 = .ok (.bipush (-100), 2) := by decide +kernel
theorem d_Fo_parameters_12 : decode cc_Fo_parameters 12 = .ok (.goto 8, 3) := by decide +kernel
theorem d_Fo_parameters_15 : decode cc_Fo_parameters 15 = .ok (.aload_n 2, 1) := by decide +kernel
theorem d_Fo_parameters_16 : decode cc_Fo_parameters 16 = .ok (.getfield 93, 3) := by decide +kernel
theorem d_Fo_parameters_19 : decode cc_Fo_parameters 19 = .ok (.arraylength, 1) := by decide +kernel
theorem d_Fo_parameters_20 : decode cc_Fo_parameters 20 = .ok (.ireturn, 1) := by decide +kernel
theorem d_Fo_bounds_0 : decode cc_Fo_bounds 0 = .ok (.aload_n 0, 1) := by decide +kernel
theorem d_Fo_bounds_1 : decode cc_Fo_bounds 1 = .ok (.iload_n 1, 1) := by decide +kernel
theorem d_Fo_bounds_2 : decode cc_Fo_bounds 2 = .ok (.invokevirtual 73, 3) := by decide +kernel
theorem d_Fo_bounds_5 : decode cc_Fo_bounds 5 = .ok (.astore_n 3, 1) := by decide +kernel
theorem d_Fo_bounds_6 : decode cc_Fo_bounds 6 = .ok (.aload_n 3, 1) := by decide +kernel
theorem d_Fo_bounds_7 : decode cc_Fo_bounds 7 = .ok (.ifnull 11, 3) := by decide +kernel
theorem d_Fo_bounds_10 : decode cc_Fo_bounds 10 = .ok (.aload_n 3, 1) := by decide +kernel
theorem d_Fo_bounds_11 : decode cc_Fo_bounds 11 = .ok (.iload_n 2, 1) := by decide +kernel
theorem d_Fo_bounds_12 : decode cc_Fo_bounds 12 = .ok (.invokevirtual 104, 3) := by decide +kernel
theorem d_Fo_bounds_15 : decode cc_Fo_bounds 15 = .ok (.ifCond .ne 6, 3) := by decide +kernel
theorem d_Fo_bounds_18 : decode cc_Fo_bounds 18 = .ok (.bipush (-100), 2) := by decide +kernel
theorem d_Fo_bounds_20 : decode cc_Fo_bounds 20 = .ok (.ireturn, 1) := by decide +kernel
theorem d_Fo_bounds_21 : decode cc_Fo_bounds 21 = .ok (.aload_n 3, 1) := by decide +kernel
theorem d_Fo_bounds_22 : decode cc_Fo_bounds 22 = .ok (.iload_n 2, 1) := by decide +kernel
theorem d_Fo_bounds_23 : decode cc_Fo_bounds 23 = .ok (.invokevirtual 112, 3) := by decide +kernel
theorem d_Fo_bounds_26 : decode cc_Fo_bounds 26 = .ok (.ireturn, 1) := by decide +kernel
theorem d_Fo_variablesDeclared_0 : decode cc_Fo_variablesDeclared 0 = .ok (.aload_n 0, 1) := by decide +kernel
theorem d_Fo_variablesDeclared_1 : decode cc_Fo_variablesDeclared 1 = .ok (.aload_n 1, 1) := by decide +kernel
theorem d_Fo_variablesDeclared_2 : decode cc_Fo_variablesDeclared 2 = .ok (.getfield 80, 3) := by decide +kernel
theorem d_Fo_variablesDeclared_5 : decode cc_Fo_variablesDeclared 5 = .ok (.invokevirtual 73, 3) := by decide +kernel
theorem d_Fo_variablesDeclared_8 : decode cc_Fo_variablesDeclared 8 = .ok (.astore_n 3, 1) := by decide +kernel
theorem d_Fo_variablesDeclared_9 : decode cc_Fo_variablesDeclared 9 = .ok (.iconst 0, 1) := by decide +kernel
theorem d_Fo_variablesDeclared_10 : decode cc_Fo_variablesDeclared 10 = .ok (.istore 4, 2) := by decide +kernel
theorem d_Fo_variablesDeclared_12 : decode cc_Fo_variablesDeclared 12 = .ok (.iconst 0, 1) := by decide +kernel
theorem d_Fo_variablesDeclared_13 : decode cc_Fo_variablesDeclared 13 = .ok (.istore 5, 2) := by decide +kernel
theorem d_Fo_variablesDeclared_15 : decode cc_Fo_variablesDeclared 15 = .ok (.iload 5, 2) := by decide +kernel
theorem d_Fo_variablesDeclared_17 : decode cc_Fo_variablesDeclared 17 = .ok (.aload_n 1, 1) := by decide +kernel
theorem d_Fo_variablesDeclared_18 : decode cc_Fo_variablesDeclared 18 = .ok (.getfield 139, 3) := by decide +kernel
theorem d_Fo_variablesDeclared_21 : decode cc_Fo_variablesDeclared 21 = .ok (.arraylength, 1) := by decide +kernel
theorem d_Fo_variablesDeclared_22 : decode cc_Fo_variablesDeclared 22 = .ok (.if_icmp .ge 71, 3) := by decide +kernel
theorem d_Fo_variablesDeclared_25 : decode cc_Fo_variablesDeclared 25 = .ok (.aload_n 1, 1) := by decide +kernel
theorem d_Fo_variablesDeclared_26 : decode cc_Fo_variablesDeclared 26 = .ok (.iload 5, 2) := by decide +kernel
theorem d_Fo_variablesDeclared_28 : decode cc_Fo_variablesDeclared 28 = .ok (.invokevirtual 158, 3) := by decide +kernel
theorem d_Fo_variablesDeclared_31 : decode cc_Fo_variablesDeclared 31 = .ok (.bipush 6, 2) := by decide +kernel
theorem d_Fo_variablesDeclared_33 : decode cc_Fo_variablesDeclared 33 = .ok (.if_icmp .eq 6, 3) := by decide +kernel
theorem d_Fo_variablesDeclared_36 : decode cc_Fo_variablesDeclared 36 = .ok (.goto 51, 3) := by decide +kernel
theorem d_Fo_variablesDeclared_39 : decode cc_Fo_variablesDeclared 39 = .ok (.iconst 0, 1) := by decide +kernel
theorem d_Fo_variablesDeclared_40 : decode cc_Fo_variablesDeclared 40 = .ok (.istore 6, 2) := by decide +kernel
theorem d_Fo_variablesDeclared_42 : decode cc_Fo_variablesDeclared 42 = .ok (.aload_n 1, 1) := by decide +kernel
theorem d_Fo_variablesDeclared_43 : decode cc_Fo_variablesDeclared 43 = .ok (.iload 5, 2) := by decide +kernel
theorem d_Fo_variablesDeclared_45 : decode cc_Fo_variablesDeclared 45 = .ok (.invokevirtual 193, 3) := by decide +kernel
theorem d_Fo_variablesDeclared_48 : decode cc_Fo_variablesDeclared 48 = .ok (.iconst (-1), 1) := by decide +kernel
theorem d_Fo_variablesDeclared_49 : decode cc_Fo_variablesDeclared 49 = .ok (.if_icmp .eq 9, 3) := by decide +kernel
theorem d_Fo_variablesDeclared_52 : decode cc_Fo_variablesDeclared 52 = .ok (.iconst 1, 1) := by decide +kernel
theorem d_Fo_variablesDeclared_53 : decode cc_Fo_variablesDeclared 53 = .ok (.istore 6, 2) := by decide +kernel
theorem d_Fo_variablesDeclared_55 : decode cc_Fo_variablesDeclared 55 = .ok (.goto 23, 3) := by decide +kernel
theorem d_Fo_variablesDeclared_58 : decode cc_Fo_variablesDeclared 58 = .ok (.aload_n 3, 1) := by decide +kernel
theorem d_Fo_variablesDeclared_59 : decode cc_Fo_variablesDeclared 59 = .ok (.ifnull 19, 3) := by decide +kernel
theorem d_Fo_variablesDeclared_62 : decode cc_Fo_variablesDeclared 62 = .ok (.aload_n 3, 1) := by decide +kernel
theorem d_Fo_variablesDeclared_63 : decode cc_Fo_variablesDeclared 63 = .ok (.aload_n 1, 1) := by decide +kernel
theorem d_Fo_variablesDeclared_64 : decode cc_Fo_variablesDeclared 64 = .ok (.iload 5, 2) := by decide +kernel
theorem d_Fo_variablesDeclared_66 : decode cc_Fo_variablesDeclared 66 = .ok (.iconst 1, 1) := by decide +kernel
theorem d_Fo_variablesDeclared_67 : decode cc_Fo_variablesDeclared 67 = .ok (.iadd, 1) := by decide +kernel
theorem d_Fo_variablesDeclared_68 : decode cc_Fo_variablesDeclared 68 = .ok (.invokevirtual 207, 3) := by decide +kernel
theorem d_Fo_variablesDeclared_71 : decode cc_Fo_variablesDeclared 71 = .ok (.iconst (-1), 1) := by decide +kernel
theorem d_Fo_variablesDeclared_72 : decode cc_Fo_variablesDeclared 72 = .ok (.if_icmp .eq 6, 3) := by decide +kernel
theorem d_Fo_variablesDeclared_75 : decode cc_Fo_variablesDeclared 75 = .ok (.iconst 2, 1) := by decide +kernel
theorem d_Fo_variablesDeclared_76 : decode cc_Fo_variablesDeclared 76 = .ok (.istore 6, 2) := by decide +kernel
theorem d_Fo_variablesDeclared_78 : decode cc_Fo_variablesDeclared 78 = .ok (.iload 6, 2) := by decide +kernel
theorem d_Fo_variablesDeclared_80 : decode cc_Fo_variablesDeclared 80 = .ok (.iload_n 2, 1) := by decide +kernel
theorem d_Fo_variablesDeclared_81 : decode cc_Fo_variablesDeclared 81 = .ok (.if_icmp .ne 6, 3) := by decide +kernel
theorem d_Fo_variablesDeclared_84 : decode cc_Fo_variablesDeclared 84 = .ok (.iinc 4 1, 3) := by decide +kernel
theorem d_Fo_variablesDeclared_87 : decode cc_Fo_variablesDeclared 87 = .ok (.iinc 5 1, 3) := by decide +kernel
theorem d_Fo_variablesDeclared_90 : decode cc_Fo_variablesDeclared 90 = .ok (.goto (-75), 3) := by decide +kernel
theorem d_Fo_variablesDeclared_93 : decode cc_Fo_variablesDeclared 93 = .ok (.iload 4, 2) := by decide +kernel
theorem d_Fo_variablesDeclared_95 : decode cc_Fo_variablesDeclared 95 = .ok (.ireturn, 1) := by decide +kernel
theorem d_Fo_measure_0 : decode cc_Fo_measure 0 = .ok (.aload_n 0, 1) := by decide +kernel
theorem d_Fo_measure_1 : decode cc_Fo_measure 1 = .ok (.iload_n 1, 1) := by decide +kernel
theorem d_Fo_measure_2 : decode cc_Fo_measure 2 = .ok (.invokevirtual 73, 3) := by decide +kernel
theorem d_Fo_measure_5 : decode cc_Fo_measure 5 = .ok (.astore_n 3, 1) := by decide +kernel
theorem d_Fo_measure_6 : decode cc_Fo_measure 6 = .ok (.aload_n 3, 1) := by decide +kernel
theorem d_Fo_measure_7 : decode cc_Fo_measure 7 = .ok (.ifnonnull 6, 3) := by decide +kernel
theorem d_Fo_measure_10 : decode cc_Fo_measure 10 = .ok (.bipush (-100), 2) := by decide +kernel
theorem d_Fo_measure_12 : decode cc_Fo_measure 12 = .ok (.ireturn, 1) := by decide +kernel
theorem d_Fo_measure_13 : decode cc_Fo_measure 13 = .ok (.iload_n 2, 1) := by decide +kernel
theorem d_Fo_measure_14 : decode cc_Fo_measure 14 = .ok (.tableswitch 60 0 5 #[38, 38, 38, 45, 50, 55], 38) := by decide +kernel
theorem d_Fo_measure_52 : decode cc_Fo_measure 52 = .ok (.aload_n 0, 1) := by decide +kernel
theorem d_Fo_measure_53 : decode cc_Fo_measure 53 = .ok (.aload_n 3, 1) := by decide +kernel
theorem d_Fo_measure_54 : decode cc_Fo_measure 54 = .ok (.iload_n 2, 1) := by decide +kernel
theorem d_Fo_measure_55 : decode cc_Fo_measure 55 = .ok (.invokevirtual 116, 3) := by decide +kernel
theorem d_Fo_measure_58 : decode cc_Fo_measure 58 = .ok (.ireturn, 1) := by decide +kernel
theorem d_Fo_measure_59 : decode cc_Fo_measure 59 = .ok (.aload_n 3, 1) := by decide +kernel
theorem d_Fo_measure_60 : decode cc_Fo_measure 60 = .ok (.invokevirtual 120, 3) := by decide +kernel
theorem d_Fo_measure_63 : decode cc_Fo_measure 63 = .ok (.ireturn, 1) := by decide +kernel
theorem d_Fo_measure_64 : decode cc_Fo_measure 64 = .ok (.aload_n 3, 1) := by decide +kernel
theorem d_Fo_measure_65 : decode cc_Fo_measure 65 = .ok (.invokevirtual 124, 3) := by decide +kernel
theorem d_Fo_measure_68 : decode cc_Fo_measure 68 = .ok (.ireturn, 1) := by decide +kernel
theorem d_Fo_measure_69 : decode cc_Fo_measure 69 = .ok (.aload_n 3, 1) := by decide +kernel
theorem d_Fo_measure_70 : decode cc_Fo_measure 70 = .ok (.invokevirtual 127, 3) := by decide +kernel
theorem d_Fo_measure_73 : decode cc_Fo_measure 73 = .ok (.ireturn, 1) := by decide +kernel
theorem d_Fo_measure_74 : decode cc_Fo_measure 74 = .ok (.bipush (-100), 2) := by decide +kernel
theorem d_Fo_measure_76 : decode cc_Fo_measure 76 = .ok (.ireturn, 1) := by decide +kernel
theorem d_Fo_alike_0 : decode cc_Fo_alike 0 = .ok (.aload_n 0, 1) := by decide +kernel
theorem d_Fo_alike_1 : decode cc_Fo_alike 1 = .ok (.iload_n 1, 1) := by decide +kernel
theorem d_Fo_alike_2 : decode cc_Fo_alike 2 = .ok (.invokevirtual 73, 3) := by decide +kernel
theorem d_Fo_alike_5 : decode cc_Fo_alike 5 = .ok (.astore_n 3, 1) := by decide +kernel
theorem d_Fo_alike_6 : decode cc_Fo_alike 6 = .ok (.aload_n 0, 1) := by decide +kernel
theorem d_Fo_alike_7 : decode cc_Fo_alike 7 = .ok (.iload_n 2, 1) := by decide +kernel
theorem d_Fo_alike_8 : decode cc_Fo_alike 8 = .ok (.invokevirtual 73, 3) := by decide +kernel
theorem d_Fo_alike_11 : decode cc_Fo_alike 11 = .ok (.astore 4, 2) := by decide +kernel
theorem d_Fo_alike_13 : decode cc_Fo_alike 13 = .ok (.aload_n 3, 1) := by decide +kernel
theorem d_Fo_alike_14 : decode cc_Fo_alike 14 = .ok (.ifnull 8, 3) := by decide +kernel
theorem d_Fo_alike_17 : decode cc_Fo_alike 17 = .ok (.aload 4, 2) := by decide +kernel
theorem d_Fo_alike_19 : decode cc_Fo_alike 19 = .ok (.ifnonnull 6, 3) := by decide +kernel
theorem d_Fo_alike_22 : decode cc_Fo_alike 22 = .ok (.bipush (-100), 2) := by decide +kernel
theorem d_Fo_alike_24 : decode cc_Fo_alike 24 = .ok (.ireturn, 1) := by decide +kernel
theorem d_Fo_alike_25 : decode cc_Fo_alike 25 = .ok (.aload_n 3, 1) := by decide +kernel
theorem d_Fo_alike_26 : decode cc_Fo_alike 26 = .ok (.getfield 77, 3) := by decide +kernel
theorem d_Fo_alike_29 : decode cc_Fo_alike 29 = .ok (.aload 4, 2) := by decide +kernel
theorem d_Fo_alike_31 : decode cc_Fo_alike 31 = .ok (.getfield 77, 3) := by decide +kernel
theorem d_Fo_alike_34 : decode cc_Fo_alike 34 = .ok (.if_icmp .ne 21, 3) := by decide +kernel
theorem d_Fo_alike_37 : decode cc_Fo_alike 37 = .ok (.aload_n 3, 1) := by decide +kernel
theorem d_Fo_alike_38 : decode cc_Fo_alike 38 = .ok (.getfield 93, 3) := by decide +kernel
theorem d_Fo_alike_41 : decode cc_Fo_alike 41 = .ok (.arraylength, 1) := by decide +kernel
theorem d_Fo_alike_42 : decode cc_Fo_alike 42 = .ok (.aload 4, 2) := by decide +kernel
theorem d_Fo_alike_44 : decode cc_Fo_alike 44 = .ok (.getfield 93, 3) := by decide +kernel
theorem d_Fo_alike_47 : decode cc_Fo_alike 47 = .ok (.arraylength, 1) := by decide +kernel
theorem d_Fo_alike_48 : decode cc_Fo_alike 48 = .ok (.if_icmp .ne 7, 3) := by decide +kernel
theorem d_Fo_alike_51 : decode cc_Fo_alike 51 = .ok (.iconst 1, 1) := by decide +kernel
theorem d_Fo_alike_52 : decode cc_Fo_alike 52 = .ok (.goto 4, 3) := by decide +kernel
theorem d_Fo_alike_55 : decode cc_Fo_alike 55 = .ok (.iconst 0, 1) := by decide +kernel
theorem d_Fo_alike_56 : decode cc_Fo_alike 56 = .ok (.istore 5, 2) := by decide +kernel
theorem d_Fo_alike_58 : decode cc_Fo_alike 58 = .ok (.iload 5, 2) := by decide +kernel
theorem d_Fo_alike_60 : decode cc_Fo_alike 60 = .ok (.ifCond .eq 16, 3) := by decide +kernel
theorem d_Fo_alike_63 : decode cc_Fo_alike 63 = .ok (.aload 4, 2) := by decide +kernel
theorem d_Fo_alike_65 : decode cc_Fo_alike 65 = .ok (.aload_n 3, 1) := by decide +kernel
theorem d_Fo_alike_66 : decode cc_Fo_alike 66 = .ok (.invokestatic 97, 3) := by decide +kernel
theorem d_Fo_alike_69 : decode cc_Fo_alike 69 = .ok (.ifCond .eq 7, 3) := by decide +kernel
theorem d_Fo_alike_72 : decode cc_Fo_alike 72 = .ok (.iconst 1, 1) := by decide +kernel
theorem d_Fo_alike_73 : decode cc_Fo_alike 73 = .ok (.goto 4, 3) := by decide +kernel
theorem d_Fo_alike_76 : decode cc_Fo_alike 76 = .ok (.iconst 0, 1) := by decide +kernel
theorem d_Fo_alike_77 : decode cc_Fo_alike 77 = .ok (.ireturn, 1) := by decide +kernel
theorem d_Fo_sameErasedTypes_0 : decode cc_Fo_sameErasedTypes 0 = .ok (.aload_n 0, 1) := by decide +kernel
theorem d_Fo_sameErasedTypes_1 : decode cc_Fo_sameErasedTypes 1 = .ok (.aload_n 1, 1) := by decide +kernel
theorem d_Fo_sameErasedTypes_2 : decode cc_Fo_sameErasedTypes 2 = .ok (.getfield 80, 3) := by decide +kernel
theorem d_Fo_sameErasedTypes_5 : decode cc_Fo_sameErasedTypes 5 = .ok (.invokevirtual 73, 3) := by decide +kernel
theorem d_Fo_sameErasedTypes_8 : decode cc_Fo_sameErasedTypes 8 = .ok (.astore_n 3, 1) := by decide +kernel
theorem d_Fo_sameErasedTypes_9 : decode cc_Fo_sameErasedTypes 9 = .ok (.aload_n 0, 1) := by decide +kernel
theorem d_Fo_sameErasedTypes_10 : decode cc_Fo_sameErasedTypes 10 = .ok (.aload_n 2, 1) := by decide +kernel
theorem d_Fo_sameErasedTypes_11 : decode cc_Fo_sameErasedTypes 11 = .ok (.getfield 80, 3) := by decide +kernel
theorem d_Fo_sameErasedTypes_14 : decode cc_Fo_sameErasedTypes 14 = .ok (.invokevirtual 73, 3) := by decide +kernel
theorem d_Fo_sameErasedTypes_17 : decode cc_Fo_sameErasedTypes 17 = .ok (.astore 4, 2) := by decide +kernel
theorem d_Fo_sameErasedTypes_19 : decode cc_Fo_sameErasedTypes 19 = .ok (.aload_n 1, 1) := by decide +kernel
theorem d_Fo_sameErasedTypes_20 : decode cc_Fo_sameErasedTypes 20 = .ok (.getfield 155, 3) := by decide +kernel
theorem d_Fo_sameErasedTypes_23 : decode cc_Fo_sameErasedTypes 23 = .ok (.iconst 1, 1) := by decide +kernel
theorem d_Fo_sameErasedTypes_24 : decode cc_Fo_sameErasedTypes 24 = .ok (.iadd, 1) := by decide +kernel
theorem d_Fo_sameErasedTypes_25 : decode cc_Fo_sameErasedTypes 25 = .ok (.istore 5, 2) := by decide +kernel
theorem d_Fo_sameErasedTypes_27 : decode cc_Fo_sameErasedTypes 27 = .ok (.aload_n 2, 1) := by decide +kernel
theorem d_Fo_sameErasedTypes_28 : decode cc_Fo_sameErasedTypes 28 = .ok (.getfield 155, 3) := by decide +kernel
theorem d_Fo_sameErasedTypes_31 : decode cc_Fo_sameErasedTypes 31 = .ok (.iconst 1, 1) := by decide +kernel
theorem d_Fo_sameErasedTypes_32 : decode cc_Fo_sameErasedTypes 32 = .ok (.iadd, 1) := by decide +kernel
theorem d_Fo_sameErasedTypes_33 : decode cc_Fo_sameErasedTypes 33 = .ok (.istore 6, 2) := by decide +kernel
theorem d_Fo_sameErasedTypes_35 : decode cc_Fo_sameErasedTypes 35 = .ok (.iconst 0, 1) := by decide +kernel
theorem d_Fo_sameErasedTypes_36 : decode cc_Fo_sameErasedTypes 36 = .ok (.istore 7, 2) := by decide +kernel
theorem d_Fo_sameErasedTypes_38 : decode cc_Fo_sameErasedTypes 38 = .ok (.iload 7, 2) := by decide +kernel
theorem d_Fo_sameErasedTypes_40 : decode cc_Fo_sameErasedTypes 40 = .ok (.bipush 120, 2) := by decide +kernel
theorem d_Fo_sameErasedTypes_42 : decode cc_Fo_sameErasedTypes 42 = .ok (.if_icmp .ge 132, 3) := by decide +kernel
theorem d_Fo_sameErasedTypes_45 : decode cc_Fo_sameErasedTypes 45 = .ok (.aload_n 1, 1) := by decide +kernel
theorem d_Fo_sameErasedTypes_46 : decode cc_Fo_sameErasedTypes 46 = .ok (.iload 5, 2) := by decide +kernel
theorem d_Fo_sameErasedTypes_48 : decode cc_Fo_sameErasedTypes 48 = .ok (.invokevirtual 158, 3) := by decide +kernel
theorem d_Fo_sameErasedTypes_51 : decode cc_Fo_sameErasedTypes 51 = .ok (.bipush 23, 2) := by decide +kernel
theorem d_Fo_sameErasedTypes_53 : decode cc_Fo_sameErasedTypes 53 = .ok (.if_icmp .ne 7, 3) := by decide +kernel
theorem d_Fo_sameErasedTypes_56 : decode cc_Fo_sameErasedTypes 56 = .ok (.iconst 1, 1) := by decide +kernel
theorem d_Fo_sameErasedTypes_57 : decode cc_Fo_sameErasedTypes 57 = .ok (.goto 4, 3) := by decide +kernel
theorem d_Fo_sameErasedTypes_60 : decode cc_Fo_sameErasedTypes 60 = .ok (.iconst 0, 1) := by decide +kernel
theorem d_Fo_sameErasedTypes_61 : decode cc_Fo_sameErasedTypes 61 = .ok (.istore 8, 2) := by decide +kernel
theorem d_Fo_sameErasedTypes_63 : decode cc_Fo_sameErasedTypes 63 = .ok (.aload_n 2, 1) := by decide +kernel
theorem d_Fo_sameErasedTypes_64 : decode cc_Fo_sameErasedTypes 64 = .ok (.iload 6, 2) := by decide +kernel
theorem d_Fo_sameErasedTypes_66 : decode cc_Fo_sameErasedTypes 66 = .ok (.invokevirtual 158, 3) := by decide +kernel
theorem d_Fo_sameErasedTypes_69 : decode cc_Fo_sameErasedTypes 69 = .ok (.bipush 23, 2) := by decide +kernel
theorem d_Fo_sameErasedTypes_71 : decode cc_Fo_sameErasedTypes 71 = .ok (.if_icmp .ne 7, 3) := by decide +kernel
theorem d_Fo_sameErasedTypes_74 : decode cc_Fo_sameErasedTypes 74 = .ok (.iconst 1, 1) := by decide +kernel
theorem d_Fo_sameErasedTypes_75 : decode cc_Fo_sameErasedTypes 75 = .ok (.goto 4, 3) := by decide +kernel
theorem d_Fo_sameErasedTypes_78 : decode cc_Fo_sameErasedTypes 78 = .ok (.iconst 0, 1) := by decide +kernel
theorem d_Fo_sameErasedTypes_79 : decode cc_Fo_sameErasedTypes 79 = .ok (.istore 9, 2) := by decide +kernel
theorem d_Fo_sameErasedTypes_81 : decode cc_Fo_sameErasedTypes 81 = .ok (.iload 8, 2) := by decide +kernel
theorem d_Fo_sameErasedTypes_83 : decode cc_Fo_sameErasedTypes 83 = .ok (.ifCond .ne 8, 3) := by decide +kernel
theorem d_Fo_sameErasedTypes_86 : decode cc_Fo_sameErasedTypes 86 = .ok (.iload 9, 2) := by decide +kernel
theorem d_Fo_sameErasedTypes_88 : decode cc_Fo_sameErasedTypes 88 = .ok (.ifCond .eq 19, 3) := by decide +kernel
theorem d_Fo_sameErasedTypes_91 : decode cc_Fo_sameErasedTypes 91 = .ok (.iload 8, 2) := by decide +kernel
theorem d_Fo_sameErasedTypes_93 : decode cc_Fo_sameErasedTypes 93 = .ok (.ifCond .eq 12, 3) := by decide +kernel
theorem d_Fo_sameErasedTypes_96 : decode cc_Fo_sameErasedTypes 96 = .ok (.iload 9, 2) := by decide +kernel
theorem d_Fo_sameErasedTypes_98 : decode cc_Fo_sameErasedTypes 98 = .ok (.ifCond .eq 7, 3) := by decide +kernel
theorem d_Fo_sameErasedTypes_101 : decode cc_Fo_sameErasedTypes 101 = .ok (.iconst 1, 1) := by decide +kernel
theorem d_Fo_sameErasedTypes_102 : decode cc_Fo_sameErasedTypes 102 = .ok (.goto 4, 3) := by decide +kernel
theorem d_Fo_sameErasedTypes_105 : decode cc_Fo_sameErasedTypes 105 = .ok (.iconst 0, 1) := by decide +kernel
theorem d_Fo_sameErasedTypes_106 : decode cc_Fo_sameErasedTypes 106 = .ok (.ireturn, 1) := by decide +kernel
theorem d_Fo_sameErasedTypes_107 : decode cc_Fo_sameErasedTypes 107 = .ok (.aload_n 0, 1) := by decide +kernel
theorem d_Fo_sameErasedTypes_108 : decode cc_Fo_sameErasedTypes 108 = .ok (.getfield 45, 3) := by decide +kernel
theorem d_Fo_sameErasedTypes_111 : decode cc_Fo_sameErasedTypes 111 = .ok (.aload_n 1, 1) := by decide +kernel
theorem d_Fo_sameErasedTypes_112 : decode cc_Fo_sameErasedTypes 112 = .ok (.aload_n 3, 1) := by decide +kernel
theorem d_Fo_sameErasedTypes_113 : decode cc_Fo_sameErasedTypes 113 = .ok (.iload 5, 2) := by decide +kernel
theorem d_Fo_sameErasedTypes_115 : decode cc_Fo_sameErasedTypes 115 = .ok (.invokevirtual 169, 3) := by decide +kernel
theorem d_Fo_sameErasedTypes_118 : decode cc_Fo_sameErasedTypes 118 = .ok (.aload_n 0, 1) := by decide +kernel
theorem d_Fo_sameErasedTypes_119 : decode cc_Fo_sameErasedTypes 119 = .ok (.getfield 49, 3) := by decide +kernel
theorem d_Fo_sameErasedTypes_122 : decode cc_Fo_sameErasedTypes 122 = .ok (.aload_n 2, 1) := by decide +kernel
theorem d_Fo_sameErasedTypes_123 : decode cc_Fo_sameErasedTypes 123 = .ok (.aload 4, 2) := by decide +kernel
theorem d_Fo_sameErasedTypes_125 : decode cc_Fo_sameErasedTypes 125 = .ok (.iload 6, 2) := by decide +kernel
theorem d_Fo_sameErasedTypes_127 : decode cc_Fo_sameErasedTypes 127 = .ok (.invokevirtual 169, 3) := by decide +kernel
theorem d_Fo_sameErasedTypes_130 : decode cc_Fo_sameErasedTypes 130 = .ok (.aload_n 0, 1) := by decide +kernel
theorem d_Fo_sameErasedTypes_131 : decode cc_Fo_sameErasedTypes 131 = .ok (.getfield 45, 3) := by decide +kernel
theorem d_Fo_sameErasedTypes_134 : decode cc_Fo_sameErasedTypes 134 = .ok (.getfield 173, 3) := by decide +kernel
theorem d_Fo_sameErasedTypes_137 : decode cc_Fo_sameErasedTypes 137 = .ok (.aload_n 0, 1) := by decide +kernel
theorem d_Fo_sameErasedTypes_138 : decode cc_Fo_sameErasedTypes 138 = .ok (.getfield 49, 3) := by decide +kernel
theorem d_Fo_sameErasedTypes_141 : decode cc_Fo_sameErasedTypes 141 = .ok (.getfield 173, 3) := by decide +kernel
theorem d_Fo_sameErasedTypes_144 : decode cc_Fo_sameErasedTypes 144 = .ok (.invokevirtual 196, 3) := by decide +kernel
theorem d_Fo_sameErasedTypes_147 : decode cc_Fo_sameErasedTypes 147 = .ok (.ifCond .ne 5, 3) := by decide +kernel
theorem d_Fo_sameErasedTypes_150 : decode cc_Fo_sameErasedTypes 150 = .ok (.iconst 0, 1) := by decide +kernel
theorem d_Fo_sameErasedTypes_151 : decode cc_Fo_sameErasedTypes 151 = .ok (.ireturn, 1) := by decide +kernel
theorem d_Fo_sameErasedTypes_152 : decode cc_Fo_sameErasedTypes 152 = .ok (.aload_n 1, 1) := by decide +kernel
theorem d_Fo_sameErasedTypes_153 : decode cc_Fo_sameErasedTypes 153 = .ok (.iload 5, 2) := by decide +kernel
theorem d_Fo_sameErasedTypes_155 : decode cc_Fo_sameErasedTypes 155 = .ok (.invokevirtual 177, 3) := by decide +kernel
theorem d_Fo_sameErasedTypes_158 : decode cc_Fo_sameErasedTypes 158 = .ok (.istore 5, 2) := by decide +kernel
theorem d_Fo_sameErasedTypes_160 : decode cc_Fo_sameErasedTypes 160 = .ok (.aload_n 2, 1) := by decide +kernel
theorem d_Fo_sameErasedTypes_161 : decode cc_Fo_sameErasedTypes 161 = .ok (.iload 6, 2) := by decide +kernel
theorem d_Fo_sameErasedTypes_163 : decode cc_Fo_sameErasedTypes 163 = .ok (.invokevirtual 177, 3) := by decide +kernel
theorem d_Fo_sameErasedTypes_166 : decode cc_Fo_sameErasedTypes 166 = .ok (.istore 6, 2) := by decide +kernel
theorem d_Fo_sameErasedTypes_168 : decode cc_Fo_sameErasedTypes 168 = .ok (.iinc 7 1, 3) := by decide +kernel
theorem d_Fo_sameErasedTypes_171 : decode cc_Fo_sameErasedTypes 171 = .ok (.goto (-133), 3) := by decide +kernel
theorem d_Fo_sameErasedTypes_174 : decode cc_Fo_sameErasedTypes 174 = .ok (.iconst 0, 1) := by decide +kernel
theorem d_Fo_sameErasedTypes_175 : decode cc_Fo_sameErasedTypes 175 = .ok (.ireturn, 1) := by decide +kernel
theorem d_Fo_clash_0 : decode cc_Fo_clash 0 = .ok (.aload_n 0, 1) := by decide +kernel
theorem d_Fo_clash_1 : decode cc_Fo_clash 1 = .ok (.iload_n 1, 1) := by decide +kernel
theorem d_Fo_clash_2 : decode cc_Fo_clash 2 = .ok (.invokevirtual 73, 3) := by decide +kernel
theorem d_Fo_clash_5 : decode cc_Fo_clash 5 = .ok (.astore_n 3, 1) := by decide +kernel
theorem d_Fo_clash_6 : decode cc_Fo_clash 6 = .ok (.aload_n 0, 1) := by decide +kernel
theorem d_Fo_clash_7 : decode cc_Fo_clash 7 = .ok (.iload_n 2, 1) := by decide +kernel
theorem d_Fo_clash_8 : decode cc_Fo_clash 8 = .ok (.invokevirtual 73, 3) := by decide +kernel
theorem d_Fo_clash_11 : decode cc_Fo_clash 11 = .ok (.astore 4, 2) := by decide +kernel
theorem d_Fo_clash_13 : decode cc_Fo_clash 13 = .ok (.aload_n 3, 1) := by decide +kernel
theorem d_Fo_clash_14 : decode cc_Fo_clash 14 = .ok (.ifnull 8, 3) := by decide +kernel
theorem d_Fo_clash_17 : decode cc_Fo_clash 17 = .ok (.aload 4, 2) := by decide +kernel
theorem d_Fo_clash_19 : decode cc_Fo_clash 19 = .ok (.ifnonnull 6, 3) := by decide +kernel
theorem d_Fo_clash_22 : decode cc_Fo_clash 22 = .ok (.bipush (-100), 2) := by decide +kernel
theorem d_Fo_clash_24 : decode cc_Fo_clash 24 = .ok (.ireturn, 1) := by decide +kernel
theorem d_Fo_clash_25 : decode cc_Fo_clash 25 = .ok (.aload_n 3, 1) := by decide +kernel
theorem d_Fo_clash_26 : decode cc_Fo_clash 26 = .ok (.getfield 77, 3) := by decide +kernel
theorem d_Fo_clash_29 : decode cc_Fo_clash 29 = .ok (.iconst 1, 1) := by decide +kernel
theorem d_Fo_clash_30 : decode cc_Fo_clash 30 = .ok (.if_icmp .ne 12, 3) := by decide +kernel
theorem d_Fo_clash_33 : decode cc_Fo_clash 33 = .ok (.aload 4, 2) := by decide +kernel
theorem d_Fo_clash_35 : decode cc_Fo_clash 35 = .ok (.getfield 77, 3) := by decide +kernel
theorem d_Fo_clash_38 : decode cc_Fo_clash 38 = .ok (.iconst 1, 1) := by decide +kernel
theorem d_Fo_clash_39 : decode cc_Fo_clash 39 = .ok (.if_icmp .eq 6, 3) := by decide +kernel
theorem d_Fo_clash_42 : decode cc_Fo_clash 42 = .ok (.bipush (-100), 2) := by decide +kernel
theorem d_Fo_clash_44 : decode cc_Fo_clash 44 = .ok (.ireturn, 1) := by decide +kernel
theorem d_Fo_clash_45 : decode cc_Fo_clash 45 = .ok (.aload_n 0, 1) := by decide +kernel
theorem d_Fo_clash_46 : decode cc_Fo_clash 46 = .ok (.aload_n 3, 1) := by decide +kernel
theorem d_Fo_clash_47 : decode cc_Fo_clash 47 = .ok (.aload 4, 2) := by decide +kernel
theorem d_Fo_clash_49 : decode cc_Fo_clash 49 = .ok (.invokevirtual 101, 3) := by decide +kernel
theorem d_Fo_clash_52 : decode cc_Fo_clash 52 = .ok (.ifCond .eq 7, 3) := by decide +kernel
theorem d_Fo_clash_55 : decode cc_Fo_clash 55 = .ok (.iconst 1, 1) := by decide +kernel
theorem d_Fo_clash_56 : decode cc_Fo_clash 56 = .ok (.goto 4, 3) := by decide +kernel
theorem d_Fo_clash_59 : decode cc_Fo_clash 59 = .ok (.iconst 0, 1) := by decide +kernel
theorem d_Fo_clash_60 : decode cc_Fo_clash 60 = .ok (.ireturn, 1) := by decide +kernel
theorem d_Fo_type_0 : decode cc_Fo_type 0 = .ok (.iload_n 1, 1) := by decide +kernel
theorem d_Fo_type_1 : decode cc_Fo_type 1 = .ok (.bipush 33, 2) := by decide +kernel
theorem d_Fo_type_3 : decode cc_Fo_type 3 = .ok (.if_icmp .lt 21, 3) := by decide +kernel
theorem d_Fo_type_6 : decode cc_Fo_type 6 = .ok (.iload_n 1, 1) := by decide +kernel
theorem d_Fo_type_7 : decode cc_Fo_type 7 = .ok (.bipush 126, 2) := by decide +kernel
theorem d_Fo_type_9 : decode cc_Fo_type 9 = .ok (.if_icmp .gt 15, 3) := by decide +kernel
theorem d_Fo_type_12 : decode cc_Fo_type 12 = .ok (.aload_n 0, 1) := by decide +kernel
theorem d_Fo_type_13 : decode cc_Fo_type 13 = .ok (.getfield 14, 3) := by decide +kernel
theorem d_Fo_type_16 : decode cc_Fo_type 16 = .ok (.iload_n 1, 1) := by decide +kernel
theorem d_Fo_type_17 : decode cc_Fo_type 17 = .ok (.i2c, 1) := by decide +kernel
theorem d_Fo_type_18 : decode cc_Fo_type 18 = .ok (.invokevirtual 58, 3) := by decide +kernel
theorem d_Fo_type_21 : decode cc_Fo_type 21 = .ok (.ifCond .ne 6, 3) := by decide +kernel
theorem d_Fo_type_24 : decode cc_Fo_type 24 = .ok (.bipush (-100), 2) := by decide +kernel
theorem d_Fo_type_26 : decode cc_Fo_type 26 = .ok (.ireturn, 1) := by decide +kernel
theorem d_Fo_type_27 : decode cc_Fo_type 27 = .ok (.aload_n 0, 1) := by decide +kernel
theorem d_Fo_type_28 : decode cc_Fo_type 28 = .ok (.getfield 14, 3) := by decide +kernel
theorem d_Fo_type_31 : decode cc_Fo_type 31 = .ok (.getfield 62, 3) := by decide +kernel
theorem d_Fo_type_34 : decode cc_Fo_type 34 = .ok (.ireturn, 1) := by decide +kernel
theorem d_Fo_clear_0 : decode cc_Fo_clear 0 = .ok (.aload_n 0, 1) := by decide +kernel
theorem d_Fo_clear_1 : decode cc_Fo_clear 1 = .ok (.getfield 14, 3) := by decide +kernel
theorem d_Fo_clear_4 : decode cc_Fo_clear 4 = .ok (.iconst 0, 1) := by decide +kernel
theorem d_Fo_clear_5 : decode cc_Fo_clear 5 = .ok (.putfield 62, 3) := by decide +kernel
theorem d_Fo_clear_8 : decode cc_Fo_clear 8 = .ok (.return_, 1) := by decide +kernel
theorem d_Fo_count_0 : decode cc_Fo_count 0 = .ok (.iload_n 1, 1) := by decide +kernel
theorem d_Fo_count_1 : decode cc_Fo_count 1 = .ok (.ifCond .ne 8, 3) := by decide +kernel
theorem d_Fo_count_4 : decode cc_Fo_count 4 = .ok (.aload_n 0, 1) := by decide +kernel
theorem d_Fo_count_5 : decode cc_Fo_count 5 = .ok (.getfield 130, 3) := by decide +kernel
theorem d_Fo_count_8 : decode cc_Fo_count 8 = .ok (.ireturn, 1) := by decide +kernel
theorem d_Fo_count_9 : decode cc_Fo_count 9 = .ok (.iload_n 1, 1) := by decide +kernel
theorem d_Fo_count_10 : decode cc_Fo_count 10 = .ok (.iconst 1, 1) := by decide +kernel
theorem d_Fo_count_11 : decode cc_Fo_count 11 = .ok (.if_icmp .ne 13, 3) := by decide +kernel
theorem d_Fo_count_14 : decode cc_Fo_count 14 = .ok (.aload_n 0, 1) := by decide +kernel
theorem d_Fo_count_15 : decode cc_Fo_count 15 = .ok (.getfield 14, 3) := by decide +kernel
theorem d_Fo_count_18 : decode cc_Fo_count 18 = .ok (.getfield 62, 3) := by decide +kernel
theorem d_Fo_count_21 : decode cc_Fo_count 21 = .ok (.goto 5, 3) := by decide +kernel
theorem d_Fo_count_24 : decode cc_Fo_count 24 = .ok (.bipush (-100), 2) := by decide +kernel
theorem d_Fo_count_26 : decode cc_Fo_count 26 = .ok (.ireturn, 1) := by decide +kernel
theorem d_Fo_scope_0 : decode cc_Fo_scope 0 = .ok (.aload_n 0, 1) := by decide +kernel
theorem d_Fo_scope_1 : decode cc_Fo_scope 1 = .ok (.iload_n 1, 1) := by decide +kernel
theorem d_Fo_scope_2 : decode cc_Fo_scope 2 = .ok (.invokevirtual 73, 3) := by decide +kernel
theorem d_Fo_scope_5 : decode cc_Fo_scope 5 = .ok (.astore_n 3, 1) := by decide +kernel
theorem d_Fo_scope_6 : decode cc_Fo_scope 6 = .ok (.aload_n 3, 1) := by decide +kernel
theorem d_Fo_scope_7 : decode cc_Fo_scope 7 = .ok (.ifnonnull 6, 3) := by decide +kernel
