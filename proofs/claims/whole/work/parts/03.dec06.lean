theorem d_Mo_clash_21 : decode cc_Mo_clash 21 = .ok (.iaload, 1) := by decide +kernel
theorem d_Mo_clash_22 : decode cc_Mo_clash 22 = .ok (.iconst 1, 1) := by decide +kernel
theorem d_Mo_clash_23 : decode cc_Mo_clash 23 = .ok (.if_icmp .ne 13, 3) := by decide +kernel
theorem d_Mo_clash_26 : decode cc_Mo_clash 26 = .ok (.aload_n 0, 1) := by decide +kernel
theorem d_Mo_clash_27 : decode cc_Mo_clash 27 = .ok (.getfield 22, 3) := by decide +kernel
theorem d_Mo_clash_30 : decode cc_Mo_clash 30 = .ok (.iload_n 2, 1) := by decide +kernel
theorem d_Mo_clash_31 : decode cc_Mo_clash 31 = .ok (.iaload, 1) := by decide +kernel
theorem d_Mo_clash_32 : decode cc_Mo_clash 32 = .ok (.iconst 1, 1) := by decide +kernel
theorem d_Mo_clash_33 : decode cc_Mo_clash 33 = .ok (.if_icmp .eq 6, 3) := by decide +kernel
theorem d_Mo_clash_36 : decode cc_Mo_clash 36 = .ok (.bipush (-100), 2) := by decide +kernel
theorem d_Mo_clash_38 : decode cc_Mo_clash 38 = .ok (.ireturn, 1) := by decide +kernel
theorem d_Mo_clash_39 : decode cc_Mo_clash 39 = .ok (.aload_n 0, 1) := by decide +kernel
theorem d_Mo_clash_40 : decode cc_Mo_clash 40 = .ok (.iconst 0, 1) := by decide +kernel
theorem d_Mo_clash_41 : decode cc_Mo_clash 41 = .ok (.putfield 128, 3) := by decide +kernel
theorem d_Mo_clash_44 : decode cc_Mo_clash 44 = .ok (.aload_n 0, 1) := by decide +kernel
theorem d_Mo_clash_45 : decode cc_Mo_clash 45 = .ok (.iload_n 1, 1) := by decide +kernel
theorem d_Mo_clash_46 : decode cc_Mo_clash 46 = .ok (.iconst 1, 1) := by decide +kernel
theorem d_Mo_clash_47 : decode cc_Mo_clash 47 = .ok (.invokevirtual 203, 3) := by decide +kernel
theorem d_Mo_clash_50 : decode cc_Mo_clash 50 = .ok (.aload_n 0, 1) := by decide +kernel
theorem d_Mo_clash_51 : decode cc_Mo_clash 51 = .ok (.getfield 128, 3) := by decide +kernel
theorem d_Mo_clash_54 : decode cc_Mo_clash 54 = .ok (.istore_n 3, 1) := by decide +kernel
theorem d_Mo_clash_55 : decode cc_Mo_clash 55 = .ok (.iconst 0, 1) := by decide +kernel
theorem d_Mo_clash_56 : decode cc_Mo_clash 56 = .ok (.istore 4, 2) := by decide +kernel
theorem d_Mo_clash_58 : decode cc_Mo_clash 58 = .ok (.iload 4, 2) := by decide +kernel
theorem d_Mo_clash_60 : decode cc_Mo_clash 60 = .ok (.iload_n 3, 1) := by decide +kernel
theorem d_Mo_clash_61 : decode cc_Mo_clash 61 = .ok (.if_icmp .ge 23, 3) := by decide +kernel
theorem d_Mo_clash_64 : decode cc_Mo_clash 64 = .ok (.aload_n 0, 1) := by decide +kernel
theorem d_Mo_clash_65 : decode cc_Mo_clash 65 = .ok (.getfield 49, 3) := by decide +kernel
theorem d_Mo_clash_68 : decode cc_Mo_clash 68 = .ok (.iload 4, 2) := by decide +kernel
theorem d_Mo_clash_70 : decode cc_Mo_clash 70 = .ok (.aload_n 0, 1) := by decide +kernel
theorem d_Mo_clash_71 : decode cc_Mo_clash 71 = .ok (.getfield 46, 3) := by decide +kernel
theorem d_Mo_clash_74 : decode cc_Mo_clash 74 = .ok (.iload 4, 2) := by decide +kernel
theorem d_Mo_clash_76 : decode cc_Mo_clash 76 = .ok (.iaload, 1) := by decide +kernel
theorem d_Mo_clash_77 : decode cc_Mo_clash 77 = .ok (.iastore, 1) := by decide +kernel
theorem d_Mo_clash_78 : decode cc_Mo_clash 78 = .ok (.iinc 4 1, 3) := by decide +kernel
theorem d_Mo_clash_81 : decode cc_Mo_clash 81 = .ok (.goto (-23), 3) := by decide +kernel
theorem d_Mo_clash_84 : decode cc_Mo_clash 84 = .ok (.aload_n 0, 1) := by decide +kernel
theorem d_Mo_clash_85 : decode cc_Mo_clash 85 = .ok (.iconst 0, 1) := by decide +kernel
theorem d_Mo_clash_86 : decode cc_Mo_clash 86 = .ok (.putfield 128, 3) := by decide +kernel
theorem d_Mo_clash_89 : decode cc_Mo_clash 89 = .ok (.aload_n 0, 1) := by decide +kernel
theorem d_Mo_clash_90 : decode cc_Mo_clash 90 = .ok (.iload_n 2, 1) := by decide +kernel
theorem d_Mo_clash_91 : decode cc_Mo_clash 91 = .ok (.iconst 1, 1) := by decide +kernel
theorem d_Mo_clash_92 : decode cc_Mo_clash 92 = .ok (.invokevirtual 203, 3) := by decide +kernel
theorem d_Mo_clash_95 : decode cc_Mo_clash 95 = .ok (.aload_n 0, 1) := by decide +kernel
theorem d_Mo_clash_96 : decode cc_Mo_clash 96 = .ok (.getfield 128, 3) := by decide +kernel
theorem d_Mo_clash_99 : decode cc_Mo_clash 99 = .ok (.iload_n 3, 1) := by decide +kernel
theorem d_Mo_clash_100 : decode cc_Mo_clash 100 = .ok (.if_icmp .eq 5, 3) := by decide +kernel
theorem d_Mo_clash_103 : decode cc_Mo_clash 103 = .ok (.iconst 0, 1) := by decide +kernel
theorem d_Mo_clash_104 : decode cc_Mo_clash 104 = .ok (.ireturn, 1) := by decide +kernel
theorem d_Mo_clash_105 : decode cc_Mo_clash 105 = .ok (.iconst 0, 1) := by decide +kernel
theorem d_Mo_clash_106 : decode cc_Mo_clash 106 = .ok (.istore 4, 2) := by decide +kernel
theorem d_Mo_clash_108 : decode cc_Mo_clash 108 = .ok (.iload 4, 2) := by decide +kernel
theorem d_Mo_clash_110 : decode cc_Mo_clash 110 = .ok (.iload_n 3, 1) := by decide +kernel
theorem d_Mo_clash_111 : decode cc_Mo_clash 111 = .ok (.if_icmp .ge 28, 3) := by decide +kernel
theorem d_Mo_clash_114 : decode cc_Mo_clash 114 = .ok (.aload_n 0, 1) := by decide +kernel
theorem d_Mo_clash_115 : decode cc_Mo_clash 115 = .ok (.getfield 49, 3) := by decide +kernel
theorem d_Mo_clash_118 : decode cc_Mo_clash 118 = .ok (.iload 4, 2) := by decide +kernel
theorem d_Mo_clash_120 : decode cc_Mo_clash 120 = .ok (.iaload, 1) := by decide +kernel
theorem d_Mo_clash_121 : decode cc_Mo_clash 121 = .ok (.aload_n 0, 1) := by decide +kernel
theorem d_Mo_clash_122 : decode cc_Mo_clash 122 = .ok (.getfield 46, 3) := by decide +kernel
theorem d_Mo_clash_125 : decode cc_Mo_clash 125 = .ok (.iload 4, 2) := by decide +kernel
theorem d_Mo_clash_127 : decode cc_Mo_clash 127 = .ok (.iaload, 1) := by decide +kernel
theorem d_Mo_clash_128 : decode cc_Mo_clash 128 = .ok (.if_icmp .eq 5, 3) := by decide +kernel
theorem d_Mo_clash_131 : decode cc_Mo_clash 131 = .ok (.iconst 0, 1) := by decide +kernel
theorem d_Mo_clash_132 : decode cc_Mo_clash 132 = .ok (.ireturn, 1) := by decide +kernel
theorem d_Mo_clash_133 : decode cc_Mo_clash 133 = .ok (.iinc 4 1, 3) := by decide +kernel
theorem d_Mo_clash_136 : decode cc_Mo_clash 136 = .ok (.goto (-28), 3) := by decide +kernel
theorem d_Mo_clash_139 : decode cc_Mo_clash 139 = .ok (.iconst 1, 1) := by decide +kernel
theorem d_Mo_clash_140 : decode cc_Mo_clash 140 = .ok (.ireturn, 1) := by decide +kernel
theorem d_Mo_fill_0 : decode cc_Mo_fill 0 = .ok (.aload_n 0, 1) := by decide +kernel
theorem d_Mo_fill_1 : decode cc_Mo_fill 1 = .ok (.iload_n 1, 1) := by decide +kernel
theorem d_Mo_fill_2 : decode cc_Mo_fill 2 = .ok (.invokevirtual 116, 3) := by decide +kernel
theorem d_Mo_fill_5 : decode cc_Mo_fill 5 = .ok (.ifCond .ne 35, 3) := by decide +kernel
theorem d_Mo_fill_8 : decode cc_Mo_fill 8 = .ok (.aload_n 0, 1) := by decide +kernel
theorem d_Mo_fill_9 : decode cc_Mo_fill 9 = .ok (.iload_n 3, 1) := by decide +kernel
theorem d_Mo_fill_10 : decode cc_Mo_fill 10 = .ok (.invokevirtual 116, 3) := by decide +kernel
theorem d_Mo_fill_13 : decode cc_Mo_fill 13 = .ok (.ifCond .ne 27, 3) := by decide +kernel
theorem d_Mo_fill_16 : decode cc_Mo_fill 16 = .ok (.iload_n 2, 1) := by decide +kernel
theorem d_Mo_fill_17 : decode cc_Mo_fill 17 = .ok (.ifCond .lt 23, 3) := by decide +kernel
theorem d_Mo_fill_20 : decode cc_Mo_fill 20 = .ok (.iload_n 2, 1) := by decide +kernel
theorem d_Mo_fill_21 : decode cc_Mo_fill 21 = .ok (.aload_n 0, 1) := by decide +kernel
theorem d_Mo_fill_22 : decode cc_Mo_fill 22 = .ok (.getfield 40, 3) := by decide +kernel
theorem d_Mo_fill_25 : decode cc_Mo_fill 25 = .ok (.iload_n 1, 1) := by decide +kernel
theorem d_Mo_fill_26 : decode cc_Mo_fill 26 = .ok (.iaload, 1) := by decide +kernel
theorem d_Mo_fill_27 : decode cc_Mo_fill 27 = .ok (.if_icmp .ge 13, 3) := by decide +kernel
theorem d_Mo_fill_30 : decode cc_Mo_fill 30 = .ok (.aload_n 0, 1) := by decide +kernel
theorem d_Mo_fill_31 : decode cc_Mo_fill 31 = .ok (.getfield 22, 3) := by decide +kernel
theorem d_Mo_fill_34 : decode cc_Mo_fill 34 = .ok (.iload_n 3, 1) := by decide +kernel
theorem d_Mo_fill_35 : decode cc_Mo_fill 35 = .ok (.iaload, 1) := by decide +kernel
theorem d_Mo_fill_36 : decode cc_Mo_fill 36 = .ok (.iconst 2, 1) := by decide +kernel
theorem d_Mo_fill_37 : decode cc_Mo_fill 37 = .ok (.if_icmp .eq 6, 3) := by decide +kernel
theorem d_Mo_fill_40 : decode cc_Mo_fill 40 = .ok (.bipush (-100), 2) := by decide +kernel
theorem d_Mo_fill_42 : decode cc_Mo_fill 42 = .ok (.ireturn, 1) := by decide +kernel
theorem d_Mo_fill_43 : decode cc_Mo_fill 43 = .ok (.iload_n 1, 1) := by decide +kernel
theorem d_Mo_fill_44 : decode cc_Mo_fill 44 = .ok (.istore 4, 2) := by decide +kernel
theorem d_Mo_fill_46 : decode cc_Mo_fill 46 = .ok (.bipush 20, 2) := by decide +kernel
theorem d_Mo_fill_48 : decode cc_Mo_fill 48 = .ok (.iload 4, 2) := by decide +kernel
theorem d_Mo_fill_50 : decode cc_Mo_fill 50 = .ok (.imul, 1) := by decide +kernel
theorem d_Mo_fill_51 : decode cc_Mo_fill 51 = .ok (.iload_n 2, 1) := by decide +kernel
theorem d_Mo_fill_52 : decode cc_Mo_fill 52 = .ok (.iadd, 1) := by decide +kernel
theorem d_Mo_fill_53 : decode cc_Mo_fill 53 = .ok (.istore 5, 2) := by decide +kernel
theorem d_Mo_fill_55 : decode cc_Mo_fill 55 = .ok (.aload_n 0, 1) := by decide +kernel
theorem d_Mo_fill_56 : decode cc_Mo_fill 56 = .ok (.getfield 40, 3) := by decide +kernel
theorem d_Mo_fill_59 : decode cc_Mo_fill 59 = .ok (.iload 4, 2) := by decide +kernel
theorem d_Mo_fill_61 : decode cc_Mo_fill 61 = .ok (.iaload, 1) := by decide +kernel
theorem d_Mo_fill_62 : decode cc_Mo_fill 62 = .ok (.iconst 1, 1) := by decide +kernel
theorem d_Mo_fill_63 : decode cc_Mo_fill 63 = .ok (.if_icmp .ne 7, 3) := by decide +kernel
theorem d_Mo_fill_66 : decode cc_Mo_fill 66 = .ok (.iconst 0, 1) := by decide +kernel
theorem d_Mo_fill_67 : decode cc_Mo_fill 67 = .ok (.goto 10, 3) := by decide +kernel
theorem d_Mo_fill_70 : decode cc_Mo_fill 70 = .ok (.aload_n 0, 1) := by decide +kernel
theorem d_Mo_fill_71 : decode cc_Mo_fill 71 = .ok (.getfield 28, 3) := by decide +kernel
theorem d_Mo_fill_74 : decode cc_Mo_fill 74 = .ok (.iload 5, 2) := by decide +kernel
theorem d_Mo_fill_76 : decode cc_Mo_fill 76 = .ok (.iaload, 1) := by decide +kernel
theorem d_Mo_fill_77 : decode cc_Mo_fill 77 = .ok (.istore 6, 2) := by decide +kernel
theorem d_Mo_fill_79 : decode cc_Mo_fill 79 = .ok (.aload_n 0, 1) := by decide +kernel
theorem d_Mo_fill_80 : decode cc_Mo_fill 80 = .ok (.getfield 40, 3) := by decide +kernel
theorem d_Mo_fill_83 : decode cc_Mo_fill 83 = .ok (.iload 4, 2) := by decide +kernel
theorem d_Mo_fill_85 : decode cc_Mo_fill 85 = .ok (.iaload, 1) := by decide +kernel
theorem d_Mo_fill_86 : decode cc_Mo_fill 86 = .ok (.iconst 1, 1) := by decide +kernel
theorem d_Mo_fill_87 : decode cc_Mo_fill 87 = .ok (.if_icmp .ne 12, 3) := by decide +kernel
theorem d_Mo_fill_90 : decode cc_Mo_fill 90 = .ok (.aload_n 0, 1) := by decide +kernel
theorem d_Mo_fill_91 : decode cc_Mo_fill 91 = .ok (.iload 4, 2) := by decide +kernel
theorem d_Mo_fill_93 : decode cc_Mo_fill 93 = .ok (.invokevirtual 190, 3) := by decide +kernel
theorem d_Mo_fill_96 : decode cc_Mo_fill 96 = .ok (.goto 36, 3) := by decide +kernel
theorem d_Mo_fill_99 : decode cc_Mo_fill 99 = .ok (.iload_n 2, 1) := by decide +kernel
theorem d_Mo_fill_100 : decode cc_Mo_fill 100 = .ok (.iconst 1, 1) := by decide +kernel
theorem d_Mo_fill_101 : decode cc_Mo_fill 101 = .ok (.iadd, 1) := by decide +kernel
theorem d_Mo_fill_102 : decode cc_Mo_fill 102 = .ok (.aload_n 0, 1) := by decide +kernel
theorem d_Mo_fill_103 : decode cc_Mo_fill 103 = .ok (.getfield 40, 3) := by decide +kernel
theorem d_Mo_fill_106 : decode cc_Mo_fill 106 = .ok (.iload 4, 2) := by decide +kernel
theorem d_Mo_fill_108 : decode cc_Mo_fill 108 = .ok (.iaload, 1) := by decide +kernel
theorem d_Mo_fill_109 : decode cc_Mo_fill 109 = .ok (.if_icmp .ge 15, 3) := by decide +kernel
theorem d_Mo_fill_112 : decode cc_Mo_fill 112 = .ok (.aload_n 0, 1) := by decide +kernel
theorem d_Mo_fill_113 : decode cc_Mo_fill 113 = .ok (.getfield 28, 3) := by decide +kernel
theorem d_Mo_fill_116 : decode cc_Mo_fill 116 = .ok (.iload 5, 2) := by decide +kernel
theorem d_Mo_fill_118 : decode cc_Mo_fill 118 = .ok (.iconst 1, 1) := by decide +kernel
theorem d_Mo_fill_119 : decode cc_Mo_fill 119 = .ok (.iadd, 1) := by decide +kernel
theorem d_Mo_fill_120 : decode cc_Mo_fill 120 = .ok (.iaload, 1) := by decide +kernel
theorem d_Mo_fill_121 : decode cc_Mo_fill 121 = .ok (.goto 11, 3) := by decide +kernel
theorem d_Mo_fill_124 : decode cc_Mo_fill 124 = .ok (.aload_n 0, 1) := by decide +kernel
theorem d_Mo_fill_125 : decode cc_Mo_fill 125 = .ok (.iload 4, 2) := by decide +kernel
theorem d_Mo_fill_127 : decode cc_Mo_fill 127 = .ok (.invokevirtual 190, 3) := by decide +kernel
theorem d_Mo_fill_130 : decode cc_Mo_fill 130 = .ok (.iconst 1, 1) := by decide +kernel
theorem d_Mo_fill_131 : decode cc_Mo_fill 131 = .ok (.isub, 1) := by decide +kernel
theorem d_Mo_fill_132 : decode cc_Mo_fill 132 = .ok (.istore 7, 2) := by decide +kernel
theorem d_Mo_fill_134 : decode cc_Mo_fill 134 = .ok (.aload_n 0, 1) := by decide +kernel
theorem d_Mo_fill_135 : decode cc_Mo_fill 135 = .ok (.iconst 0, 1) := by decide +kernel
theorem d_Mo_fill_136 : decode cc_Mo_fill 136 = .ok (.putfield 128, 3) := by decide +kernel
theorem d_Mo_fill_139 : decode cc_Mo_fill 139 = .ok (.iconst 0, 1) := by decide +kernel
theorem d_Mo_fill_140 : decode cc_Mo_fill 140 = .ok (.istore 8, 2) := by decide +kernel
theorem d_Mo_fill_142 : decode cc_Mo_fill 142 = .ok (.iload 8, 2) := by decide +kernel
theorem d_Mo_fill_144 : decode cc_Mo_fill 144 = .ok (.aload_n 0, 1) := by decide +kernel
theorem d_Mo_fill_145 : decode cc_Mo_fill 145 = .ok (.getfield 19, 3) := by decide +kernel
theorem d_Mo_fill_148 : decode cc_Mo_fill 148 = .ok (.iload 4, 2) := by decide +kernel
theorem d_Mo_fill_150 : decode cc_Mo_fill 150 = .ok (.iaload, 1) := by decide +kernel
theorem d_Mo_fill_151 : decode cc_Mo_fill 151 = .ok (.if_icmp .ge 139, 3) := by decide +kernel
theorem d_Mo_fill_154 : decode cc_Mo_fill 154 = .ok (.iload 8, 2) := by decide +kernel
theorem d_Mo_fill_156 : decode cc_Mo_fill 156 = .ok (.iload 6, 2) := by decide +kernel
theorem d_Mo_fill_158 : decode cc_Mo_fill 158 = .ok (.if_icmp .lt 13, 3) := by decide +kernel
theorem d_Mo_fill_161 : decode cc_Mo_fill 161 = .ok (.iload 8, 2) := by decide +kernel
theorem d_Mo_fill_163 : decode cc_Mo_fill 163 = .ok (.iload 7, 2) := by decide +kernel
theorem d_Mo_fill_165 : decode cc_Mo_fill 165 = .ok (.if_icmp .ge 6, 3) := by decide +kernel
theorem d_Mo_fill_168 : decode cc_Mo_fill 168 = .ok (.goto 116, 3) := by decide +kernel
theorem d_Mo_fill_171 : decode cc_Mo_fill 171 = .ok (.aload_n 0, 1) := by decide +kernel
theorem d_Mo_fill_172 : decode cc_Mo_fill 172 = .ok (.iload 4, 2) := by decide +kernel
theorem d_Mo_fill_174 : decode cc_Mo_fill 174 = .ok (.iload 8, 2) := by decide +kernel
theorem d_Mo_fill_176 : decode cc_Mo_fill 176 = .ok (.invokevirtual 119, 3) := by decide +kernel
theorem d_Mo_fill_179 : decode cc_Mo_fill 179 = .ok (.iconst 2, 1) := by decide +kernel
theorem d_Mo_fill_180 : decode cc_Mo_fill 180 = .ok (.if_icmp .ne 18, 3) := by decide +kernel
theorem d_Mo_fill_183 : decode cc_Mo_fill 183 = .ok (.aload_n 0, 1) := by decide +kernel
theorem d_Mo_fill_184 : decode cc_Mo_fill 184 = .ok (.iload 4, 2) := by decide +kernel
theorem d_Mo_fill_186 : decode cc_Mo_fill 186 = .ok (.iload 4, 2) := by decide +kernel
theorem d_Mo_fill_188 : decode cc_Mo_fill 188 = .ok (.iload 8, 2) := by decide +kernel
theorem d_Mo_fill_190 : decode cc_Mo_fill 190 = .ok (.invokevirtual 125, 3) := by decide +kernel
theorem d_Mo_fill_193 : decode cc_Mo_fill 193 = .ok (.iload 5, 2) := by decide +kernel
theorem d_Mo_fill_195 : decode cc_Mo_fill 195 = .ok (.if_icmp .eq 18, 3) := by decide +kernel
theorem d_Mo_fill_198 : decode cc_Mo_fill 198 = .ok (.aload_n 0, 1) := by decide +kernel
theorem d_Mo_fill_199 : decode cc_Mo_fill 199 = .ok (.aload_n 0, 1) := by decide +kernel
theorem d_Mo_fill_200 : decode cc_Mo_fill 200 = .ok (.iload 4, 2) := by decide +kernel
theorem d_Mo_fill_202 : decode cc_Mo_fill 202 = .ok (.iload 8, 2) := by decide +kernel
theorem d_Mo_fill_204 : decode cc_Mo_fill 204 = .ok (.invokevirtual 100, 3) := by decide +kernel
theorem d_Mo_fill_207 : decode cc_Mo_fill 207 = .ok (.invokevirtual 133, 3) := by decide +kernel
theorem d_Mo_fill_210 : decode cc_Mo_fill 210 = .ok (.goto 74, 3) := by decide +kernel
theorem d_Mo_fill_213 : decode cc_Mo_fill 213 = .ok (.aload_n 0, 1) := by decide +kernel
theorem d_Mo_fill_214 : decode cc_Mo_fill 214 = .ok (.iload 4, 2) := by decide +kernel
theorem d_Mo_fill_216 : decode cc_Mo_fill 216 = .ok (.iload 8, 2) := by decide +kernel
theorem d_Mo_fill_218 : decode cc_Mo_fill 218 = .ok (.iconst 1, 1) := by decide +kernel
theorem d_Mo_fill_219 : decode cc_Mo_fill 219 = .ok (.isub, 1) := by decide +kernel
theorem d_Mo_fill_220 : decode cc_Mo_fill 220 = .ok (.invokevirtual 119, 3) := by decide +kernel
theorem d_Mo_fill_223 : decode cc_Mo_fill 223 = .ok (.bipush 24, 2) := by decide +kernel
theorem d_Mo_fill_225 : decode cc_Mo_fill 225 = .ok (.if_icmp .ne 16, 3) := by decide +kernel
theorem d_Mo_fill_228 : decode cc_Mo_fill 228 = .ok (.aload_n 0, 1) := by decide +kernel
theorem d_Mo_fill_229 : decode cc_Mo_fill 229 = .ok (.iload_n 3, 1) := by decide +kernel
theorem d_Mo_fill_230 : decode cc_Mo_fill 230 = .ok (.iconst 0, 1) := by decide +kernel
theorem d_Mo_fill_231 : decode cc_Mo_fill 231 = .ok (.invokevirtual 119, 3) := by decide +kernel
theorem d_Mo_fill_234 : decode cc_Mo_fill 234 = .ok (.iconst 3, 1) := by decide +kernel
theorem d_Mo_fill_235 : decode cc_Mo_fill 235 = .ok (.if_icmp .ne 6, 3) := by decide +kernel
theorem d_Mo_fill_238 : decode cc_Mo_fill 238 = .ok (.bipush (-100), 2) := by decide +kernel
theorem d_Mo_fill_240 : decode cc_Mo_fill 240 = .ok (.ireturn, 1) := by decide +kernel
theorem d_Mo_fill_241 : decode cc_Mo_fill 241 = .ok (.iconst 0, 1) := by decide +kernel
theorem d_Mo_fill_242 : decode cc_Mo_fill 242 = .ok (.istore 9, 2) := by decide +kernel
theorem d_Mo_fill_244 : decode cc_Mo_fill 244 = .ok (.iload 9, 2) := by decide +kernel
theorem d_Mo_fill_246 : decode cc_Mo_fill 246 = .ok (.aload_n 0, 1) := by decide +kernel
theorem d_Mo_fill_247 : decode cc_Mo_fill 247 = .ok (.getfield 19, 3) := by decide +kernel
theorem d_Mo_fill_250 : decode cc_Mo_fill 250 = .ok (.iload_n 3, 1) := by decide +kernel
theorem d_Mo_fill_251 : decode cc_Mo_fill 251 = .ok (.iaload, 1) := by decide +kernel
theorem d_Mo_fill_252 : decode cc_Mo_fill 252 = .ok (.if_icmp .ge 20, 3) := by decide +kernel
theorem d_Mo_fill_255 : decode cc_Mo_fill 255 = .ok (.aload_n 0, 1) := by decide +kernel
theorem d_Mo_fill_256 : decode cc_Mo_fill 256 = .ok (.aload_n 0, 1) := by decide +kernel
theorem d_Mo_fill_257 : decode cc_Mo_fill 257 = .ok (.iload_n 3, 1) := by decide +kernel
theorem d_Mo_fill_258 : decode cc_Mo_fill 258 = .ok (.iload 9, 2) := by decide +kernel
theorem d_Mo_fill_260 : decode cc_Mo_fill 260 = .ok (.invokevirtual 100, 3) := by decide +kernel
theorem d_Mo_fill_263 : decode cc_Mo_fill 263 = .ok (.invokevirtual 133, 3) := by decide +kernel
theorem d_Mo_fill_266 : decode cc_Mo_fill 266 = .ok (.iinc 9 1, 3) := by decide +kernel
theorem d_Mo_fill_269 : decode cc_Mo_fill 269 = .ok (.goto (-25), 3) := by decide +kernel
theorem d_Mo_fill_272 : decode cc_Mo_fill 272 = .ok (.aload_n 0, 1) := by decide +kernel
theorem d_Mo_fill_273 : decode cc_Mo_fill 273 = .ok (.iload 4, 2) := by decide +kernel
theorem d_Mo_fill_275 : decode cc_Mo_fill 275 = .ok (.iload 8, 2) := by decide +kernel
theorem d_Mo_fill_277 : decode cc_Mo_fill 277 = .ok (.iconst 1, 1) := by decide +kernel
theorem d_Mo_fill_278 : decode cc_Mo_fill 278 = .ok (.iadd, 1) := by decide +kernel
theorem d_Mo_fill_279 : decode cc_Mo_fill 279 = .ok (.invokevirtual 122, 3) := by decide +kernel
theorem d_Mo_fill_282 : decode cc_Mo_fill 282 = .ok (.istore 8, 2) := by decide +kernel
theorem d_Mo_fill_284 : decode cc_Mo_fill 284 = .ok (.iinc 8 1, 3) := by decide +kernel
theorem d_Mo_fill_287 : decode cc_Mo_fill 287 = .ok (.goto (-145), 3) := by decide +kernel
theorem d_Mo_fill_290 : decode cc_Mo_fill 290 = .ok (.aload_n 0, 1) := by decide +kernel
theorem d_Mo_fill_291 : decode cc_Mo_fill 291 = .ok (.getfield 128, 3) := by decide +kernel
theorem d_Mo_fill_294 : decode cc_Mo_fill 294 = .ok (.bipush 120, 2) := by decide +kernel
theorem d_Mo_fill_296 : decode cc_Mo_fill 296 = .ok (.if_icmp .gt 12, 3) := by decide +kernel
theorem d_Mo_fill_299 : decode cc_Mo_fill 299 = .ok (.aload_n 0, 1) := by decide +kernel
theorem d_Mo_fill_300 : decode cc_Mo_fill 300 = .ok (.getfield 110, 3) := by decide +kernel
theorem d_Mo_fill_303 : decode cc_Mo_fill 303 = .ok (.bipush 24, 2) := by decide +kernel
theorem d_Mo_fill_305 : decode cc_Mo_fill 305 = .ok (.if_icmp .ne 6, 3) := by decide +kernel
theorem d_Mo_fill_308 : decode cc_Mo_fill 308 = .ok (.bipush (-100), 2) := by decide +kernel
theorem d_Mo_fill_310 : decode cc_Mo_fill 310 = .ok (.ireturn, 1) := by decide +kernel
theorem d_Mo_fill_311 : decode cc_Mo_fill 311 = .ok (.aload_n 0, 1) := by decide +kernel
theorem d_Mo_fill_312 : decode cc_Mo_fill 312 = .ok (.getfield 22, 3) := by decide +kernel
theorem d_Mo_fill_315 : decode cc_Mo_fill 315 = .ok (.aload_n 0, 1) := by decide +kernel
theorem d_Mo_fill_316 : decode cc_Mo_fill 316 = .ok (.getfield 110, 3) := by decide +kernel
theorem d_Mo_fill_319 : decode cc_Mo_fill 319 = .ok (.aload_n 0, 1) := by decide +kernel
theorem d_Mo_fill_320 : decode cc_Mo_fill 320 = .ok (.getfield 22, 3) := by decide +kernel
theorem d_Mo_fill_323 : decode cc_Mo_fill 323 = .ok (.iload 4, 2) := by decide +kernel
theorem d_Mo_fill_325 : decode cc_Mo_fill 325 = .ok (.iaload, 1) := by decide +kernel
theorem d_Mo_fill_326 : decode cc_Mo_fill 326 = .ok (.iastore, 1) := by decide +kernel
theorem d_Mo_fill_327 : decode cc_Mo_fill 327 = .ok (.aload_n 0, 1) := by decide +kernel
theorem d_Mo_fill_328 : decode cc_Mo_fill 328 = .ok (.getfield 19, 3) := by decide +kernel
theorem d_Mo_fill_331 : decode cc_Mo_fill 331 = .ok (.aload_n 0, 1) := by decide +kernel
theorem d_Mo_fill_332 : decode cc_Mo_fill 332 = .ok (.getfield 110, 3) := by decide +kernel
theorem d_Mo_fill_335 : decode cc_Mo_fill 335 = .ok (.aload_n 0, 1) := by decide +kernel
theorem d_Mo_fill_336 : decode cc_Mo_fill 336 = .ok (.getfield 128, 3) := by decide +kernel
theorem d_Mo_fill_339 : decode cc_Mo_fill 339 = .ok (.iastore, 1) := by decide +kernel
theorem d_Mo_fill_340 : decode cc_Mo_fill 340 = .ok (.iconst 0, 1) := by decide +kernel
theorem d_Mo_fill_341 : decode cc_Mo_fill 341 = .ok (.istore 8, 2) := by decide +kernel
theorem d_Mo_fill_343 : decode cc_Mo_fill 343 = .ok (.iload 8, 2) := by decide +kernel
theorem d_Mo_fill_345 : decode cc_Mo_fill 345 = .ok (.aload_n 0, 1) := by decide +kernel
theorem d_Mo_fill_346 : decode cc_Mo_fill 346 = .ok (.getfield 128, 3) := by decide +kernel
theorem d_Mo_fill_349 : decode cc_Mo_fill 349 = .ok (.if_icmp .ge 31, 3) := by decide +kernel
theorem d_Mo_fill_352 : decode cc_Mo_fill 352 = .ok (.aload_n 0, 1) := by decide +kernel
theorem d_Mo_fill_353 : decode cc_Mo_fill 353 = .ok (.getfield 13, 3) := by decide +kernel
theorem d_Mo_fill_356 : decode cc_Mo_fill 356 = .ok (.bipush 120, 2) := by decide +kernel
theorem d_Mo_fill_358 : decode cc_Mo_fill 358 = .ok (.aload_n 0, 1) := by decide +kernel
theorem d_Mo_fill_359 : decode cc_Mo_fill 359 = .ok (.getfield 110, 3) := by decide +kernel
theorem d_Mo_fill_362 : decode cc_Mo_fill 362 = .ok (.imul, 1) := by decide +kernel
theorem d_Mo_fill_363 : decode cc_Mo_fill 363 = .ok (.iload 8, 2) := by decide +kernel
theorem d_Mo_fill_365 : decode cc_Mo_fill 365 = .ok (.iadd, 1) := by decide +kernel
theorem d_Mo_fill_366 : decode cc_Mo_fill 366 = .ok (.aload_n 0, 1) := by decide +kernel
theorem d_Mo_fill_367 : decode cc_Mo_fill 367 = .ok (.getfield 46, 3) := by decide +kernel
theorem d_Mo_fill_370 : decode cc_Mo_fill 370 = .ok (.iload 8, 2) := by decide +kernel
theorem d_Mo_fill_372 : decode cc_Mo_fill 372 = .ok (.iaload, 1) := by decide +kernel
theorem d_Mo_fill_373 : decode cc_Mo_fill 373 = .ok (.iastore, 1) := by decide +kernel
theorem d_Mo_fill_374 : decode cc_Mo_fill 374 = .ok (.iinc 8 1, 3) := by decide +kernel
theorem d_Mo_fill_377 : decode cc_Mo_fill 377 = .ok (.goto (-34), 3) := by decide +kernel
theorem d_Mo_fill_380 : decode cc_Mo_fill 380 = .ok (.aload_n 0, 1) := by decide +kernel
theorem d_Mo_fill_381 : decode cc_Mo_fill 381 = .ok (.aload_n 0, 1) := by decide +kernel
theorem d_Mo_fill_382 : decode cc_Mo_fill 382 = .ok (.getfield 110, 3) := by decide +kernel
theorem d_Mo_fill_385 : decode cc_Mo_fill 385 = .ok (.invokevirtual 113, 3) := by decide +kernel
theorem d_Mo_fill_388 : decode cc_Mo_fill 388 = .ok (.ifCond .ge 24, 3) := by decide +kernel
theorem d_Mo_fill_391 : decode cc_Mo_fill 391 = .ok (.aload_n 0, 1) := by decide +kernel
theorem d_Mo_fill_392 : decode cc_Mo_fill 392 = .ok (.getfield 40, 3) := by decide +kernel
theorem d_Mo_fill_395 : decode cc_Mo_fill 395 = .ok (.aload_n 0, 1) := by decide +kernel
theorem d_Mo_fill_396 : decode cc_Mo_fill 396 = .ok (.getfield 110, 3) := by decide +kernel
theorem d_Mo_fill_399 : decode cc_Mo_fill 399 = .ok (.iaload, 1) := by decide +kernel
theorem d_Mo_fill_400 : decode cc_Mo_fill 400 = .ok (.aload_n 0, 1) := by decide +kernel
theorem d_Mo_fill_401 : decode cc_Mo_fill 401 = .ok (.getfield 40, 3) := by decide +kernel
theorem d_Mo_fill_404 : decode cc_Mo_fill 404 = .ok (.iload 4, 2) := by decide +kernel
theorem d_Mo_fill_406 : decode cc_Mo_fill 406 = .ok (.iaload, 1) := by decide +kernel
theorem d_Mo_fill_407 : decode cc_Mo_fill 407 = .ok (.iconst 1, 1) := by decide +kernel
theorem d_Mo_fill_408 : decode cc_Mo_fill 408 = .ok (.isub, 1) := by decide +kernel
theorem d_Mo_fill_409 : decode cc_Mo_fill 409 = .ok (.if_icmp .eq 6, 3) := by decide +kernel
theorem d_Mo_fill_412 : decode cc_Mo_fill 412 = .ok (.bipush (-100), 2) := by decide +kernel
theorem d_Mo_fill_414 : decode cc_Mo_fill 414 = .ok (.ireturn, 1) := by decide +kernel
theorem d_Mo_fill_415 : decode cc_Mo_fill 415 = .ok (.aload_n 0, 1) := by decide +kernel
theorem d_Mo_fill_416 : decode cc_Mo_fill 416 = .ok (.getfield 25, 3) := by decide +kernel
theorem d_Mo_fill_419 : decode cc_Mo_fill 419 = .ok (.aload_n 0, 1) := by decide +kernel
theorem d_Mo_fill_420 : decode cc_Mo_fill 420 = .ok (.getfield 110, 3) := by decide +kernel
theorem d_Mo_fill_423 : decode cc_Mo_fill 423 = .ok (.aload_n 0, 1) := by decide +kernel
theorem d_Mo_fill_424 : decode cc_Mo_fill 424 = .ok (.getfield 25, 3) := by decide +kernel
theorem d_Mo_fill_427 : decode cc_Mo_fill 427 = .ok (.iload 4, 2) := by decide +kernel
theorem d_Mo_fill_429 : decode cc_Mo_fill 429 = .ok (.iaload, 1) := by decide +kernel
theorem d_Mo_fill_430 : decode cc_Mo_fill 430 = .ok (.iastore, 1) := by decide +kernel
theorem d_Mo_fill_431 : decode cc_Mo_fill 431 = .ok (.aload_n 0, 1) := by decide +kernel
theorem d_Mo_fill_432 : decode cc_Mo_fill 432 = .ok (.dup, 1) := by decide +kernel
theorem d_Mo_fill_433 : decode cc_Mo_fill 433 = .ok (.getfield 110, 3) := by decide +kernel
theorem d_Mo_fill_436 : decode cc_Mo_fill 436 = .ok (.iconst 1, 1) := by decide +kernel
theorem d_Mo_fill_437 : decode cc_Mo_fill 437 = .ok (.iadd, 1) := by decide +kernel
theorem d_Mo_fill_438 : decode cc_Mo_fill 438 = .ok (.putfield 110, 3) := by decide +kernel
theorem d_Mo_fill_441 : decode cc_Mo_fill 441 = .ok (.aload_n 0, 1) := by decide +kernel
theorem d_Mo_fill_442 : decode cc_Mo_fill 442 = .ok (.getfield 110, 3) := by decide +kernel
theorem d_Mo_fill_445 : decode cc_Mo_fill 445 = .ok (.iconst 1, 1) := by decide +kernel
theorem d_Mo_fill_446 : decode cc_Mo_fill 446 = .ok (.isub, 1) := by decide +kernel
theorem d_Mo_fill_447 : decode cc_Mo_fill 447 = .ok (.ireturn, 1) := by decide +kernel
theorem d_Mo_parameters_0 : decode cc_Mo_parameters 0 = .ok (.aload_n 0, 1) := by decide +kernel
theorem d_Mo_parameters_1 : decode cc_Mo_parameters 1 = .ok (.iload_n 1, 1) := by decide +kernel
theorem d_Mo_parameters_2 : decode cc_Mo_parameters 2 = .ok (.invokevirtual 116, 3) := by decide +kernel
theorem d_Mo_parameters_5 : decode cc_Mo_parameters 5 = .ok (.ifCond .eq 8, 3) := by decide +kernel
theorem d_Mo_parameters_8 : decode cc_Mo_parameters 8 = .ok (.bipush (-100), 2) := by decide +kernel
theorem d_Mo_parameters_10 : decode cc_Mo_parameters 10 = .ok (.goto 9, 3) := by decide +kernel
theorem d_Mo_parameters_13 : decode cc_Mo_parameters 13 = .ok (.aload_n 0, 1) := by decide +kernel
theorem d_Mo_parameters_14 : decode cc_Mo_parameters 14 = .ok (.getfield 40, 3) := by decide +kernel
theorem d_Mo_parameters_17 : decode cc_Mo_parameters 17 = .ok (.iload_n 1, 1) := by decide +kernel
theorem d_Mo_parameters_18 : decode cc_Mo_parameters 18 = .ok (.iaload, 1) := by decide +kernel
theorem d_Mo_parameters_19 : decode cc_Mo_parameters 19 = .ok (.ireturn, 1) := by decide +kernel
theorem d_Mo_bounds_0 : decode cc_Mo_bounds 0 = .ok (.aload_n 0, 1) := by decide +kernel
theorem d_Mo_bounds_1 : decode cc_Mo_bounds 1 = .ok (.iload_n 1, 1) := by decide +kernel
theorem d_Mo_bounds_2 : decode cc_Mo_bounds 2 = .ok (.invokevirtual 116, 3) := by decide +kernel
theorem d_Mo_bounds_5 : decode cc_Mo_bounds 5 = .ok (.ifCond .ne 17, 3) := by decide +kernel
theorem d_Mo_bounds_8 : decode cc_Mo_bounds 8 = .ok (.iload_n 2, 1) := by decide +kernel
theorem d_Mo_bounds_9 : decode cc_Mo_bounds 9 = .ok (.ifCond .lt 13, 3) := by decide +kernel
theorem d_Mo_bounds_12 : decode cc_Mo_bounds 12 = .ok (.iload_n 2, 1) := by decide +kernel
theorem d_Mo_bounds_13 : decode cc_Mo_bounds 13 = .ok (.aload_n 0, 1) := by decide +kernel
theorem d_Mo_bounds_14 : decode cc_Mo_bounds 14 = .ok (.getfield 40, 3) := by decide +kernel
theorem d_Mo_bounds_17 : decode cc_Mo_bounds 17 = .ok (.iload_n 1, 1) := by decide +kernel
theorem d_Mo_bounds_18 : decode cc_Mo_bounds 18 = .ok (.iaload, 1) := by decide +kernel
theorem d_Mo_bounds_19 : decode cc_Mo_bounds 19 = .ok (.if_icmp .lt 8, 3) := by decide +kernel
theorem d_Mo_bounds_22 : decode cc_Mo_bounds 22 = .ok (.bipush (-100), 2) := by decide +kernel
theorem d_Mo_bounds_24 : decode cc_Mo_bounds 24 = .ok (.goto 14, 3) := by decide +kernel
theorem d_Mo_bounds_27 : decode cc_Mo_bounds 27 = .ok (.aload_n 0, 1) := by decide +kernel
theorem d_Mo_bounds_28 : decode cc_Mo_bounds 28 = .ok (.getfield 37, 3) := by decide +kernel
theorem d_Mo_bounds_31 : decode cc_Mo_bounds 31 = .ok (.bipush 20, 2) := by decide +kernel
theorem d_Mo_bounds_33 : decode cc_Mo_bounds 33 = .ok (.iload_n 1, 1) := by decide +kernel
theorem d_Mo_bounds_34 : decode cc_Mo_bounds 34 = .ok (.imul, 1) := by decide +kernel
theorem d_Mo_bounds_35 : decode cc_Mo_bounds 35 = .ok (.iload_n 2, 1) := by decide +kernel
theorem d_Mo_bounds_36 : decode cc_Mo_bounds 36 = .ok (.iadd, 1) := by decide +kernel
theorem d_Mo_bounds_37 : decode cc_Mo_bounds 37 = .ok (.iaload, 1) := by decide +kernel
theorem d_Mo_bounds_38 : decode cc_Mo_bounds 38 = .ok (.ireturn, 1) := by decide +kernel
theorem d_Mo_measure_0 : decode cc_Mo_measure 0 = .ok (.aload_n 0, 1) := by decide +kernel
theorem d_Mo_measure_1 : decode cc_Mo_measure 1 = .ok (.iload_n 1, 1) := by decide +kernel
theorem d_Mo_measure_2 : decode cc_Mo_measure 2 = .ok (.invokevirtual 116, 3) := by decide +kernel
theorem d_Mo_measure_5 : decode cc_Mo_measure 5 = .ok (.ifCond .ne 12, 3) := by decide +kernel
theorem d_Mo_measure_8 : decode cc_Mo_measure 8 = .ok (.iload_n 2, 1) := by decide +kernel
theorem d_Mo_measure_9 : decode cc_Mo_measure 9 = .ok (.ifCond .lt 8, 3) := by decide +kernel
theorem d_Mo_measure_12 : decode cc_Mo_measure 12 = .ok (.iload_n 2, 1) := by decide +kernel
theorem d_Mo_measure_13 : decode cc_Mo_measure 13 = .ok (.iconst 5, 1) := by decide +kernel
theorem d_Mo_measure_14 : decode cc_Mo_measure 14 = .ok (.if_icmp .le 6, 3) := by decide +kernel
theorem d_Mo_measure_17 : decode cc_Mo_measure 17 = .ok (.bipush (-100), 2) := by decide +kernel
theorem d_Mo_measure_19 : decode cc_Mo_measure 19 = .ok (.ireturn, 1) := by decide +kernel
theorem d_Mo_measure_20 : decode cc_Mo_measure 20 = .ok (.iconst 0, 1) := by decide +kernel
theorem d_Mo_measure_21 : decode cc_Mo_measure 21 = .ok (.istore_n 3, 1) := by decide +kernel
theorem d_Mo_measure_22 : decode cc_Mo_measure 22 = .ok (.iconst 0, 1) := by decide +kernel
theorem d_Mo_measure_23 : decode cc_Mo_measure 23 = .ok (.istore 4, 2) := by decide +kernel
theorem d_Mo_measure_25 : decode cc_Mo_measure 25 = .ok (.iconst 0, 1) := by decide +kernel
theorem d_Mo_measure_26 : decode cc_Mo_measure 26 = .ok (.istore 5, 2) := by decide +kernel
theorem d_Mo_measure_28 : decode cc_Mo_measure 28 = .ok (.iconst 0, 1) := by decide +kernel
theorem d_Mo_measure_29 : decode cc_Mo_measure 29 = .ok (.istore 6, 2) := by decide +kernel
theorem d_Mo_measure_31 : decode cc_Mo_measure 31 = .ok (.iload 6, 2) := by decide +kernel
theorem d_Mo_measure_33 : decode cc_Mo_measure 33 = .ok (.aload_n 0, 1) := by decide +kernel
theorem d_Mo_measure_34 : decode cc_Mo_measure 34 = .ok (.getfield 19, 3) := by decide +kernel
theorem d_Mo_measure_37 : decode cc_Mo_measure 37 = .ok (.iload_n 1, 1) := by decide +kernel
theorem d_Mo_measure_38 : decode cc_Mo_measure 38 = .ok (.iaload, 1) := by decide +kernel
theorem d_Mo_measure_39 : decode cc_Mo_measure 39 = .ok (.if_icmp .ge 153, 3) := by decide +kernel
theorem d_Mo_measure_42 : decode cc_Mo_measure 42 = .ok (.aload_n 0, 1) := by decide +kernel
theorem d_Mo_measure_43 : decode cc_Mo_measure 43 = .ok (.iload_n 1, 1) := by decide +kernel
theorem d_Mo_measure_44 : decode cc_Mo_measure 44 = .ok (.iload 6, 2) := by decide +kernel
theorem d_Mo_measure_46 : decode cc_Mo_measure 46 = .ok (.invokevirtual 119, 3) := by decide +kernel
theorem d_Mo_measure_49 : decode cc_Mo_measure 49 = .ok (.istore 7, 2) := by decide +kernel
theorem d_Mo_measure_51 : decode cc_Mo_measure 51 = .ok (.iload 7, 2) := by decide +kernel
theorem d_Mo_measure_53 : decode cc_Mo_measure 53 = .ok (.iconst 2, 1) := by decide +kernel
theorem d_Mo_measure_54 : decode cc_Mo_measure 54 = .ok (.if_icmp .ne 54, 3) := by decide +kernel
theorem d_Mo_measure_57 : decode cc_Mo_measure 57 = .ok (.iload_n 2, 1) := by decide +kernel
theorem d_Mo_measure_58 : decode cc_Mo_measure 58 = .ok (.iconst 3, 1) := by decide +kernel
theorem d_Mo_measure_59 : decode cc_Mo_measure 59 = .ok (.if_icmp .ge 49, 3) := by decide +kernel
theorem d_Mo_measure_62 : decode cc_Mo_measure 62 = .ok (.aload_n 0, 1) := by decide +kernel
theorem d_Mo_measure_63 : decode cc_Mo_measure 63 = .ok (.iload_n 1, 1) := by decide +kernel
theorem d_Mo_measure_64 : decode cc_Mo_measure 64 = .ok (.iload 6, 2) := by decide +kernel
theorem d_Mo_measure_66 : decode cc_Mo_measure 66 = .ok (.invokevirtual 211, 3) := by decide +kernel
theorem d_Mo_measure_69 : decode cc_Mo_measure 69 = .ok (.ifCond .eq 7, 3) := by decide +kernel
theorem d_Mo_measure_72 : decode cc_Mo_measure 72 = .ok (.iconst 1, 1) := by decide +kernel
theorem d_Mo_measure_73 : decode cc_Mo_measure 73 = .ok (.goto 24, 3) := by decide +kernel
theorem d_Mo_measure_76 : decode cc_Mo_measure 76 = .ok (.aload_n 0, 1) := by decide +kernel
theorem d_Mo_measure_77 : decode cc_Mo_measure 77 = .ok (.aload_n 0, 1) := by decide +kernel
theorem d_Mo_measure_78 : decode cc_Mo_measure 78 = .ok (.getfield 25, 3) := by decide +kernel
theorem d_Mo_measure_81 : decode cc_Mo_measure 81 = .ok (.iload_n 1, 1) := by decide +kernel
theorem d_Mo_measure_82 : decode cc_Mo_measure 82 = .ok (.iaload, 1) := by decide +kernel
theorem d_Mo_measure_83 : decode cc_Mo_measure 83 = .ok (.iload_n 1, 1) := by decide +kernel
theorem d_Mo_measure_84 : decode cc_Mo_measure 84 = .ok (.iload 6, 2) := by decide +kernel
theorem d_Mo_measure_86 : decode cc_Mo_measure 86 = .ok (.invokevirtual 125, 3) := by decide +kernel
theorem d_Mo_measure_89 : decode cc_Mo_measure 89 = .ok (.ifCond .lt 7, 3) := by decide +kernel
theorem d_Mo_measure_92 : decode cc_Mo_measure 92 = .ok (.iconst 2, 1) := by decide +kernel
theorem d_Mo_measure_93 : decode cc_Mo_measure 93 = .ok (.goto 4, 3) := by decide +kernel
theorem d_Mo_measure_96 : decode cc_Mo_measure 96 = .ok (.iconst 0, 1) := by decide +kernel
theorem d_Mo_measure_97 : decode cc_Mo_measure 97 = .ok (.istore 8, 2) := by decide +kernel
theorem d_Mo_measure_99 : decode cc_Mo_measure 99 = .ok (.iload 8, 2) := by decide +kernel
theorem d_Mo_measure_101 : decode cc_Mo_measure 101 = .ok (.iload_n 2, 1) := by decide +kernel
theorem d_Mo_measure_102 : decode cc_Mo_measure 102 = .ok (.if_icmp .ne 6, 3) := by decide +kernel
theorem d_Mo_measure_105 : decode cc_Mo_measure 105 = .ok (.iinc 3 1, 3) := by decide +kernel
theorem d_Mo_measure_108 : decode cc_Mo_measure 108 = .ok (.iload 7, 2) := by decide +kernel
theorem d_Mo_measure_110 : decode cc_Mo_measure 110 = .ok (.iconst 1, 1) := by decide +kernel
theorem d_Mo_measure_111 : decode cc_Mo_measure 111 = .ok (.if_icmp .ne 11, 3) := by decide +kernel
theorem d_Mo_measure_114 : decode cc_Mo_measure 114 = .ok (.iload_n 2, 1) := by decide +kernel
theorem d_Mo_measure_115 : decode cc_Mo_measure 115 = .ok (.iconst 3, 1) := by decide +kernel
theorem d_Mo_measure_116 : decode cc_Mo_measure 116 = .ok (.if_icmp .ne 6, 3) := by decide +kernel
theorem d_Mo_measure_119 : decode cc_Mo_measure 119 = .ok (.iinc 3 1, 3) := by decide +kernel
theorem d_Mo_measure_122 : decode cc_Mo_measure 122 = .ok (.iload 7, 2) := by decide +kernel
theorem d_Mo_measure_124 : decode cc_Mo_measure 124 = .ok (.bipush 8, 2) := by decide +kernel
theorem d_Mo_measure_126 : decode cc_Mo_measure 126 = .ok (.if_icmp .ne 6, 3) := by decide +kernel
theorem d_Mo_measure_129 : decode cc_Mo_measure 129 = .ok (.iinc 4 1, 3) := by decide +kernel
theorem d_Mo_measure_132 : decode cc_Mo_measure 132 = .ok (.iload 7, 2) := by decide +kernel
theorem d_Mo_measure_134 : decode cc_Mo_measure 134 = .ok (.bipush 13, 2) := by decide +kernel
theorem d_Mo_measure_136 : decode cc_Mo_measure 136 = .ok (.if_icmp .ne 6, 3) := by decide +kernel
theorem d_Mo_measure_139 : decode cc_Mo_measure 139 = .ok (.iinc 4 (-1), 3) := by decide +kernel
theorem d_Mo_measure_142 : decode cc_Mo_measure 142 = .ok (.iload_n 2, 1) := by decide +kernel
theorem d_Mo_measure_143 : decode cc_Mo_measure 143 = .ok (.iconst 4, 1) := by decide +kernel
theorem d_Mo_measure_144 : decode cc_Mo_measure 144 = .ok (.if_icmp .ne 12, 3) := by decide +kernel
theorem d_Mo_measure_147 : decode cc_Mo_measure 147 = .ok (.iload 4, 2) := by decide +kernel
theorem d_Mo_measure_149 : decode cc_Mo_measure 149 = .ok (.iload_n 3, 1) := by decide +kernel
theorem d_Mo_measure_150 : decode cc_Mo_measure 150 = .ok (.if_icmp .le 6, 3) := by decide +kernel
theorem d_Mo_measure_153 : decode cc_Mo_measure 153 = .ok (.iload 4, 2) := by decide +kernel
theorem d_Mo_measure_155 : decode cc_Mo_measure 155 = .ok (.istore_n 3, 1) := by decide +kernel
theorem d_Mo_measure_156 : decode cc_Mo_measure 156 = .ok (.iload 7, 2) := by decide +kernel
theorem d_Mo_measure_158 : decode cc_Mo_measure 158 = .ok (.iconst 3, 1) := by decide +kernel
theorem d_Mo_measure_159 : decode cc_Mo_measure 159 = .ok (.if_icmp .ne 10, 3) := by decide +kernel
theorem d_Mo_measure_162 : decode cc_Mo_measure 162 = .ok (.iload 5, 2) := by decide +kernel
theorem d_Mo_measure_164 : decode cc_Mo_measure 164 = .ok (.iconst 1, 1) := by decide +kernel
theorem d_Mo_measure_165 : decode cc_Mo_measure 165 = .ok (.iadd, 1) := by decide +kernel
theorem d_Mo_measure_166 : decode cc_Mo_measure 166 = .ok (.goto 4, 3) := by decide +kernel
theorem d_Mo_measure_169 : decode cc_Mo_measure 169 = .ok (.iconst 0, 1) := by decide +kernel
theorem d_Mo_measure_170 : decode cc_Mo_measure 170 = .ok (.istore 5, 2) := by decide +kernel
theorem d_Mo_measure_172 : decode cc_Mo_measure 172 = .ok (.iload_n 2, 1) := by decide +kernel
theorem d_Mo_measure_173 : decode cc_Mo_measure 173 = .ok (.iconst 5, 1) := by decide +kernel
theorem d_Mo_measure_174 : decode cc_Mo_measure 174 = .ok (.if_icmp .ne 12, 3) := by decide +kernel
theorem d_Mo_measure_177 : decode cc_Mo_measure 177 = .ok (.iload 5, 2) := by decide +kernel
theorem d_Mo_measure_179 : decode cc_Mo_measure 179 = .ok (.iload_n 3, 1) := by decide +kernel
theorem d_Mo_measure_180 : decode cc_Mo_measure 180 = .ok (.if_icmp .le 6, 3) := by decide +kernel
theorem d_Mo_measure_183 : decode cc_Mo_measure 183 = .ok (.iload 5, 2) := by decide +kernel
theorem d_Mo_measure_185 : decode cc_Mo_measure 185 = .ok (.istore_n 3, 1) := by decide +kernel
theorem d_Mo_measure_186 : decode cc_Mo_measure 186 = .ok (.iinc 6 1, 3) := by decide +kernel
theorem d_Mo_measure_189 : decode cc_Mo_measure 189 = .ok (.goto (-158), 3) := by decide +kernel
theorem d_Mo_measure_192 : decode cc_Mo_measure 192 = .ok (.iload_n 3, 1) := by decide +kernel
theorem d_Mo_measure_193 : decode cc_Mo_measure 193 = .ok (.ireturn, 1) := by decide +kernel
theorem d_Mo_count_0 : decode cc_Mo_count 0 = .ok (.iload_n 1, 1) := by decide +kernel
theorem d_Mo_count_1 : decode cc_Mo_count 1 = .ok (.ifCond .ne 10, 3) := by decide +kernel
theorem d_Mo_count_4 : decode cc_Mo_count 4 = .ok (.aload_n 0, 1) := by decide +kernel
theorem d_Mo_count_5 : decode cc_Mo_count 5 = .ok (.getfield 110, 3) := by decide +kernel
theorem d_Mo_count_8 : decode cc_Mo_count 8 = .ok (.goto 17, 3) := by decide +kernel
theorem d_Mo_count_11 : decode cc_Mo_count 11 = .ok (.iload_n 1, 1) := by decide +kernel
theorem d_Mo_count_12 : decode cc_Mo_count 12 = .ok (.iconst 1, 1) := by decide +kernel
theorem d_Mo_count_13 : decode cc_Mo_count 13 = .ok (.if_icmp .ne 10, 3) := by decide +kernel
theorem d_Mo_count_16 : decode cc_Mo_count 16 = .ok (.aload_n 0, 1) := by decide +kernel
theorem d_Mo_count_17 : decode cc_Mo_count 17 = .ok (.getfield 56, 3) := by decide +kernel
theorem d_Mo_count_20 : decode cc_Mo_count 20 = .ok (.goto 5, 3) := by decide +kernel
theorem d_Mo_count_23 : decode cc_Mo_count 23 = .ok (.bipush (-100), 2) := by decide +kernel
theorem d_Mo_count_25 : decode cc_Mo_count 25 = .ok (.ireturn, 1) := by decide +kernel
theorem d_Mo_init_0 : decode cc_Mo_init 0 = .ok (.aload_n 0, 1) := by decide +kernel
theorem d_Mo_init_1 : decode cc_Mo_init 1 = .ok (.invokespecial 1, 3) := by decide +kernel
theorem d_Mo_init_4 : decode cc_Mo_init 4 = .ok (.aload_n 0, 1) := by decide +kernel
theorem d_Mo_init_5 : decode cc_Mo_init 5 = .ok (.bipush 40, 2) := by decide +kernel
theorem d_Mo_init_7 : decode cc_Mo_init 7 = .ok (.newarray .int, 2) := by decide +kernel
theorem d_Mo_init_9 : decode cc_Mo_init 9 = .ok (.putfield 7, 3) := by decide +kernel
theorem d_Mo_init_12 : decode cc_Mo_init 12 = .ok (.aload_n 0, 1) := by decide +kernel
theorem d_Mo_init_13 : decode cc_Mo_init 13 = .ok (.sipush 3000, 3) := by decide +kernel
theorem d_Mo_init_16 : decode cc_Mo_init 16 = .ok (.newarray .int, 2) := by decide +kernel
theorem d_Mo_init_18 : decode cc_Mo_init 18 = .ok (.putfield 13, 3) := by decide +kernel
theorem d_Mo_init_21 : decode cc_Mo_init 21 = .ok (.aload_n 0, 1) := by decide +kernel
theorem d_Mo_init_22 : decode cc_Mo_init 22 = .ok (.sipush 3000, 3) := by decide +kernel
theorem d_Mo_init_25 : decode cc_Mo_init 25 = .ok (.newarray .int, 2) := by decide +kernel
theorem d_Mo_init_27 : decode cc_Mo_init 27 = .ok (.putfield 16, 3) := by decide +kernel
theorem d_Mo_init_30 : decode cc_Mo_init 30 = .ok (.aload_n 0, 1) := by decide +kernel
theorem d_Mo_init_31 : decode cc_Mo_init 31 = .ok (.bipush 25, 2) := by decide +kernel
theorem d_Mo_init_33 : decode cc_Mo_init 33 = .ok (.newarray .int, 2) := by decide +kernel
theorem d_Mo_init_35 : decode cc_Mo_init 35 = .ok (.putfield 19, 3) := by decide +kernel
theorem d_Mo_init_38 : decode cc_Mo_init 38 = .ok (.aload_n 0, 1) := by decide +kernel
theorem d_Mo_init_39 : decode cc_Mo_init 39 = .ok (.bipush 25, 2) := by decide +kernel
theorem d_Mo_init_41 : decode cc_Mo_init 41 = .ok (.newarray .int, 2) := by decide +kernel
theorem d_Mo_init_43 : decode cc_Mo_init 43 = .ok (.putfield 22, 3) := by decide +kernel
theorem d_Mo_init_46 : decode cc_Mo_init 46 = .ok (.aload_n 0, 1) := by decide +kernel
theorem d_Mo_init_47 : decode cc_Mo_init 47 = .ok (.bipush 25, 2) := by decide +kernel
theorem d_Mo_init_49 : decode cc_Mo_init 49 = .ok (.newarray .int, 2) := by decide +kernel
theorem d_Mo_init_51 : decode cc_Mo_init 51 = .ok (.putfield 25, 3) := by decide +kernel
theorem d_Mo_init_54 : decode cc_Mo_init 54 = .ok (.aload_n 0, 1) := by decide +kernel
theorem d_Mo_init_55 : decode cc_Mo_init 55 = .ok (.sipush 500, 3) := by decide +kernel
theorem d_Mo_init_58 : decode cc_Mo_init 58 = .ok (.newarray .int, 2) := by decide +kernel
theorem d_Mo_init_60 : decode cc_Mo_init 60 = .ok (.putfield 28, 3) := by decide +kernel
theorem d_Mo_init_63 : decode cc_Mo_init 63 = .ok (.aload_n 0, 1) := by decide +kernel
theorem d_Mo_init_64 : decode cc_Mo_init 64 = .ok (.sipush 500, 3) := by decide +kernel
theorem d_Mo_init_67 : decode cc_Mo_init 67 = .ok (.newarray .int, 2) := by decide +kernel
theorem d_Mo_init_69 : decode cc_Mo_init 69 = .ok (.putfield 31, 3) := by decide +kernel
theorem d_Mo_init_72 : decode cc_Mo_init 72 = .ok (.aload_n 0, 1) := by decide +kernel
theorem d_Mo_init_73 : decode cc_Mo_init 73 = .ok (.sipush 500, 3) := by decide +kernel
theorem d_Mo_init_76 : decode cc_Mo_init 76 = .ok (.newarray .int, 2) := by decide +kernel
theorem d_Mo_init_78 : decode cc_Mo_init 78 = .ok (.putfield 34, 3) := by decide +kernel
theorem d_Mo_init_81 : decode cc_Mo_init 81 = .ok (.aload_n 0, 1) := by decide +kernel
theorem d_Mo_init_82 : decode cc_Mo_init 82 = .ok (.sipush 500, 3) := by decide +kernel
theorem d_Mo_init_85 : decode cc_Mo_init 85 = .ok (.newarray .int, 2) := by decide +kernel
theorem d_Mo_init_87 : decode cc_Mo_init 87 = .ok (.putfield 37, 3) := by decide +kernel
theorem d_Mo_init_90 : decode cc_Mo_init 90 = .ok (.aload_n 0, 1) := by decide +kernel
theorem d_Mo_init_91 : decode cc_Mo_init 91 = .ok (.bipush 25, 2) := by decide +kernel
theorem d_Mo_init_93 : decode cc_Mo_init 93 = .ok (.newarray .int, 2) := by decide +kernel
theorem d_Mo_init_95 : decode cc_Mo_init 95 = .ok (.putfield 40, 3) := by decide +kernel
theorem d_Mo_init_98 : decode cc_Mo_init 98 = .ok (.aload_n 0, 1) := by decide +kernel
theorem d_Mo_init_99 : decode cc_Mo_init 99 = .ok (.sipush 130, 3) := by decide +kernel
theorem d_Mo_init_102 : decode cc_Mo_init 102 = .ok (.newarray .int, 2) := by decide +kernel
theorem d_Mo_init_104 : decode cc_Mo_init 104 = .ok (.putfield 43, 3) := by decide +kernel
theorem d_Mo_init_107 : decode cc_Mo_init 107 = .ok (.aload_n 0, 1) := by decide +kernel
theorem d_Mo_init_108 : decode cc_Mo_init 108 = .ok (.sipush 5000, 3) := by decide +kernel
theorem d_Mo_init_111 : decode cc_Mo_init 111 = .ok (.newarray .int, 2) := by decide +kernel
theorem d_Mo_init_113 : decode cc_Mo_init 113 = .ok (.putfield 46, 3) := by decide +kernel
theorem d_Mo_init_116 : decode cc_Mo_init 116 = .ok (.aload_n 0, 1) := by decide +kernel
theorem d_Mo_init_117 : decode cc_Mo_init 117 = .ok (.sipush 5000, 3) := by decide +kernel
theorem d_Mo_init_120 : decode cc_Mo_init 120 = .ok (.newarray .int, 2) := by decide +kernel
theorem d_Mo_init_122 : decode cc_Mo_init 122 = .ok (.putfield 49, 3) := by decide +kernel
theorem d_Mo_init_125 : decode cc_Mo_init 125 = .ok (.aload_n 0, 1) := by decide +kernel
theorem d_Mo_init_126 : decode cc_Mo_init 126 = .ok (.sipush 500, 3) := by decide +kernel
theorem d_Mo_init_129 : decode cc_Mo_init 129 = .ok (.newarray .boolean, 2) := by decide +kernel
theorem d_Mo_init_131 : decode cc_Mo_init 131 = .ok (.putfield 52, 3) := by decide +kernel
theorem d_Mo_init_134 : decode cc_Mo_init 134 = .ok (.return_, 1) := by decide +kernel
