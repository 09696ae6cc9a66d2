theorem d_Mo_erase_62 : decode cc_Mo_erase 62 = .ok (.aload_n 0, 1) := by decide +kernel
theorem d_Mo_erase_63 : decode cc_Mo_erase 63 = .ok (.aload_n 0, 1) := by decide +kernel
theorem d_Mo_erase_64 : decode cc_Mo_erase 64 = .ok (.getfield 170, 3) := by decide +kernel
theorem d_Mo_erase_67 : decode cc_Mo_erase 67 = .ok (.aload_n 0, 1) := by decide +kernel
theorem d_Mo_erase_68 : decode cc_Mo_erase 68 = .ok (.getfield 173, 3) := by decide +kernel
theorem d_Mo_erase_71 : decode cc_Mo_erase 71 = .ok (.invokevirtual 100, 3) := by decide +kernel
theorem d_Mo_erase_74 : decode cc_Mo_erase 74 = .ok (.invokevirtual 133, 3) := by decide +kernel
theorem d_Mo_erase_77 : decode cc_Mo_erase 77 = .ok (.return_, 1) := by decide +kernel
theorem d_Mo_erase_78 : decode cc_Mo_erase 78 = .ok (.iconst 0, 1) := by decide +kernel
theorem d_Mo_erase_79 : decode cc_Mo_erase 79 = .ok (.istore_n 3, 1) := by decide +kernel
theorem d_Mo_erase_80 : decode cc_Mo_erase 80 = .ok (.aload_n 0, 1) := by decide +kernel
theorem d_Mo_erase_81 : decode cc_Mo_erase 81 = .ok (.getfield 173, 3) := by decide +kernel
theorem d_Mo_erase_84 : decode cc_Mo_erase 84 = .ok (.istore 4, 2) := by decide +kernel
theorem d_Mo_erase_86 : decode cc_Mo_erase 86 = .ok (.iload 4, 2) := by decide +kernel
theorem d_Mo_erase_88 : decode cc_Mo_erase 88 = .ok (.aload_n 0, 1) := by decide +kernel
theorem d_Mo_erase_89 : decode cc_Mo_erase 89 = .ok (.getfield 19, 3) := by decide +kernel
theorem d_Mo_erase_92 : decode cc_Mo_erase 92 = .ok (.aload_n 0, 1) := by decide +kernel
theorem d_Mo_erase_93 : decode cc_Mo_erase 93 = .ok (.getfield 170, 3) := by decide +kernel
theorem d_Mo_erase_96 : decode cc_Mo_erase 96 = .ok (.iaload, 1) := by decide +kernel
theorem d_Mo_erase_97 : decode cc_Mo_erase 97 = .ok (.if_icmp .ge 116, 3) := by decide +kernel
theorem d_Mo_erase_100 : decode cc_Mo_erase 100 = .ok (.aload_n 0, 1) := by decide +kernel
theorem d_Mo_erase_101 : decode cc_Mo_erase 101 = .ok (.aload_n 0, 1) := by decide +kernel
theorem d_Mo_erase_102 : decode cc_Mo_erase 102 = .ok (.getfield 170, 3) := by decide +kernel
theorem d_Mo_erase_105 : decode cc_Mo_erase 105 = .ok (.iload 4, 2) := by decide +kernel
theorem d_Mo_erase_107 : decode cc_Mo_erase 107 = .ok (.invokevirtual 119, 3) := by decide +kernel
theorem d_Mo_erase_110 : decode cc_Mo_erase 110 = .ok (.istore 5, 2) := by decide +kernel
theorem d_Mo_erase_112 : decode cc_Mo_erase 112 = .ok (.iload_n 3, 1) := by decide +kernel
theorem d_Mo_erase_113 : decode cc_Mo_erase 113 = .ok (.ifCond .ne 62, 3) := by decide +kernel
theorem d_Mo_erase_116 : decode cc_Mo_erase 116 = .ok (.iload 5, 2) := by decide +kernel
theorem d_Mo_erase_118 : decode cc_Mo_erase 118 = .ok (.iconst 1, 1) := by decide +kernel
theorem d_Mo_erase_119 : decode cc_Mo_erase 119 = .ok (.if_icmp .eq 30, 3) := by decide +kernel
theorem d_Mo_erase_122 : decode cc_Mo_erase 122 = .ok (.iload 5, 2) := by decide +kernel
theorem d_Mo_erase_124 : decode cc_Mo_erase 124 = .ok (.iconst 5, 1) := by decide +kernel
theorem d_Mo_erase_125 : decode cc_Mo_erase 125 = .ok (.if_icmp .eq 24, 3) := by decide +kernel
theorem d_Mo_erase_128 : decode cc_Mo_erase 128 = .ok (.iload 5, 2) := by decide +kernel
theorem d_Mo_erase_130 : decode cc_Mo_erase 130 = .ok (.bipush 6, 2) := by decide +kernel
theorem d_Mo_erase_132 : decode cc_Mo_erase 132 = .ok (.if_icmp .eq 17, 3) := by decide +kernel
theorem d_Mo_erase_135 : decode cc_Mo_erase 135 = .ok (.iload 5, 2) := by decide +kernel
theorem d_Mo_erase_137 : decode cc_Mo_erase 137 = .ok (.bipush 7, 2) := by decide +kernel
theorem d_Mo_erase_139 : decode cc_Mo_erase 139 = .ok (.if_icmp .eq 10, 3) := by decide +kernel
theorem d_Mo_erase_142 : decode cc_Mo_erase 142 = .ok (.iload 5, 2) := by decide +kernel
theorem d_Mo_erase_144 : decode cc_Mo_erase 144 = .ok (.bipush 9, 2) := by decide +kernel
theorem d_Mo_erase_146 : decode cc_Mo_erase 146 = .ok (.if_icmp .ne 29, 3) := by decide +kernel
theorem d_Mo_erase_149 : decode cc_Mo_erase 149 = .ok (.aload_n 0, 1) := by decide +kernel
theorem d_Mo_erase_150 : decode cc_Mo_erase 150 = .ok (.iload 5, 2) := by decide +kernel
theorem d_Mo_erase_152 : decode cc_Mo_erase 152 = .ok (.bipush 7, 2) := by decide +kernel
theorem d_Mo_erase_154 : decode cc_Mo_erase 154 = .ok (.if_icmp .ne 8, 3) := by decide +kernel
theorem d_Mo_erase_157 : decode cc_Mo_erase 157 = .ok (.bipush 36, 2) := by decide +kernel
theorem d_Mo_erase_159 : decode cc_Mo_erase 159 = .ok (.goto 13, 3) := by decide +kernel
theorem d_Mo_erase_162 : decode cc_Mo_erase 162 = .ok (.aload_n 0, 1) := by decide +kernel
theorem d_Mo_erase_163 : decode cc_Mo_erase 163 = .ok (.aload_n 0, 1) := by decide +kernel
theorem d_Mo_erase_164 : decode cc_Mo_erase 164 = .ok (.getfield 170, 3) := by decide +kernel
theorem d_Mo_erase_167 : decode cc_Mo_erase 167 = .ok (.iload 4, 2) := by decide +kernel
theorem d_Mo_erase_169 : decode cc_Mo_erase 169 = .ok (.invokevirtual 100, 3) := by decide +kernel
theorem d_Mo_erase_172 : decode cc_Mo_erase 172 = .ok (.invokevirtual 133, 3) := by decide +kernel
theorem d_Mo_erase_175 : decode cc_Mo_erase 175 = .ok (.iload 5, 2) := by decide +kernel
theorem d_Mo_erase_177 : decode cc_Mo_erase 177 = .ok (.bipush 8, 2) := by decide +kernel
theorem d_Mo_erase_179 : decode cc_Mo_erase 179 = .ok (.if_icmp .ne 6, 3) := by decide +kernel
theorem d_Mo_erase_182 : decode cc_Mo_erase 182 = .ok (.iinc 3 1, 3) := by decide +kernel
theorem d_Mo_erase_185 : decode cc_Mo_erase 185 = .ok (.iload 5, 2) := by decide +kernel
theorem d_Mo_erase_187 : decode cc_Mo_erase 187 = .ok (.bipush 13, 2) := by decide +kernel
theorem d_Mo_erase_189 : decode cc_Mo_erase 189 = .ok (.if_icmp .ne 6, 3) := by decide +kernel
theorem d_Mo_erase_192 : decode cc_Mo_erase 192 = .ok (.iinc 3 (-1), 3) := by decide +kernel
theorem d_Mo_erase_195 : decode cc_Mo_erase 195 = .ok (.iload 5, 2) := by decide +kernel
theorem d_Mo_erase_197 : decode cc_Mo_erase 197 = .ok (.bipush 9, 2) := by decide +kernel
theorem d_Mo_erase_199 : decode cc_Mo_erase 199 = .ok (.if_icmp .ne 8, 3) := by decide +kernel
theorem d_Mo_erase_202 : decode cc_Mo_erase 202 = .ok (.iload_n 3, 1) := by decide +kernel
theorem d_Mo_erase_203 : decode cc_Mo_erase 203 = .ok (.ifCond .ne 4, 3) := by decide +kernel
theorem d_Mo_erase_206 : decode cc_Mo_erase 206 = .ok (.return_, 1) := by decide +kernel
theorem d_Mo_erase_207 : decode cc_Mo_erase 207 = .ok (.iinc 4 1, 3) := by decide +kernel
theorem d_Mo_erase_210 : decode cc_Mo_erase 210 = .ok (.goto (-124), 3) := by decide +kernel
theorem d_Mo_erase_213 : decode cc_Mo_erase 213 = .ok (.return_, 1) := by decide +kernel
theorem d_Mo_eraseAll_0 : decode cc_Mo_eraseAll 0 = .ok (.aload_n 0, 1) := by decide +kernel
theorem d_Mo_eraseAll_1 : decode cc_Mo_eraseAll 1 = .ok (.iload_n 1, 1) := by decide +kernel
theorem d_Mo_eraseAll_2 : decode cc_Mo_eraseAll 2 = .ok (.invokevirtual 190, 3) := by decide +kernel
theorem d_Mo_eraseAll_5 : decode cc_Mo_eraseAll 5 = .ok (.istore_n 3, 1) := by decide +kernel
theorem d_Mo_eraseAll_6 : decode cc_Mo_eraseAll 6 = .ok (.iload_n 3, 1) := by decide +kernel
theorem d_Mo_eraseAll_7 : decode cc_Mo_eraseAll 7 = .ok (.aload_n 0, 1) := by decide +kernel
theorem d_Mo_eraseAll_8 : decode cc_Mo_eraseAll 8 = .ok (.getfield 19, 3) := by decide +kernel
theorem d_Mo_eraseAll_11 : decode cc_Mo_eraseAll 11 = .ok (.iload_n 1, 1) := by decide +kernel
theorem d_Mo_eraseAll_12 : decode cc_Mo_eraseAll 12 = .ok (.iaload, 1) := by decide +kernel
theorem d_Mo_eraseAll_13 : decode cc_Mo_eraseAll 13 = .ok (.if_icmp .ge 69, 3) := by decide +kernel
theorem d_Mo_eraseAll_16 : decode cc_Mo_eraseAll 16 = .ok (.aload_n 0, 1) := by decide +kernel
theorem d_Mo_eraseAll_17 : decode cc_Mo_eraseAll 17 = .ok (.iload_n 1, 1) := by decide +kernel
theorem d_Mo_eraseAll_18 : decode cc_Mo_eraseAll 18 = .ok (.iload_n 3, 1) := by decide +kernel
theorem d_Mo_eraseAll_19 : decode cc_Mo_eraseAll 19 = .ok (.invokevirtual 119, 3) := by decide +kernel
theorem d_Mo_eraseAll_22 : decode cc_Mo_eraseAll 22 = .ok (.istore 4, 2) := by decide +kernel
theorem d_Mo_eraseAll_24 : decode cc_Mo_eraseAll 24 = .ok (.iload 4, 2) := by decide +kernel
theorem d_Mo_eraseAll_26 : decode cc_Mo_eraseAll 26 = .ok (.bipush 24, 2) := by decide +kernel
theorem d_Mo_eraseAll_28 : decode cc_Mo_eraseAll 28 = .ok (.if_icmp .eq 14, 3) := by decide +kernel
theorem d_Mo_eraseAll_31 : decode cc_Mo_eraseAll 31 = .ok (.iload_n 2, 1) := by decide +kernel
theorem d_Mo_eraseAll_32 : decode cc_Mo_eraseAll 32 = .ok (.ifCond .eq 11, 3) := by decide +kernel
theorem d_Mo_eraseAll_35 : decode cc_Mo_eraseAll 35 = .ok (.iload 4, 2) := by decide +kernel
theorem d_Mo_eraseAll_37 : decode cc_Mo_eraseAll 37 = .ok (.bipush 22, 2) := by decide +kernel
theorem d_Mo_eraseAll_39 : decode cc_Mo_eraseAll 39 = .ok (.if_icmp .ne 4, 3) := by decide +kernel
theorem d_Mo_eraseAll_42 : decode cc_Mo_eraseAll 42 = .ok (.return_, 1) := by decide +kernel
theorem d_Mo_eraseAll_43 : decode cc_Mo_eraseAll 43 = .ok (.iload 4, 2) := by decide +kernel
theorem d_Mo_eraseAll_45 : decode cc_Mo_eraseAll 45 = .ok (.bipush 21, 2) := by decide +kernel
theorem d_Mo_eraseAll_47 : decode cc_Mo_eraseAll 47 = .ok (.if_icmp .lt 19, 3) := by decide +kernel
theorem d_Mo_eraseAll_50 : decode cc_Mo_eraseAll 50 = .ok (.aload_n 0, 1) := by decide +kernel
theorem d_Mo_eraseAll_51 : decode cc_Mo_eraseAll 51 = .ok (.aload_n 0, 1) := by decide +kernel
theorem d_Mo_eraseAll_52 : decode cc_Mo_eraseAll 52 = .ok (.iload_n 1, 1) := by decide +kernel
theorem d_Mo_eraseAll_53 : decode cc_Mo_eraseAll 53 = .ok (.iload_n 3, 1) := by decide +kernel
theorem d_Mo_eraseAll_54 : decode cc_Mo_eraseAll 54 = .ok (.invokevirtual 100, 3) := by decide +kernel
theorem d_Mo_eraseAll_57 : decode cc_Mo_eraseAll 57 = .ok (.invokevirtual 133, 3) := by decide +kernel
theorem d_Mo_eraseAll_60 : decode cc_Mo_eraseAll 60 = .ok (.iinc 3 1, 3) := by decide +kernel
theorem d_Mo_eraseAll_63 : decode cc_Mo_eraseAll 63 = .ok (.goto (-57), 3) := by decide +kernel
theorem d_Mo_eraseAll_66 : decode cc_Mo_eraseAll 66 = .ok (.aload_n 0, 1) := by decide +kernel
theorem d_Mo_eraseAll_67 : decode cc_Mo_eraseAll 67 = .ok (.iload_n 1, 1) := by decide +kernel
theorem d_Mo_eraseAll_68 : decode cc_Mo_eraseAll 68 = .ok (.iload_n 3, 1) := by decide +kernel
theorem d_Mo_eraseAll_69 : decode cc_Mo_eraseAll 69 = .ok (.invokevirtual 193, 3) := by decide +kernel
theorem d_Mo_eraseAll_72 : decode cc_Mo_eraseAll 72 = .ok (.aload_n 0, 1) := by decide +kernel
theorem d_Mo_eraseAll_73 : decode cc_Mo_eraseAll 73 = .ok (.iload_n 1, 1) := by decide +kernel
theorem d_Mo_eraseAll_74 : decode cc_Mo_eraseAll 74 = .ok (.iload_n 3, 1) := by decide +kernel
theorem d_Mo_eraseAll_75 : decode cc_Mo_eraseAll 75 = .ok (.invokevirtual 197, 3) := by decide +kernel
theorem d_Mo_eraseAll_78 : decode cc_Mo_eraseAll 78 = .ok (.istore_n 3, 1) := by decide +kernel
theorem d_Mo_eraseAll_79 : decode cc_Mo_eraseAll 79 = .ok (.goto (-73), 3) := by decide +kernel
theorem d_Mo_eraseAll_82 : decode cc_Mo_eraseAll 82 = .ok (.return_, 1) := by decide +kernel
theorem d_Mo_baseWord_0 : decode cc_Mo_baseWord 0 = .ok (.iload_n 0, 1) := by decide +kernel
theorem d_Mo_baseWord_1 : decode cc_Mo_baseWord 1 = .ok (.tableswitch 115 66 83 #[87, 91, 95, 115, 99, 115, 115, 103, 107, 115, 115, 115, 115, 115, 115, 115, 115, 111], 87) := by decide +kernel
theorem d_Mo_baseWord_88 : decode cc_Mo_baseWord 88 = .ok (.ldc2_w 137, 3) := by decide +kernel
theorem d_Mo_baseWord_91 : decode cc_Mo_baseWord 91 = .ok (.lreturn, 1) := by decide +kernel
theorem d_Mo_baseWord_92 : decode cc_Mo_baseWord 92 = .ok (.ldc2_w 139, 3) := by decide +kernel
theorem d_Mo_baseWord_95 : decode cc_Mo_baseWord 95 = .ok (.lreturn, 1) := by decide +kernel
theorem d_Mo_baseWord_96 : decode cc_Mo_baseWord 96 = .ok (.ldc2_w 141, 3) := by decide +kernel
theorem d_Mo_baseWord_99 : decode cc_Mo_baseWord 99 = .ok (.lreturn, 1) := by decide +kernel
theorem d_Mo_baseWord_100 : decode cc_Mo_baseWord 100 = .ok (.ldc2_w 143, 3) := by decide +kernel
theorem d_Mo_baseWord_103 : decode cc_Mo_baseWord 103 = .ok (.lreturn, 1) := by decide +kernel
theorem d_Mo_baseWord_104 : decode cc_Mo_baseWord 104 = .ok (.ldc2_w 145, 3) := by decide +kernel
theorem d_Mo_baseWord_107 : decode cc_Mo_baseWord 107 = .ok (.lreturn, 1) := by decide +kernel
theorem d_Mo_baseWord_108 : decode cc_Mo_baseWord 108 = .ok (.ldc2_w 147, 3) := by decide +kernel
theorem d_Mo_baseWord_111 : decode cc_Mo_baseWord 111 = .ok (.lreturn, 1) := by decide +kernel
theorem d_Mo_baseWord_112 : decode cc_Mo_baseWord 112 = .ok (.ldc2_w 149, 3) := by decide +kernel
theorem d_Mo_baseWord_115 : decode cc_Mo_baseWord 115 = .ok (.lreturn, 1) := by decide +kernel
theorem d_Mo_baseWord_116 : decode cc_Mo_baseWord 116 = .ok (.ldc2_w 151, 3) := by decide +kernel
theorem d_Mo_baseWord_119 : decode cc_Mo_baseWord 119 = .ok (.lreturn, 1) := by decide +kernel
theorem d_Mo_brackets_0 : decode cc_Mo_brackets 0 = .ok (.iconst 0, 1) := by decide +kernel
theorem d_Mo_brackets_1 : decode cc_Mo_brackets 1 = .ok (.istore_n 2, 1) := by decide +kernel
theorem d_Mo_brackets_2 : decode cc_Mo_brackets 2 = .ok (.iload_n 2, 1) := by decide +kernel
theorem d_Mo_brackets_3 : decode cc_Mo_brackets 3 = .ok (.iload_n 1, 1) := by decide +kernel
theorem d_Mo_brackets_4 : decode cc_Mo_brackets 4 = .ok (.if_icmp .ge 21, 3) := by decide +kernel
theorem d_Mo_brackets_7 : decode cc_Mo_brackets 7 = .ok (.aload_n 0, 1) := by decide +kernel
theorem d_Mo_brackets_8 : decode cc_Mo_brackets 8 = .ok (.bipush 91, 2) := by decide +kernel
theorem d_Mo_brackets_10 : decode cc_Mo_brackets 10 = .ok (.invokevirtual 133, 3) := by decide +kernel
theorem d_Mo_brackets_13 : decode cc_Mo_brackets 13 = .ok (.aload_n 0, 1) := by decide +kernel
theorem d_Mo_brackets_14 : decode cc_Mo_brackets 14 = .ok (.bipush 93, 2) := by decide +kernel
theorem d_Mo_brackets_16 : decode cc_Mo_brackets 16 = .ok (.invokevirtual 133, 3) := by decide +kernel
theorem d_Mo_brackets_19 : decode cc_Mo_brackets 19 = .ok (.iinc 2 1, 3) := by decide +kernel
theorem d_Mo_brackets_22 : decode cc_Mo_brackets 22 = .ok (.goto (-20), 3) := by decide +kernel
theorem d_Mo_brackets_25 : decode cc_Mo_brackets 25 = .ok (.return_, 1) := by decide +kernel
theorem d_Mo_part_0 : decode cc_Mo_part 0 = .ok (.aload_n 0, 1) := by decide +kernel
theorem d_Mo_part_1 : decode cc_Mo_part 1 = .ok (.iload_n 1, 1) := by decide +kernel
theorem d_Mo_part_2 : decode cc_Mo_part 2 = .ok (.iload_n 2, 1) := by decide +kernel
theorem d_Mo_part_3 : decode cc_Mo_part 3 = .ok (.invokevirtual 119, 3) := by decide +kernel
theorem d_Mo_part_6 : decode cc_Mo_part 6 = .ok (.istore 5, 2) := by decide +kernel
theorem d_Mo_part_8 : decode cc_Mo_part 8 = .ok (.aload_n 0, 1) := by decide +kernel
theorem d_Mo_part_9 : decode cc_Mo_part 9 = .ok (.iload_n 1, 1) := by decide +kernel
theorem d_Mo_part_10 : decode cc_Mo_part 10 = .ok (.iload_n 2, 1) := by decide +kernel
theorem d_Mo_part_11 : decode cc_Mo_part 11 = .ok (.iconst 1, 1) := by decide +kernel
theorem d_Mo_part_12 : decode cc_Mo_part 12 = .ok (.isub, 1) := by decide +kernel
theorem d_Mo_part_13 : decode cc_Mo_part 13 = .ok (.invokevirtual 119, 3) := by decide +kernel
theorem d_Mo_part_16 : decode cc_Mo_part 16 = .ok (.istore 6, 2) := by decide +kernel
theorem d_Mo_part_18 : decode cc_Mo_part 18 = .ok (.iload 6, 2) := by decide +kernel
theorem d_Mo_part_20 : decode cc_Mo_part 20 = .ok (.bipush 9, 2) := by decide +kernel
theorem d_Mo_part_22 : decode cc_Mo_part 22 = .ok (.if_icmp .eq 23, 3) := by decide +kernel
theorem d_Mo_part_25 : decode cc_Mo_part 25 = .ok (.iload 6, 2) := by decide +kernel
theorem d_Mo_part_27 : decode cc_Mo_part 27 = .ok (.bipush 15, 2) := by decide +kernel
theorem d_Mo_part_29 : decode cc_Mo_part 29 = .ok (.if_icmp .eq 16, 3) := by decide +kernel
theorem d_Mo_part_32 : decode cc_Mo_part 32 = .ok (.iload 6, 2) := by decide +kernel
theorem d_Mo_part_34 : decode cc_Mo_part 34 = .ok (.iconst 4, 1) := by decide +kernel
theorem d_Mo_part_35 : decode cc_Mo_part 35 = .ok (.if_icmp .eq 10, 3) := by decide +kernel
theorem d_Mo_part_38 : decode cc_Mo_part 38 = .ok (.iload 6, 2) := by decide +kernel
theorem d_Mo_part_40 : decode cc_Mo_part 40 = .ok (.bipush 10, 2) := by decide +kernel
theorem d_Mo_part_42 : decode cc_Mo_part 42 = .ok (.if_icmp .ne 7, 3) := by decide +kernel
theorem d_Mo_part_45 : decode cc_Mo_part 45 = .ok (.iconst 1, 1) := by decide +kernel
theorem d_Mo_part_46 : decode cc_Mo_part 46 = .ok (.goto 4, 3) := by decide +kernel
theorem d_Mo_part_49 : decode cc_Mo_part 49 = .ok (.iconst 0, 1) := by decide +kernel
theorem d_Mo_part_50 : decode cc_Mo_part 50 = .ok (.istore 7, 2) := by decide +kernel
theorem d_Mo_part_52 : decode cc_Mo_part 52 = .ok (.iload 7, 2) := by decide +kernel
theorem d_Mo_part_54 : decode cc_Mo_part 54 = .ok (.ifCond .eq 30, 3) := by decide +kernel
theorem d_Mo_part_57 : decode cc_Mo_part 57 = .ok (.iload 5, 2) := by decide +kernel
theorem d_Mo_part_59 : decode cc_Mo_part 59 = .ok (.iconst 4, 1) := by decide +kernel
theorem d_Mo_part_60 : decode cc_Mo_part 60 = .ok (.if_icmp .le 25, 3) := by decide +kernel
theorem d_Mo_part_63 : decode cc_Mo_part 63 = .ok (.iload 5, 2) := by decide +kernel
theorem d_Mo_part_65 : decode cc_Mo_part 65 = .ok (.bipush 10, 2) := by decide +kernel
theorem d_Mo_part_67 : decode cc_Mo_part 67 = .ok (.if_icmp .eq 18, 3) := by decide +kernel
theorem d_Mo_part_70 : decode cc_Mo_part 70 = .ok (.iload 5, 2) := by decide +kernel
theorem d_Mo_part_72 : decode cc_Mo_part 72 = .ok (.bipush 11, 2) := by decide +kernel
theorem d_Mo_part_74 : decode cc_Mo_part 74 = .ok (.if_icmp .eq 11, 3) := by decide +kernel
theorem d_Mo_part_77 : decode cc_Mo_part 77 = .ok (.iload 5, 2) := by decide +kernel
theorem d_Mo_part_79 : decode cc_Mo_part 79 = .ok (.bipush 12, 2) := by decide +kernel
theorem d_Mo_part_81 : decode cc_Mo_part 81 = .ok (.if_icmp .eq 4, 3) := by decide +kernel
theorem d_Mo_part_84 : decode cc_Mo_part 84 = .ok (.return_, 1) := by decide +kernel
theorem d_Mo_part_85 : decode cc_Mo_part 85 = .ok (.iload_n 3, 1) := by decide +kernel
theorem d_Mo_part_86 : decode cc_Mo_part 86 = .ok (.ifCond .gt 13, 3) := by decide +kernel
theorem d_Mo_part_89 : decode cc_Mo_part 89 = .ok (.aload_n 0, 1) := by decide +kernel
theorem d_Mo_part_90 : decode cc_Mo_part 90 = .ok (.getfield 22, 3) := by decide +kernel
theorem d_Mo_part_93 : decode cc_Mo_part 93 = .ok (.iload_n 1, 1) := by decide +kernel
theorem d_Mo_part_94 : decode cc_Mo_part 94 = .ok (.iaload, 1) := by decide +kernel
theorem d_Mo_part_95 : decode cc_Mo_part 95 = .ok (.iconst 1, 1) := by decide +kernel
theorem d_Mo_part_96 : decode cc_Mo_part 96 = .ok (.if_icmp .ne 12, 3) := by decide +kernel
theorem d_Mo_part_99 : decode cc_Mo_part 99 = .ok (.aload_n 0, 1) := by decide +kernel
theorem d_Mo_part_100 : decode cc_Mo_part 100 = .ok (.bipush 44, 2) := by decide +kernel
theorem d_Mo_part_102 : decode cc_Mo_part 102 = .ok (.invokevirtual 133, 3) := by decide +kernel
theorem d_Mo_part_105 : decode cc_Mo_part 105 = .ok (.goto 20, 3) := by decide +kernel
theorem d_Mo_part_108 : decode cc_Mo_part 108 = .ok (.aload_n 0, 1) := by decide +kernel
theorem d_Mo_part_109 : decode cc_Mo_part 109 = .ok (.iload 4, 2) := by decide +kernel
theorem d_Mo_part_111 : decode cc_Mo_part 111 = .ok (.iconst 1, 1) := by decide +kernel
theorem d_Mo_part_112 : decode cc_Mo_part 112 = .ok (.if_icmp .ne 8, 3) := by decide +kernel
theorem d_Mo_part_115 : decode cc_Mo_part 115 = .ok (.bipush 58, 2) := by decide +kernel
theorem d_Mo_part_117 : decode cc_Mo_part 117 = .ok (.goto 5, 3) := by decide +kernel
theorem d_Mo_part_120 : decode cc_Mo_part 120 = .ok (.bipush 44, 2) := by decide +kernel
theorem d_Mo_part_122 : decode cc_Mo_part 122 = .ok (.invokevirtual 133, 3) := by decide +kernel
theorem d_Mo_part_125 : decode cc_Mo_part 125 = .ok (.return_, 1) := by decide +kernel
theorem d_Mo_show_0 : decode cc_Mo_show 0 = .ok (.iconst 0, 1) := by decide +kernel
theorem d_Mo_show_1 : decode cc_Mo_show 1 = .ok (.istore_n 2, 1) := by decide +kernel
theorem d_Mo_show_2 : decode cc_Mo_show 2 = .ok (.iconst 0, 1) := by decide +kernel
theorem d_Mo_show_3 : decode cc_Mo_show 3 = .ok (.istore_n 3, 1) := by decide +kernel
theorem d_Mo_show_4 : decode cc_Mo_show 4 = .ok (.iconst 0, 1) := by decide +kernel
theorem d_Mo_show_5 : decode cc_Mo_show 5 = .ok (.istore 4, 2) := by decide +kernel
theorem d_Mo_show_7 : decode cc_Mo_show 7 = .ok (.iconst 0, 1) := by decide +kernel
theorem d_Mo_show_8 : decode cc_Mo_show 8 = .ok (.istore 5, 2) := by decide +kernel
theorem d_Mo_show_10 : decode cc_Mo_show 10 = .ok (.aload_n 0, 1) := by decide +kernel
theorem d_Mo_show_11 : decode cc_Mo_show 11 = .ok (.getfield 40, 3) := by decide +kernel
theorem d_Mo_show_14 : decode cc_Mo_show 14 = .ok (.iload_n 1, 1) := by decide +kernel
theorem d_Mo_show_15 : decode cc_Mo_show 15 = .ok (.iaload, 1) := by decide +kernel
theorem d_Mo_show_16 : decode cc_Mo_show 16 = .ok (.ifCond .ne 7, 3) := by decide +kernel
theorem d_Mo_show_19 : decode cc_Mo_show 19 = .ok (.iconst 1, 1) := by decide +kernel
theorem d_Mo_show_20 : decode cc_Mo_show 20 = .ok (.goto 4, 3) := by decide +kernel
theorem d_Mo_show_23 : decode cc_Mo_show 23 = .ok (.iconst 0, 1) := by decide +kernel
theorem d_Mo_show_24 : decode cc_Mo_show 24 = .ok (.istore 6, 2) := by decide +kernel
theorem d_Mo_show_26 : decode cc_Mo_show 26 = .ok (.iconst 0, 1) := by decide +kernel
theorem d_Mo_show_27 : decode cc_Mo_show 27 = .ok (.istore 7, 2) := by decide +kernel
theorem d_Mo_show_29 : decode cc_Mo_show 29 = .ok (.iload 7, 2) := by decide +kernel
theorem d_Mo_show_31 : decode cc_Mo_show 31 = .ok (.aload_n 0, 1) := by decide +kernel
theorem d_Mo_show_32 : decode cc_Mo_show 32 = .ok (.getfield 19, 3) := by decide +kernel
theorem d_Mo_show_35 : decode cc_Mo_show 35 = .ok (.iload_n 1, 1) := by decide +kernel
theorem d_Mo_show_36 : decode cc_Mo_show 36 = .ok (.iaload, 1) := by decide +kernel
theorem d_Mo_show_37 : decode cc_Mo_show 37 = .ok (.if_icmp .ge 524, 3) := by decide +kernel
theorem d_Mo_show_40 : decode cc_Mo_show 40 = .ok (.aload_n 0, 1) := by decide +kernel
theorem d_Mo_show_41 : decode cc_Mo_show 41 = .ok (.iload_n 1, 1) := by decide +kernel
theorem d_Mo_show_42 : decode cc_Mo_show 42 = .ok (.iload 7, 2) := by decide +kernel
theorem d_Mo_show_44 : decode cc_Mo_show 44 = .ok (.invokevirtual 100, 3) := by decide +kernel
theorem d_Mo_show_47 : decode cc_Mo_show 47 = .ok (.istore 8, 2) := by decide +kernel
theorem d_Mo_show_49 : decode cc_Mo_show 49 = .ok (.aload_n 0, 1) := by decide +kernel
theorem d_Mo_show_50 : decode cc_Mo_show 50 = .ok (.iload_n 1, 1) := by decide +kernel
theorem d_Mo_show_51 : decode cc_Mo_show 51 = .ok (.iload 7, 2) := by decide +kernel
theorem d_Mo_show_53 : decode cc_Mo_show 53 = .ok (.invokevirtual 119, 3) := by decide +kernel
theorem d_Mo_show_56 : decode cc_Mo_show 56 = .ok (.istore 9, 2) := by decide +kernel
theorem d_Mo_show_58 : decode cc_Mo_show 58 = .ok (.iload 6, 2) := by decide +kernel
theorem d_Mo_show_60 : decode cc_Mo_show 60 = .ok (.ifCond .eq 15, 3) := by decide +kernel
theorem d_Mo_show_63 : decode cc_Mo_show 63 = .ok (.aload_n 0, 1) := by decide +kernel
theorem d_Mo_show_64 : decode cc_Mo_show 64 = .ok (.iload_n 1, 1) := by decide +kernel
theorem d_Mo_show_65 : decode cc_Mo_show 65 = .ok (.iload 7, 2) := by decide +kernel
theorem d_Mo_show_67 : decode cc_Mo_show 67 = .ok (.iload_n 2, 1) := by decide +kernel
theorem d_Mo_show_68 : decode cc_Mo_show 68 = .ok (.iload_n 3, 1) := by decide +kernel
theorem d_Mo_show_69 : decode cc_Mo_show 69 = .ok (.invokevirtual 153, 3) := by decide +kernel
theorem d_Mo_show_72 : decode cc_Mo_show 72 = .ok (.goto 16, 3) := by decide +kernel
theorem d_Mo_show_75 : decode cc_Mo_show 75 = .ok (.iload_n 2, 1) := by decide +kernel
theorem d_Mo_show_76 : decode cc_Mo_show 76 = .ok (.ifCond .le 12, 3) := by decide +kernel
theorem d_Mo_show_79 : decode cc_Mo_show 79 = .ok (.aload_n 0, 1) := by decide +kernel
theorem d_Mo_show_80 : decode cc_Mo_show 80 = .ok (.iload_n 1, 1) := by decide +kernel
theorem d_Mo_show_81 : decode cc_Mo_show 81 = .ok (.iload 7, 2) := by decide +kernel
theorem d_Mo_show_83 : decode cc_Mo_show 83 = .ok (.iload_n 2, 1) := by decide +kernel
theorem d_Mo_show_84 : decode cc_Mo_show 84 = .ok (.iconst 0, 1) := by decide +kernel
theorem d_Mo_show_85 : decode cc_Mo_show 85 = .ok (.invokevirtual 153, 3) := by decide +kernel
theorem d_Mo_show_88 : decode cc_Mo_show 88 = .ok (.iload 9, 2) := by decide +kernel
theorem d_Mo_show_90 : decode cc_Mo_show 90 = .ok (.iconst 3, 1) := by decide +kernel
theorem d_Mo_show_91 : decode cc_Mo_show 91 = .ok (.if_icmp .ne 9, 3) := by decide +kernel
theorem d_Mo_show_94 : decode cc_Mo_show 94 = .ok (.iinc 4 1, 3) := by decide +kernel
theorem d_Mo_show_97 : decode cc_Mo_show 97 = .ok (.goto 458, 3) := by decide +kernel
theorem d_Mo_show_100 : decode cc_Mo_show 100 = .ok (.iload 9, 2) := by decide +kernel
theorem d_Mo_show_102 : decode cc_Mo_show 102 = .ok (.iconst 1, 1) := by decide +kernel
theorem d_Mo_show_103 : decode cc_Mo_show 103 = .ok (.if_icmp .ne 30, 3) := by decide +kernel
theorem d_Mo_show_106 : decode cc_Mo_show 106 = .ok (.aload_n 0, 1) := by decide +kernel
theorem d_Mo_show_107 : decode cc_Mo_show 107 = .ok (.dup, 1) := by decide +kernel
theorem d_Mo_show_108 : decode cc_Mo_show 108 = .ok (.getfield 60, 3) := by decide +kernel
theorem d_Mo_show_111 : decode cc_Mo_show 111 = .ok (.iconst 1, 1) := by decide +kernel
theorem d_Mo_show_112 : decode cc_Mo_show 112 = .ok (.iadd, 1) := by decide +kernel
theorem d_Mo_show_113 : decode cc_Mo_show 113 = .ok (.putfield 60, 3) := by decide +kernel
theorem d_Mo_show_116 : decode cc_Mo_show 116 = .ok (.aload_n 0, 1) := by decide +kernel
theorem d_Mo_show_117 : decode cc_Mo_show 117 = .ok (.getfield 43, 3) := by decide +kernel
theorem d_Mo_show_120 : decode cc_Mo_show 120 = .ok (.aload_n 0, 1) := by decide +kernel
theorem d_Mo_show_121 : decode cc_Mo_show 121 = .ok (.getfield 60, 3) := by decide +kernel
theorem d_Mo_show_124 : decode cc_Mo_show 124 = .ok (.iload 4, 2) := by decide +kernel
theorem d_Mo_show_126 : decode cc_Mo_show 126 = .ok (.iastore, 1) := by decide +kernel
theorem d_Mo_show_127 : decode cc_Mo_show 127 = .ok (.iconst 0, 1) := by decide +kernel
theorem d_Mo_show_128 : decode cc_Mo_show 128 = .ok (.istore 4, 2) := by decide +kernel
theorem d_Mo_show_130 : decode cc_Mo_show 130 = .ok (.goto 425, 3) := by decide +kernel
theorem d_Mo_show_133 : decode cc_Mo_show 133 = .ok (.iload 9, 2) := by decide +kernel
theorem d_Mo_show_135 : decode cc_Mo_show 135 = .ok (.bipush 9, 2) := by decide +kernel
theorem d_Mo_show_137 : decode cc_Mo_show 137 = .ok (.if_icmp .eq 16, 3) := by decide +kernel
theorem d_Mo_show_140 : decode cc_Mo_show 140 = .ok (.iload 9, 2) := by decide +kernel
theorem d_Mo_show_142 : decode cc_Mo_show 142 = .ok (.bipush 15, 2) := by decide +kernel
theorem d_Mo_show_144 : decode cc_Mo_show 144 = .ok (.if_icmp .eq 9, 3) := by decide +kernel
theorem d_Mo_show_147 : decode cc_Mo_show 147 = .ok (.iload 9, 2) := by decide +kernel
theorem d_Mo_show_149 : decode cc_Mo_show 149 = .ok (.iconst 4, 1) := by decide +kernel
theorem d_Mo_show_150 : decode cc_Mo_show 150 = .ok (.if_icmp .ne 77, 3) := by decide +kernel
theorem d_Mo_show_153 : decode cc_Mo_show 153 = .ok (.iload 9, 2) := by decide +kernel
theorem d_Mo_show_155 : decode cc_Mo_show 155 = .ok (.iconst 4, 1) := by decide +kernel
theorem d_Mo_show_156 : decode cc_Mo_show 156 = .ok (.if_icmp .ne 12, 3) := by decide +kernel
theorem d_Mo_show_159 : decode cc_Mo_show 159 = .ok (.aload_n 0, 1) := by decide +kernel
theorem d_Mo_show_160 : decode cc_Mo_show 160 = .ok (.iload 8, 2) := by decide +kernel
theorem d_Mo_show_162 : decode cc_Mo_show 162 = .ok (.invokestatic 157, 3) := by decide +kernel
theorem d_Mo_show_165 : decode cc_Mo_show 165 = .ok (.invokevirtual 161, 3) := by decide +kernel
theorem d_Mo_show_168 : decode cc_Mo_show 168 = .ok (.iload 4, 2) := by decide +kernel
theorem d_Mo_show_170 : decode cc_Mo_show 170 = .ok (.istore 10, 2) := by decide +kernel
theorem d_Mo_show_172 : decode cc_Mo_show 172 = .ok (.iload 9, 2) := by decide +kernel
theorem d_Mo_show_174 : decode cc_Mo_show 174 = .ok (.bipush 9, 2) := by decide +kernel
theorem d_Mo_show_176 : decode cc_Mo_show 176 = .ok (.if_icmp .ne 39, 3) := by decide +kernel
theorem d_Mo_show_179 : decode cc_Mo_show 179 = .ok (.aload_n 0, 1) := by decide +kernel
theorem d_Mo_show_180 : decode cc_Mo_show 180 = .ok (.getfield 43, 3) := by decide +kernel
theorem d_Mo_show_183 : decode cc_Mo_show 183 = .ok (.aload_n 0, 1) := by decide +kernel
theorem d_Mo_show_184 : decode cc_Mo_show 184 = .ok (.getfield 60, 3) := by decide +kernel
theorem d_Mo_show_187 : decode cc_Mo_show 187 = .ok (.iaload, 1) := by decide +kernel
theorem d_Mo_show_188 : decode cc_Mo_show 188 = .ok (.istore 10, 2) := by decide +kernel
theorem d_Mo_show_190 : decode cc_Mo_show 190 = .ok (.aload_n 0, 1) := by decide +kernel
theorem d_Mo_show_191 : decode cc_Mo_show 191 = .ok (.dup, 1) := by decide +kernel
theorem d_Mo_show_192 : decode cc_Mo_show 192 = .ok (.getfield 60, 3) := by decide +kernel
theorem d_Mo_show_195 : decode cc_Mo_show 195 = .ok (.iconst 1, 1) := by decide +kernel
theorem d_Mo_show_196 : decode cc_Mo_show 196 = .ok (.isub, 1) := by decide +kernel
theorem d_Mo_show_197 : decode cc_Mo_show 197 = .ok (.putfield 60, 3) := by decide +kernel
theorem d_Mo_show_200 : decode cc_Mo_show 200 = .ok (.iload 6, 2) := by decide +kernel
theorem d_Mo_show_202 : decode cc_Mo_show 202 = .ok (.ifCond .eq 13, 3) := by decide +kernel
theorem d_Mo_show_205 : decode cc_Mo_show 205 = .ok (.aload_n 0, 1) := by decide +kernel
theorem d_Mo_show_206 : decode cc_Mo_show 206 = .ok (.getfield 60, 3) := by decide +kernel
theorem d_Mo_show_209 : decode cc_Mo_show 209 = .ok (.ifCond .ge 6, 3) := by decide +kernel
theorem d_Mo_show_212 : decode cc_Mo_show 212 = .ok (.iinc 3 1, 3) := by decide +kernel
theorem d_Mo_show_215 : decode cc_Mo_show 215 = .ok (.aload_n 0, 1) := by decide +kernel
theorem d_Mo_show_216 : decode cc_Mo_show 216 = .ok (.iload 10, 2) := by decide +kernel
theorem d_Mo_show_218 : decode cc_Mo_show 218 = .ok (.invokevirtual 165, 3) := by decide +kernel
theorem d_Mo_show_221 : decode cc_Mo_show 221 = .ok (.iconst 0, 1) := by decide +kernel
theorem d_Mo_show_222 : decode cc_Mo_show 222 = .ok (.istore 4, 2) := by decide +kernel
theorem d_Mo_show_224 : decode cc_Mo_show 224 = .ok (.goto 331, 3) := by decide +kernel
theorem d_Mo_show_227 : decode cc_Mo_show 227 = .ok (.iload 9, 2) := by decide +kernel
theorem d_Mo_show_229 : decode cc_Mo_show 229 = .ok (.bipush 8, 2) := by decide +kernel
theorem d_Mo_show_231 : decode cc_Mo_show 231 = .ok (.if_icmp .eq 10, 3) := by decide +kernel
theorem d_Mo_show_234 : decode cc_Mo_show 234 = .ok (.iload 9, 2) := by decide +kernel
theorem d_Mo_show_236 : decode cc_Mo_show 236 = .ok (.bipush 13, 2) := by decide +kernel
theorem d_Mo_show_238 : decode cc_Mo_show 238 = .ok (.if_icmp .ne 27, 3) := by decide +kernel
theorem d_Mo_show_241 : decode cc_Mo_show 241 = .ok (.iload_n 2, 1) := by decide +kernel
theorem d_Mo_show_242 : decode cc_Mo_show 242 = .ok (.iload 9, 2) := by decide +kernel
theorem d_Mo_show_244 : decode cc_Mo_show 244 = .ok (.bipush 8, 2) := by decide +kernel
theorem d_Mo_show_246 : decode cc_Mo_show 246 = .ok (.if_icmp .ne 7, 3) := by decide +kernel
theorem d_Mo_show_249 : decode cc_Mo_show 249 = .ok (.iconst 1, 1) := by decide +kernel
theorem d_Mo_show_250 : decode cc_Mo_show 250 = .ok (.goto 4, 3) := by decide +kernel
theorem d_Mo_show_253 : decode cc_Mo_show 253 = .ok (.iconst (-1), 1) := by decide +kernel
theorem d_Mo_show_254 : decode cc_Mo_show 254 = .ok (.iadd, 1) := by decide +kernel
theorem d_Mo_show_255 : decode cc_Mo_show 255 = .ok (.istore_n 2, 1) := by decide +kernel
theorem d_Mo_show_256 : decode cc_Mo_show 256 = .ok (.aload_n 0, 1) := by decide +kernel
theorem d_Mo_show_257 : decode cc_Mo_show 257 = .ok (.iload 8, 2) := by decide +kernel
theorem d_Mo_show_259 : decode cc_Mo_show 259 = .ok (.invokevirtual 133, 3) := by decide +kernel
theorem d_Mo_show_262 : decode cc_Mo_show 262 = .ok (.goto 293, 3) := by decide +kernel
theorem d_Mo_show_265 : decode cc_Mo_show 265 = .ok (.iload 9, 2) := by decide +kernel
theorem d_Mo_show_267 : decode cc_Mo_show 267 = .ok (.bipush 10, 2) := by decide +kernel
theorem d_Mo_show_269 : decode cc_Mo_show 269 = .ok (.if_icmp .eq 17, 3) := by decide +kernel
theorem d_Mo_show_272 : decode cc_Mo_show 272 = .ok (.iload 9, 2) := by decide +kernel
theorem d_Mo_show_274 : decode cc_Mo_show 274 = .ok (.bipush 11, 2) := by decide +kernel
theorem d_Mo_show_276 : decode cc_Mo_show 276 = .ok (.if_icmp .eq 10, 3) := by decide +kernel
theorem d_Mo_show_279 : decode cc_Mo_show 279 = .ok (.iload 9, 2) := by decide +kernel
theorem d_Mo_show_281 : decode cc_Mo_show 281 = .ok (.bipush 12, 2) := by decide +kernel
theorem d_Mo_show_283 : decode cc_Mo_show 283 = .ok (.if_icmp .ne 25, 3) := by decide +kernel
theorem d_Mo_show_286 : decode cc_Mo_show 286 = .ok (.aload_n 0, 1) := by decide +kernel
theorem d_Mo_show_287 : decode cc_Mo_show 287 = .ok (.bipush 63, 2) := by decide +kernel
theorem d_Mo_show_289 : decode cc_Mo_show 289 = .ok (.invokevirtual 133, 3) := by decide +kernel
theorem d_Mo_show_292 : decode cc_Mo_show 292 = .ok (.iload 9, 2) := by decide +kernel
theorem d_Mo_show_294 : decode cc_Mo_show 294 = .ok (.bipush 10, 2) := by decide +kernel
theorem d_Mo_show_296 : decode cc_Mo_show 296 = .ok (.if_icmp .eq 259, 3) := by decide +kernel
theorem d_Mo_show_299 : decode cc_Mo_show 299 = .ok (.aload_n 0, 1) := by decide +kernel
theorem d_Mo_show_300 : decode cc_Mo_show 300 = .ok (.iload 8, 2) := by decide +kernel
theorem d_Mo_show_302 : decode cc_Mo_show 302 = .ok (.invokevirtual 133, 3) := by decide +kernel
theorem d_Mo_show_305 : decode cc_Mo_show 305 = .ok (.goto 250, 3) := by decide +kernel
theorem d_Mo_show_308 : decode cc_Mo_show 308 = .ok (.iload 9, 2) := by decide +kernel
theorem d_Mo_show_310 : decode cc_Mo_show 310 = .ok (.bipush 17, 2) := by decide +kernel
theorem d_Mo_show_312 : decode cc_Mo_show 312 = .ok (.if_icmp .ne 46, 3) := by decide +kernel
theorem d_Mo_show_315 : decode cc_Mo_show 315 = .ok (.aload_n 0, 1) := by decide +kernel
theorem d_Mo_show_316 : decode cc_Mo_show 316 = .ok (.iload_n 1, 1) := by decide +kernel
theorem d_Mo_show_317 : decode cc_Mo_show 317 = .ok (.iload 7, 2) := by decide +kernel
theorem d_Mo_show_319 : decode cc_Mo_show 319 = .ok (.iconst 1, 1) := by decide +kernel
theorem d_Mo_show_320 : decode cc_Mo_show 320 = .ok (.isub, 1) := by decide +kernel
theorem d_Mo_show_321 : decode cc_Mo_show 321 = .ok (.invokevirtual 119, 3) := by decide +kernel
theorem d_Mo_show_324 : decode cc_Mo_show 324 = .ok (.bipush 17, 2) := by decide +kernel
theorem d_Mo_show_326 : decode cc_Mo_show 326 = .ok (.if_icmp .eq 23, 3) := by decide +kernel
theorem d_Mo_show_329 : decode cc_Mo_show 329 = .ok (.aload_n 0, 1) := by decide +kernel
theorem d_Mo_show_330 : decode cc_Mo_show 330 = .ok (.iload_n 1, 1) := by decide +kernel
theorem d_Mo_show_331 : decode cc_Mo_show 331 = .ok (.iload 7, 2) := by decide +kernel
theorem d_Mo_show_333 : decode cc_Mo_show 333 = .ok (.iconst 1, 1) := by decide +kernel
theorem d_Mo_show_334 : decode cc_Mo_show 334 = .ok (.isub, 1) := by decide +kernel
theorem d_Mo_show_335 : decode cc_Mo_show 335 = .ok (.invokevirtual 119, 3) := by decide +kernel
theorem d_Mo_show_338 : decode cc_Mo_show 338 = .ok (.bipush 16, 2) := by decide +kernel
theorem d_Mo_show_340 : decode cc_Mo_show 340 = .ok (.if_icmp .eq 9, 3) := by decide +kernel
theorem d_Mo_show_343 : decode cc_Mo_show 343 = .ok (.aload_n 0, 1) := by decide +kernel
theorem d_Mo_show_344 : decode cc_Mo_show 344 = .ok (.bipush 44, 2) := by decide +kernel
theorem d_Mo_show_346 : decode cc_Mo_show 346 = .ok (.invokevirtual 133, 3) := by decide +kernel
theorem d_Mo_show_349 : decode cc_Mo_show 349 = .ok (.aload_n 0, 1) := by decide +kernel
theorem d_Mo_show_350 : decode cc_Mo_show 350 = .ok (.iload 8, 2) := by decide +kernel
theorem d_Mo_show_352 : decode cc_Mo_show 352 = .ok (.invokevirtual 133, 3) := by decide +kernel
theorem d_Mo_show_355 : decode cc_Mo_show 355 = .ok (.goto 200, 3) := by decide +kernel
theorem d_Mo_show_358 : decode cc_Mo_show 358 = .ok (.iload 9, 2) := by decide +kernel
theorem d_Mo_show_360 : decode cc_Mo_show 360 = .ok (.bipush 18, 2) := by decide +kernel
theorem d_Mo_show_362 : decode cc_Mo_show 362 = .ok (.if_icmp .eq 10, 3) := by decide +kernel
theorem d_Mo_show_365 : decode cc_Mo_show 365 = .ok (.iload 9, 2) := by decide +kernel
theorem d_Mo_show_367 : decode cc_Mo_show 367 = .ok (.bipush 19, 2) := by decide +kernel
theorem d_Mo_show_369 : decode cc_Mo_show 369 = .ok (.if_icmp .ne 93, 3) := by decide +kernel
theorem d_Mo_show_372 : decode cc_Mo_show 372 = .ok (.aload_n 0, 1) := by decide +kernel
theorem d_Mo_show_373 : decode cc_Mo_show 373 = .ok (.iload_n 1, 1) := by decide +kernel
theorem d_Mo_show_374 : decode cc_Mo_show 374 = .ok (.iload 7, 2) := by decide +kernel
theorem d_Mo_show_376 : decode cc_Mo_show 376 = .ok (.iconst 1, 1) := by decide +kernel
theorem d_Mo_show_377 : decode cc_Mo_show 377 = .ok (.iadd, 1) := by decide +kernel
theorem d_Mo_show_378 : decode cc_Mo_show 378 = .ok (.invokevirtual 119, 3) := by decide +kernel
theorem d_Mo_show_381 : decode cc_Mo_show 381 = .ok (.istore 10, 2) := by decide +kernel
theorem d_Mo_show_383 : decode cc_Mo_show 383 = .ok (.iload 9, 2) := by decide +kernel
theorem d_Mo_show_385 : decode cc_Mo_show 385 = .ok (.bipush 18, 2) := by decide +kernel
theorem d_Mo_show_387 : decode cc_Mo_show 387 = .ok (.if_icmp .ne 23, 3) := by decide +kernel
theorem d_Mo_show_390 : decode cc_Mo_show 390 = .ok (.iload 10, 2) := by decide +kernel
theorem d_Mo_show_392 : decode cc_Mo_show 392 = .ok (.iconst 1, 1) := by decide +kernel
theorem d_Mo_show_393 : decode cc_Mo_show 393 = .ok (.if_icmp .lt 13, 3) := by decide +kernel
theorem d_Mo_show_396 : decode cc_Mo_show 396 = .ok (.iload 10, 2) := by decide +kernel
theorem d_Mo_show_398 : decode cc_Mo_show 398 = .ok (.iconst 3, 1) := by decide +kernel
theorem d_Mo_show_399 : decode cc_Mo_show 399 = .ok (.if_icmp .gt 7, 3) := by decide +kernel
theorem d_Mo_show_402 : decode cc_Mo_show 402 = .ok (.iconst 1, 1) := by decide +kernel
theorem d_Mo_show_403 : decode cc_Mo_show 403 = .ok (.goto 26, 3) := by decide +kernel
theorem d_Mo_show_406 : decode cc_Mo_show 406 = .ok (.iconst 0, 1) := by decide +kernel
theorem d_Mo_show_407 : decode cc_Mo_show 407 = .ok (.goto 22, 3) := by decide +kernel
theorem d_Mo_show_410 : decode cc_Mo_show 410 = .ok (.aload_n 0, 1) := by decide +kernel
theorem d_Mo_show_411 : decode cc_Mo_show 411 = .ok (.iload_n 1, 1) := by decide +kernel
theorem d_Mo_show_412 : decode cc_Mo_show 412 = .ok (.iload 7, 2) := by decide +kernel
theorem d_Mo_show_414 : decode cc_Mo_show 414 = .ok (.iconst 1, 1) := by decide +kernel
theorem d_Mo_show_415 : decode cc_Mo_show 415 = .ok (.isub, 1) := by decide +kernel
theorem d_Mo_show_416 : decode cc_Mo_show 416 = .ok (.invokevirtual 119, 3) := by decide +kernel
theorem d_Mo_show_419 : decode cc_Mo_show 419 = .ok (.bipush 18, 2) := by decide +kernel
theorem d_Mo_show_421 : decode cc_Mo_show 421 = .ok (.if_icmp .ne 7, 3) := by decide +kernel
theorem d_Mo_show_424 : decode cc_Mo_show 424 = .ok (.iconst 1, 1) := by decide +kernel
theorem d_Mo_show_425 : decode cc_Mo_show 425 = .ok (.goto 4, 3) := by decide +kernel
theorem d_Mo_show_428 : decode cc_Mo_show 428 = .ok (.iconst 0, 1) := by decide +kernel
theorem d_Mo_show_429 : decode cc_Mo_show 429 = .ok (.istore 11, 2) := by decide +kernel
theorem d_Mo_show_431 : decode cc_Mo_show 431 = .ok (.iload 9, 2) := by decide +kernel
theorem d_Mo_show_433 : decode cc_Mo_show 433 = .ok (.bipush 19, 2) := by decide +kernel
theorem d_Mo_show_435 : decode cc_Mo_show 435 = .ok (.if_icmp .eq 8, 3) := by decide +kernel
theorem d_Mo_show_438 : decode cc_Mo_show 438 = .ok (.iload 11, 2) := by decide +kernel
theorem d_Mo_show_440 : decode cc_Mo_show 440 = .ok (.ifCond .eq 19, 3) := by decide +kernel
theorem d_Mo_show_443 : decode cc_Mo_show 443 = .ok (.aload_n 0, 1) := by decide +kernel
theorem d_Mo_show_444 : decode cc_Mo_show 444 = .ok (.iload 11, 2) := by decide +kernel
theorem d_Mo_show_446 : decode cc_Mo_show 446 = .ok (.ifCond .eq 8, 3) := by decide +kernel
theorem d_Mo_show_449 : decode cc_Mo_show 449 = .ok (.bipush 58, 2) := by decide +kernel
theorem d_Mo_show_451 : decode cc_Mo_show 451 = .ok (.goto 5, 3) := by decide +kernel
theorem d_Mo_show_454 : decode cc_Mo_show 454 = .ok (.bipush 38, 2) := by decide +kernel
theorem d_Mo_show_456 : decode cc_Mo_show 456 = .ok (.invokevirtual 133, 3) := by decide +kernel
theorem d_Mo_show_459 : decode cc_Mo_show 459 = .ok (.goto 96, 3) := by decide +kernel
theorem d_Mo_show_462 : decode cc_Mo_show 462 = .ok (.iload 9, 2) := by decide +kernel
theorem d_Mo_show_464 : decode cc_Mo_show 464 = .ok (.bipush 20, 2) := by decide +kernel
theorem d_Mo_show_466 : decode cc_Mo_show 466 = .ok (.if_icmp .ne 15, 3) := by decide +kernel
theorem d_Mo_show_469 : decode cc_Mo_show 469 = .ok (.iconst 1, 1) := by decide +kernel
theorem d_Mo_show_470 : decode cc_Mo_show 470 = .ok (.istore 6, 2) := by decide +kernel
theorem d_Mo_show_472 : decode cc_Mo_show 472 = .ok (.aload_n 0, 1) := by decide +kernel
theorem d_Mo_show_473 : decode cc_Mo_show 473 = .ok (.iload 8, 2) := by decide +kernel
theorem d_Mo_show_475 : decode cc_Mo_show 475 = .ok (.invokevirtual 133, 3) := by decide +kernel
theorem d_Mo_show_478 : decode cc_Mo_show 478 = .ok (.goto 77, 3) := by decide +kernel
theorem d_Mo_show_481 : decode cc_Mo_show 481 = .ok (.iload 9, 2) := by decide +kernel
theorem d_Mo_show_483 : decode cc_Mo_show 483 = .ok (.bipush 23, 2) := by decide +kernel
theorem d_Mo_show_485 : decode cc_Mo_show 485 = .ok (.if_icmp .ne 13, 3) := by decide +kernel
theorem d_Mo_show_488 : decode cc_Mo_show 488 = .ok (.aload_n 0, 1) := by decide +kernel
theorem d_Mo_show_489 : decode cc_Mo_show 489 = .ok (.ldc2_w 168, 3) := by decide +kernel
theorem d_Mo_show_492 : decode cc_Mo_show 492 = .ok (.invokevirtual 161, 3) := by decide +kernel
theorem d_Mo_show_495 : decode cc_Mo_show 495 = .ok (.goto 60, 3) := by decide +kernel
theorem d_Mo_show_498 : decode cc_Mo_show 498 = .ok (.iload 9, 2) := by decide +kernel
theorem d_Mo_show_500 : decode cc_Mo_show 500 = .ok (.bipush 24, 2) := by decide +kernel
theorem d_Mo_show_502 : decode cc_Mo_show 502 = .ok (.if_icmp .ne 25, 3) := by decide +kernel
theorem d_Mo_show_505 : decode cc_Mo_show 505 = .ok (.aload_n 0, 1) := by decide +kernel
theorem d_Mo_show_506 : decode cc_Mo_show 506 = .ok (.iload 5, 2) := by decide +kernel
theorem d_Mo_show_508 : decode cc_Mo_show 508 = .ok (.ifCond .ne 8, 3) := by decide +kernel
theorem d_Mo_show_511 : decode cc_Mo_show 511 = .ok (.bipush 94, 2) := by decide +kernel
theorem d_Mo_show_513 : decode cc_Mo_show 513 = .ok (.goto 5, 3) := by decide +kernel
theorem d_Mo_show_516 : decode cc_Mo_show 516 = .ok (.bipush 44, 2) := by decide +kernel
theorem d_Mo_show_518 : decode cc_Mo_show 518 = .ok (.invokevirtual 133, 3) := by decide +kernel
theorem d_Mo_show_521 : decode cc_Mo_show 521 = .ok (.iinc 5 1, 3) := by decide +kernel
theorem d_Mo_show_524 : decode cc_Mo_show 524 = .ok (.goto 31, 3) := by decide +kernel
theorem d_Mo_show_527 : decode cc_Mo_show 527 = .ok (.iload 9, 2) := by decide +kernel
theorem d_Mo_show_529 : decode cc_Mo_show 529 = .ok (.bipush 6, 2) := by decide +kernel
theorem d_Mo_show_531 : decode cc_Mo_show 531 = .ok (.if_icmp .ne 12, 3) := by decide +kernel
theorem d_Mo_show_534 : decode cc_Mo_show 534 = .ok (.aload_n 0, 1) := by decide +kernel
theorem d_Mo_show_535 : decode cc_Mo_show 535 = .ok (.bipush 46, 2) := by decide +kernel
theorem d_Mo_show_537 : decode cc_Mo_show 537 = .ok (.invokevirtual 133, 3) := by decide +kernel
theorem d_Mo_show_540 : decode cc_Mo_show 540 = .ok (.goto 15, 3) := by decide +kernel
theorem d_Mo_show_543 : decode cc_Mo_show 543 = .ok (.iload 9, 2) := by decide +kernel
theorem d_Mo_show_545 : decode cc_Mo_show 545 = .ok (.iconst 2, 1) := by decide +kernel
theorem d_Mo_show_546 : decode cc_Mo_show 546 = .ok (.if_icmp .eq 9, 3) := by decide +kernel
theorem d_Mo_show_549 : decode cc_Mo_show 549 = .ok (.aload_n 0, 1) := by decide +kernel
theorem d_Mo_show_550 : decode cc_Mo_show 550 = .ok (.iload 8, 2) := by decide +kernel
theorem d_Mo_show_552 : decode cc_Mo_show 552 = .ok (.invokevirtual 133, 3) := by decide +kernel
theorem d_Mo_show_555 : decode cc_Mo_show 555 = .ok (.iinc 7 1, 3) := by decide +kernel
theorem d_Mo_show_558 : decode cc_Mo_show 558 = .ok (.goto (-529), 3) := by decide +kernel
theorem d_Mo_show_561 : decode cc_Mo_show 561 = .ok (.return_, 1) := by decide +kernel
theorem d_Mo_make_0 : decode cc_Mo_make 0 = .ok (.aload_n 0, 1) := by decide +kernel
theorem d_Mo_make_1 : decode cc_Mo_make 1 = .ok (.iconst 0, 1) := by decide +kernel
theorem d_Mo_make_2 : decode cc_Mo_make 2 = .ok (.putfield 128, 3) := by decide +kernel
theorem d_Mo_make_5 : decode cc_Mo_make 5 = .ok (.aload_n 0, 1) := by decide +kernel
theorem d_Mo_make_6 : decode cc_Mo_make 6 = .ok (.iconst (-1), 1) := by decide +kernel
theorem d_Mo_make_7 : decode cc_Mo_make 7 = .ok (.putfield 60, 3) := by decide +kernel
theorem d_Mo_make_10 : decode cc_Mo_make 10 = .ok (.aload_n 0, 1) := by decide +kernel
theorem d_Mo_make_11 : decode cc_Mo_make 11 = .ok (.iload_n 1, 1) := by decide +kernel
theorem d_Mo_make_12 : decode cc_Mo_make 12 = .ok (.invokevirtual 116, 3) := by decide +kernel
theorem d_Mo_make_15 : decode cc_Mo_make 15 = .ok (.ifCond .ne 12, 3) := by decide +kernel
theorem d_Mo_make_18 : decode cc_Mo_make 18 = .ok (.iload_n 2, 1) := by decide +kernel
theorem d_Mo_make_19 : decode cc_Mo_make 19 = .ok (.ifCond .lt 8, 3) := by decide +kernel
theorem d_Mo_make_22 : decode cc_Mo_make 22 = .ok (.iload_n 2, 1) := by decide +kernel
theorem d_Mo_make_23 : decode cc_Mo_make 23 = .ok (.iconst 2, 1) := by decide +kernel
theorem d_Mo_make_24 : decode cc_Mo_make 24 = .ok (.if_icmp .le 5, 3) := by decide +kernel
theorem d_Mo_make_27 : decode cc_Mo_make 27 = .ok (.iconst 0, 1) := by decide +kernel
theorem d_Mo_make_28 : decode cc_Mo_make 28 = .ok (.ireturn, 1) := by decide +kernel
theorem d_Mo_make_29 : decode cc_Mo_make 29 = .ok (.iload_n 2, 1) := by decide +kernel
theorem d_Mo_make_30 : decode cc_Mo_make 30 = .ok (.iconst 1, 1) := by decide +kernel
theorem d_Mo_make_31 : decode cc_Mo_make 31 = .ok (.if_icmp .ne 11, 3) := by decide +kernel
theorem d_Mo_make_34 : decode cc_Mo_make 34 = .ok (.aload_n 0, 1) := by decide +kernel
theorem d_Mo_make_35 : decode cc_Mo_make 35 = .ok (.iload_n 1, 1) := by decide +kernel
theorem d_Mo_make_36 : decode cc_Mo_make 36 = .ok (.invokevirtual 200, 3) := by decide +kernel
theorem d_Mo_make_39 : decode cc_Mo_make 39 = .ok (.goto 45, 3) := by decide +kernel
theorem d_Mo_make_42 : decode cc_Mo_make 42 = .ok (.iload_n 2, 1) := by decide +kernel
theorem d_Mo_make_43 : decode cc_Mo_make 43 = .ok (.iconst 2, 1) := by decide +kernel
theorem d_Mo_make_44 : decode cc_Mo_make 44 = .ok (.if_icmp .ne 12, 3) := by decide +kernel
theorem d_Mo_make_47 : decode cc_Mo_make 47 = .ok (.aload_n 0, 1) := by decide +kernel
theorem d_Mo_make_48 : decode cc_Mo_make 48 = .ok (.iload_n 1, 1) := by decide +kernel
theorem d_Mo_make_49 : decode cc_Mo_make 49 = .ok (.iconst 0, 1) := by decide +kernel
theorem d_Mo_make_50 : decode cc_Mo_make 50 = .ok (.invokevirtual 203, 3) := by decide +kernel
theorem d_Mo_make_53 : decode cc_Mo_make 53 = .ok (.goto 31, 3) := by decide +kernel
theorem d_Mo_make_56 : decode cc_Mo_make 56 = .ok (.iconst 0, 1) := by decide +kernel
theorem d_Mo_make_57 : decode cc_Mo_make 57 = .ok (.istore_n 3, 1) := by decide +kernel
theorem d_Mo_make_58 : decode cc_Mo_make 58 = .ok (.iload_n 3, 1) := by decide +kernel
theorem d_Mo_make_59 : decode cc_Mo_make 59 = .ok (.aload_n 0, 1) := by decide +kernel
theorem d_Mo_make_60 : decode cc_Mo_make 60 = .ok (.getfield 19, 3) := by decide +kernel
theorem d_Mo_make_63 : decode cc_Mo_make 63 = .ok (.iload_n 1, 1) := by decide +kernel
theorem d_Mo_make_64 : decode cc_Mo_make 64 = .ok (.iaload, 1) := by decide +kernel
theorem d_Mo_make_65 : decode cc_Mo_make 65 = .ok (.if_icmp .ge 19, 3) := by decide +kernel
theorem d_Mo_make_68 : decode cc_Mo_make 68 = .ok (.aload_n 0, 1) := by decide +kernel
theorem d_Mo_make_69 : decode cc_Mo_make 69 = .ok (.aload_n 0, 1) := by decide +kernel
theorem d_Mo_make_70 : decode cc_Mo_make 70 = .ok (.iload_n 1, 1) := by decide +kernel
theorem d_Mo_make_71 : decode cc_Mo_make 71 = .ok (.iload_n 3, 1) := by decide +kernel
theorem d_Mo_make_72 : decode cc_Mo_make 72 = .ok (.invokevirtual 100, 3) := by decide +kernel
theorem d_Mo_make_75 : decode cc_Mo_make 75 = .ok (.invokevirtual 133, 3) := by decide +kernel
theorem d_Mo_make_78 : decode cc_Mo_make 78 = .ok (.iinc 3 1, 3) := by decide +kernel
theorem d_Mo_make_81 : decode cc_Mo_make 81 = .ok (.goto (-23), 3) := by decide +kernel
theorem d_Mo_make_84 : decode cc_Mo_make 84 = .ok (.iconst 1, 1) := by decide +kernel
theorem d_Mo_make_85 : decode cc_Mo_make 85 = .ok (.ireturn, 1) := by decide +kernel
theorem d_Mo_text_0 : decode cc_Mo_text 0 = .ok (.aload_n 0, 1) := by decide +kernel
theorem d_Mo_text_1 : decode cc_Mo_text 1 = .ok (.iload_n 1, 1) := by decide +kernel
theorem d_Mo_text_2 : decode cc_Mo_text 2 = .ok (.iload_n 2, 1) := by decide +kernel
theorem d_Mo_text_3 : decode cc_Mo_text 3 = .ok (.invokevirtual 207, 3) := by decide +kernel
theorem d_Mo_text_6 : decode cc_Mo_text 6 = .ok (.ifCond .eq 24, 3) := by decide +kernel
theorem d_Mo_text_9 : decode cc_Mo_text 9 = .ok (.iload_n 3, 1) := by decide +kernel
theorem d_Mo_text_10 : decode cc_Mo_text 10 = .ok (.ifCond .lt 20, 3) := by decide +kernel
theorem d_Mo_text_13 : decode cc_Mo_text 13 = .ok (.iload_n 3, 1) := by decide +kernel
theorem d_Mo_text_14 : decode cc_Mo_text 14 = .ok (.aload_n 0, 1) := by decide +kernel
theorem d_Mo_text_15 : decode cc_Mo_text 15 = .ok (.getfield 128, 3) := by decide +kernel
theorem d_Mo_text_18 : decode cc_Mo_text 18 = .ok (.if_icmp .ge 12, 3) := by decide +kernel
theorem d_Mo_text_21 : decode cc_Mo_text 21 = .ok (.aload_n 0, 1) := by decide +kernel
theorem d_Mo_text_22 : decode cc_Mo_text 22 = .ok (.getfield 46, 3) := by decide +kernel
theorem d_Mo_text_25 : decode cc_Mo_text 25 = .ok (.iload_n 3, 1) := by decide +kernel
theorem d_Mo_text_26 : decode cc_Mo_text 26 = .ok (.iaload, 1) := by decide +kernel
theorem d_Mo_text_27 : decode cc_Mo_text 27 = .ok (.goto 4, 3) := by decide +kernel
theorem d_Mo_text_30 : decode cc_Mo_text 30 = .ok (.iconst (-1), 1) := by decide +kernel
theorem d_Mo_text_31 : decode cc_Mo_text 31 = .ok (.ireturn, 1) := by decide +kernel
theorem d_Mo_length_0 : decode cc_Mo_length 0 = .ok (.aload_n 0, 1) := by decide +kernel
theorem d_Mo_length_1 : decode cc_Mo_length 1 = .ok (.iload_n 1, 1) := by decide +kernel
theorem d_Mo_length_2 : decode cc_Mo_length 2 = .ok (.iload_n 2, 1) := by decide +kernel
theorem d_Mo_length_3 : decode cc_Mo_length 3 = .ok (.invokevirtual 207, 3) := by decide +kernel
theorem d_Mo_length_6 : decode cc_Mo_length 6 = .ok (.ifCond .eq 10, 3) := by decide +kernel
theorem d_Mo_length_9 : decode cc_Mo_length 9 = .ok (.aload_n 0, 1) := by decide +kernel
theorem d_Mo_length_10 : decode cc_Mo_length 10 = .ok (.getfield 128, 3) := by decide +kernel
theorem d_Mo_length_13 : decode cc_Mo_length 13 = .ok (.goto 5, 3) := by decide +kernel
theorem d_Mo_length_16 : decode cc_Mo_length 16 = .ok (.bipush (-100), 2) := by decide +kernel
theorem d_Mo_length_18 : decode cc_Mo_length 18 = .ok (.ireturn, 1) := by decide +kernel
theorem d_Mo_own_0 : decode cc_Mo_own 0 = .ok (.aload_n 0, 1) := by decide +kernel
theorem d_Mo_own_1 : decode cc_Mo_own 1 = .ok (.iload_n 1, 1) := by decide +kernel
theorem d_Mo_own_2 : decode cc_Mo_own 2 = .ok (.iload_n 1, 1) := by decide +kernel
theorem d_Mo_own_3 : decode cc_Mo_own 3 = .ok (.iload_n 2, 1) := by decide +kernel
theorem d_Mo_own_4 : decode cc_Mo_own 4 = .ok (.invokevirtual 125, 3) := by decide +kernel
theorem d_Mo_own_7 : decode cc_Mo_own 7 = .ok (.ifCond .lt 7, 3) := by decide +kernel
theorem d_Mo_own_10 : decode cc_Mo_own 10 = .ok (.iconst 1, 1) := by decide +kernel
theorem d_Mo_own_11 : decode cc_Mo_own 11 = .ok (.goto 4, 3) := by decide +kernel
theorem d_Mo_own_14 : decode cc_Mo_own 14 = .ok (.iconst 0, 1) := by decide +kernel
theorem d_Mo_own_15 : decode cc_Mo_own 15 = .ok (.ireturn, 1) := by decide +kernel
theorem d_Mo_alike_0 : decode cc_Mo_alike 0 = .ok (.aload_n 0, 1) := by decide +kernel
theorem d_Mo_alike_1 : decode cc_Mo_alike 1 = .ok (.iload_n 1, 1) := by decide +kernel
theorem d_Mo_alike_2 : decode cc_Mo_alike 2 = .ok (.invokevirtual 116, 3) := by decide +kernel
theorem d_Mo_alike_5 : decode cc_Mo_alike 5 = .ok (.ifCond .ne 11, 3) := by decide +kernel
theorem d_Mo_alike_8 : decode cc_Mo_alike 8 = .ok (.aload_n 0, 1) := by decide +kernel
theorem d_Mo_alike_9 : decode cc_Mo_alike 9 = .ok (.iload_n 2, 1) := by decide +kernel
theorem d_Mo_alike_10 : decode cc_Mo_alike 10 = .ok (.invokevirtual 116, 3) := by decide +kernel
theorem d_Mo_alike_13 : decode cc_Mo_alike 13 = .ok (.ifCond .eq 6, 3) := by decide +kernel
theorem d_Mo_alike_16 : decode cc_Mo_alike 16 = .ok (.bipush (-100), 2) := by decide +kernel
theorem d_Mo_alike_18 : decode cc_Mo_alike 18 = .ok (.ireturn, 1) := by decide +kernel
theorem d_Mo_alike_19 : decode cc_Mo_alike 19 = .ok (.aload_n 0, 1) := by decide +kernel
theorem d_Mo_alike_20 : decode cc_Mo_alike 20 = .ok (.getfield 22, 3) := by decide +kernel
theorem d_Mo_alike_23 : decode cc_Mo_alike 23 = .ok (.iload_n 1, 1) := by decide +kernel
theorem d_Mo_alike_24 : decode cc_Mo_alike 24 = .ok (.iaload, 1) := by decide +kernel
theorem d_Mo_alike_25 : decode cc_Mo_alike 25 = .ok (.aload_n 0, 1) := by decide +kernel
theorem d_Mo_alike_26 : decode cc_Mo_alike 26 = .ok (.getfield 22, 3) := by decide +kernel
theorem d_Mo_alike_29 : decode cc_Mo_alike 29 = .ok (.iload_n 2, 1) := by decide +kernel
theorem d_Mo_alike_30 : decode cc_Mo_alike 30 = .ok (.iaload, 1) := by decide +kernel
theorem d_Mo_alike_31 : decode cc_Mo_alike 31 = .ok (.if_icmp .ne 18, 3) := by decide +kernel
theorem d_Mo_alike_34 : decode cc_Mo_alike 34 = .ok (.aload_n 0, 1) := by decide +kernel
theorem d_Mo_alike_35 : decode cc_Mo_alike 35 = .ok (.getfield 40, 3) := by decide +kernel
theorem d_Mo_alike_38 : decode cc_Mo_alike 38 = .ok (.iload_n 1, 1) := by decide +kernel
theorem d_Mo_alike_39 : decode cc_Mo_alike 39 = .ok (.iaload, 1) := by decide +kernel
theorem d_Mo_alike_40 : decode cc_Mo_alike 40 = .ok (.aload_n 0, 1) := by decide +kernel
theorem d_Mo_alike_41 : decode cc_Mo_alike 41 = .ok (.getfield 40, 3) := by decide +kernel
theorem d_Mo_alike_44 : decode cc_Mo_alike 44 = .ok (.iload_n 2, 1) := by decide +kernel
theorem d_Mo_alike_45 : decode cc_Mo_alike 45 = .ok (.iaload, 1) := by decide +kernel
theorem d_Mo_alike_46 : decode cc_Mo_alike 46 = .ok (.if_icmp .eq 5, 3) := by decide +kernel
theorem d_Mo_alike_49 : decode cc_Mo_alike 49 = .ok (.iconst 0, 1) := by decide +kernel
theorem d_Mo_alike_50 : decode cc_Mo_alike 50 = .ok (.ireturn, 1) := by decide +kernel
theorem d_Mo_alike_51 : decode cc_Mo_alike 51 = .ok (.iconst 0, 1) := by decide +kernel
theorem d_Mo_alike_52 : decode cc_Mo_alike 52 = .ok (.istore_n 3, 1) := by decide +kernel
theorem d_Mo_alike_53 : decode cc_Mo_alike 53 = .ok (.iconst 0, 1) := by decide +kernel
theorem d_Mo_alike_54 : decode cc_Mo_alike 54 = .ok (.istore 4, 2) := by decide +kernel
theorem d_Mo_alike_56 : decode cc_Mo_alike 56 = .ok (.iconst 0, 1) := by decide +kernel
theorem d_Mo_alike_57 : decode cc_Mo_alike 57 = .ok (.istore 5, 2) := by decide +kernel
theorem d_Mo_alike_59 : decode cc_Mo_alike 59 = .ok (.iload 4, 2) := by decide +kernel
theorem d_Mo_alike_61 : decode cc_Mo_alike 61 = .ok (.aload_n 0, 1) := by decide +kernel
theorem d_Mo_alike_62 : decode cc_Mo_alike 62 = .ok (.getfield 19, 3) := by decide +kernel
theorem d_Mo_alike_65 : decode cc_Mo_alike 65 = .ok (.iload_n 2, 1) := by decide +kernel
theorem d_Mo_alike_66 : decode cc_Mo_alike 66 = .ok (.iaload, 1) := by decide +kernel
theorem d_Mo_alike_67 : decode cc_Mo_alike 67 = .ok (.if_icmp .ge 277, 3) := by decide +kernel
theorem d_Mo_alike_70 : decode cc_Mo_alike 70 = .ok (.aload_n 0, 1) := by decide +kernel
theorem d_Mo_alike_71 : decode cc_Mo_alike 71 = .ok (.iload_n 2, 1) := by decide +kernel
theorem d_Mo_alike_72 : decode cc_Mo_alike 72 = .ok (.iload 4, 2) := by decide +kernel
theorem d_Mo_alike_74 : decode cc_Mo_alike 74 = .ok (.invokevirtual 119, 3) := by decide +kernel
theorem d_Mo_alike_77 : decode cc_Mo_alike 77 = .ok (.istore 6, 2) := by decide +kernel
theorem d_Mo_alike_79 : decode cc_Mo_alike 79 = .ok (.iload 6, 2) := by decide +kernel
theorem d_Mo_alike_81 : decode cc_Mo_alike 81 = .ok (.iconst 2, 1) := by decide +kernel
theorem d_Mo_alike_82 : decode cc_Mo_alike 82 = .ok (.if_icmp .ne 14, 3) := by decide +kernel
theorem d_Mo_alike_85 : decode cc_Mo_alike 85 = .ok (.aload_n 0, 1) := by decide +kernel
theorem d_Mo_alike_86 : decode cc_Mo_alike 86 = .ok (.iload_n 2, 1) := by decide +kernel
theorem d_Mo_alike_87 : decode cc_Mo_alike 87 = .ok (.iload_n 2, 1) := by decide +kernel
theorem d_Mo_alike_88 : decode cc_Mo_alike 88 = .ok (.iload 4, 2) := by decide +kernel
theorem d_Mo_alike_90 : decode cc_Mo_alike 90 = .ok (.invokevirtual 125, 3) := by decide +kernel
theorem d_Mo_alike_93 : decode cc_Mo_alike 93 = .ok (.goto 4, 3) := by decide +kernel
theorem d_Mo_alike_96 : decode cc_Mo_alike 96 = .ok (.iconst (-1), 1) := by decide +kernel
theorem d_Mo_alike_97 : decode cc_Mo_alike 97 = .ok (.istore 7, 2) := by decide +kernel
theorem d_Mo_alike_99 : decode cc_Mo_alike 99 = .ok (.iload 6, 2) := by decide +kernel
theorem d_Mo_alike_101 : decode cc_Mo_alike 101 = .ok (.iconst 2, 1) := by decide +kernel
theorem d_Mo_alike_102 : decode cc_Mo_alike 102 = .ok (.if_icmp .ne 34, 3) := by decide +kernel
theorem d_Mo_alike_105 : decode cc_Mo_alike 105 = .ok (.aload_n 0, 1) := by decide +kernel
theorem d_Mo_alike_106 : decode cc_Mo_alike 106 = .ok (.iload_n 1, 1) := by decide +kernel
theorem d_Mo_alike_107 : decode cc_Mo_alike 107 = .ok (.iload_n 3, 1) := by decide +kernel
theorem d_Mo_alike_108 : decode cc_Mo_alike 108 = .ok (.invokevirtual 119, 3) := by decide +kernel
theorem d_Mo_alike_111 : decode cc_Mo_alike 111 = .ok (.iconst 2, 1) := by decide +kernel
theorem d_Mo_alike_112 : decode cc_Mo_alike 112 = .ok (.if_icmp .ne 24, 3) := by decide +kernel
theorem d_Mo_alike_115 : decode cc_Mo_alike 115 = .ok (.aload_n 0, 1) := by decide +kernel
theorem d_Mo_alike_116 : decode cc_Mo_alike 116 = .ok (.iload_n 1, 1) := by decide +kernel
theorem d_Mo_alike_117 : decode cc_Mo_alike 117 = .ok (.iload_n 3, 1) := by decide +kernel
theorem d_Mo_alike_118 : decode cc_Mo_alike 118 = .ok (.invokevirtual 211, 3) := by decide +kernel
theorem d_Mo_alike_121 : decode cc_Mo_alike 121 = .ok (.iload 7, 2) := by decide +kernel
theorem d_Mo_alike_123 : decode cc_Mo_alike 123 = .ok (.ifCond .lt 7, 3) := by decide +kernel
theorem d_Mo_alike_126 : decode cc_Mo_alike 126 = .ok (.iconst 1, 1) := by decide +kernel
theorem d_Mo_alike_127 : decode cc_Mo_alike 127 = .ok (.goto 4, 3) := by decide +kernel
theorem d_Mo_alike_130 : decode cc_Mo_alike 130 = .ok (.iconst 0, 1) := by decide +kernel
theorem d_Mo_alike_131 : decode cc_Mo_alike 131 = .ok (.if_icmp .eq 5, 3) := by decide +kernel
theorem d_Mo_alike_134 : decode cc_Mo_alike 134 = .ok (.iconst 0, 1) := by decide +kernel
theorem d_Mo_alike_135 : decode cc_Mo_alike 135 = .ok (.ireturn, 1) := by decide +kernel
theorem d_Mo_alike_136 : decode cc_Mo_alike 136 = .ok (.iload 6, 2) := by decide +kernel
theorem d_Mo_alike_138 : decode cc_Mo_alike 138 = .ok (.bipush 17, 2) := by decide +kernel
theorem d_Mo_alike_140 : decode cc_Mo_alike 140 = .ok (.if_icmp .eq 14, 3) := by decide +kernel
theorem d_Mo_alike_143 : decode cc_Mo_alike 143 = .ok (.iload 6, 2) := by decide +kernel
theorem d_Mo_alike_145 : decode cc_Mo_alike 145 = .ok (.iconst 2, 1) := by decide +kernel
theorem d_Mo_alike_146 : decode cc_Mo_alike 146 = .ok (.if_icmp .ne 161, 3) := by decide +kernel
theorem d_Mo_alike_149 : decode cc_Mo_alike 149 = .ok (.iload 7, 2) := by decide +kernel
theorem d_Mo_alike_151 : decode cc_Mo_alike 151 = .ok (.ifCond .lt 156, 3) := by decide +kernel
theorem d_Mo_alike_154 : decode cc_Mo_alike 154 = .ok (.bipush 20, 2) := by decide +kernel
theorem d_Mo_alike_156 : decode cc_Mo_alike 156 = .ok (.iload_n 1, 1) := by decide +kernel
theorem d_Mo_alike_157 : decode cc_Mo_alike 157 = .ok (.imul, 1) := by decide +kernel
theorem d_Mo_alike_158 : decode cc_Mo_alike 158 = .ok (.iload 6, 2) := by decide +kernel
theorem d_Mo_alike_160 : decode cc_Mo_alike 160 = .ok (.bipush 17, 2) := by decide +kernel
theorem d_Mo_alike_162 : decode cc_Mo_alike 162 = .ok (.if_icmp .ne 8, 3) := by decide +kernel
theorem d_Mo_alike_165 : decode cc_Mo_alike 165 = .ok (.iload 5, 2) := by decide +kernel
theorem d_Mo_alike_167 : decode cc_Mo_alike 167 = .ok (.goto 10, 3) := by decide +kernel
theorem d_Mo_alike_170 : decode cc_Mo_alike 170 = .ok (.iload 7, 2) := by decide +kernel
theorem d_Mo_alike_172 : decode cc_Mo_alike 172 = .ok (.bipush 20, 2) := by decide +kernel
theorem d_Mo_alike_174 : decode cc_Mo_alike 174 = .ok (.iload_n 2, 1) := by decide +kernel
theorem d_Mo_alike_175 : decode cc_Mo_alike 175 = .ok (.imul, 1) := by decide +kernel
theorem d_Mo_alike_176 : decode cc_Mo_alike 176 = .ok (.isub, 1) := by decide +kernel
theorem d_Mo_alike_177 : decode cc_Mo_alike 177 = .ok (.iadd, 1) := by decide +kernel
theorem d_Mo_alike_178 : decode cc_Mo_alike 178 = .ok (.istore 8, 2) := by decide +kernel
theorem d_Mo_alike_180 : decode cc_Mo_alike 180 = .ok (.iload 6, 2) := by decide +kernel
theorem d_Mo_alike_182 : decode cc_Mo_alike 182 = .ok (.iconst 2, 1) := by decide +kernel
theorem d_Mo_alike_183 : decode cc_Mo_alike 183 = .ok (.if_icmp .ne 43, 3) := by decide +kernel
theorem d_Mo_alike_186 : decode cc_Mo_alike 186 = .ok (.iload_n 3, 1) := by decide +kernel
theorem d_Mo_alike_187 : decode cc_Mo_alike 187 = .ok (.aload_n 0, 1) := by decide +kernel
theorem d_Mo_alike_188 : decode cc_Mo_alike 188 = .ok (.getfield 19, 3) := by decide +kernel
theorem d_Mo_alike_191 : decode cc_Mo_alike 191 = .ok (.iload_n 1, 1) := by decide +kernel
theorem d_Mo_alike_192 : decode cc_Mo_alike 192 = .ok (.iaload, 1) := by decide +kernel
theorem d_Mo_alike_193 : decode cc_Mo_alike 193 = .ok (.if_icmp .ge 14, 3) := by decide +kernel
theorem d_Mo_alike_196 : decode cc_Mo_alike 196 = .ok (.aload_n 0, 1) := by decide +kernel
theorem d_Mo_alike_197 : decode cc_Mo_alike 197 = .ok (.iload_n 1, 1) := by decide +kernel
theorem d_Mo_alike_198 : decode cc_Mo_alike 198 = .ok (.iload_n 3, 1) := by decide +kernel
theorem d_Mo_alike_199 : decode cc_Mo_alike 199 = .ok (.invokevirtual 100, 3) := by decide +kernel
theorem d_Mo_alike_202 : decode cc_Mo_alike 202 = .ok (.bipush 84, 2) := by decide +kernel
theorem d_Mo_alike_204 : decode cc_Mo_alike 204 = .ok (.if_icmp .eq 5, 3) := by decide +kernel
theorem d_Mo_alike_207 : decode cc_Mo_alike 207 = .ok (.iconst 0, 1) := by decide +kernel
theorem d_Mo_alike_208 : decode cc_Mo_alike 208 = .ok (.ireturn, 1) := by decide +kernel
theorem d_Mo_alike_209 : decode cc_Mo_alike 209 = .ok (.iinc 3 1, 3) := by decide +kernel
theorem d_Mo_alike_212 : decode cc_Mo_alike 212 = .ok (.aload_n 0, 1) := by decide +kernel
theorem d_Mo_alike_213 : decode cc_Mo_alike 213 = .ok (.iload_n 2, 1) := by decide +kernel
theorem d_Mo_alike_214 : decode cc_Mo_alike 214 = .ok (.iload 4, 2) := by decide +kernel
theorem d_Mo_alike_216 : decode cc_Mo_alike 216 = .ok (.iconst 1, 1) := by decide +kernel
theorem d_Mo_alike_217 : decode cc_Mo_alike 217 = .ok (.iadd, 1) := by decide +kernel
theorem d_Mo_alike_218 : decode cc_Mo_alike 218 = .ok (.invokevirtual 122, 3) := by decide +kernel
theorem d_Mo_alike_221 : decode cc_Mo_alike 221 = .ok (.istore 4, 2) := by decide +kernel
theorem d_Mo_alike_223 : decode cc_Mo_alike 223 = .ok (.goto 20, 3) := by decide +kernel
theorem d_Mo_alike_226 : decode cc_Mo_alike 226 = .ok (.aload_n 0, 1) := by decide +kernel
theorem d_Mo_alike_227 : decode cc_Mo_alike 227 = .ok (.getfield 31, 3) := by decide +kernel
theorem d_Mo_alike_230 : decode cc_Mo_alike 230 = .ok (.bipush 20, 2) := by decide +kernel
theorem d_Mo_alike_232 : decode cc_Mo_alike 232 = .ok (.iload_n 2, 1) := by decide +kernel
theorem d_Mo_alike_233 : decode cc_Mo_alike 233 = .ok (.imul, 1) := by decide +kernel
theorem d_Mo_alike_234 : decode cc_Mo_alike 234 = .ok (.iload 5, 2) := by decide +kernel
theorem d_Mo_alike_236 : decode cc_Mo_alike 236 = .ok (.iadd, 1) := by decide +kernel
theorem d_Mo_alike_237 : decode cc_Mo_alike 237 = .ok (.iaload, 1) := by decide +kernel
theorem d_Mo_alike_238 : decode cc_Mo_alike 238 = .ok (.istore 4, 2) := by decide +kernel
theorem d_Mo_alike_240 : decode cc_Mo_alike 240 = .ok (.iinc 5 1, 3) := by decide +kernel
theorem d_Mo_alike_243 : decode cc_Mo_alike 243 = .ok (.aload_n 0, 1) := by decide +kernel
theorem d_Mo_alike_244 : decode cc_Mo_alike 244 = .ok (.iload_n 1, 1) := by decide +kernel
theorem d_Mo_alike_245 : decode cc_Mo_alike 245 = .ok (.aload_n 0, 1) := by decide +kernel
theorem d_Mo_alike_246 : decode cc_Mo_alike 246 = .ok (.getfield 28, 3) := by decide +kernel
theorem d_Mo_alike_249 : decode cc_Mo_alike 249 = .ok (.iload 8, 2) := by decide +kernel
theorem d_Mo_alike_251 : decode cc_Mo_alike 251 = .ok (.iaload, 1) := by decide +kernel
theorem d_Mo_alike_252 : decode cc_Mo_alike 252 = .ok (.aload_n 0, 1) := by decide +kernel
theorem d_Mo_alike_253 : decode cc_Mo_alike 253 = .ok (.getfield 31, 3) := by decide +kernel
theorem d_Mo_alike_256 : decode cc_Mo_alike 256 = .ok (.iload 8, 2) := by decide +kernel
theorem d_Mo_alike_258 : decode cc_Mo_alike 258 = .ok (.iaload, 1) := by decide +kernel
theorem d_Mo_alike_259 : decode cc_Mo_alike 259 = .ok (.iload_n 1, 1) := by decide +kernel
theorem d_Mo_alike_260 : decode cc_Mo_alike 260 = .ok (.iload_n 3, 1) := by decide +kernel
theorem d_Mo_alike_261 : decode cc_Mo_alike 261 = .ok (.iload_n 3, 1) := by decide +kernel
theorem d_Mo_alike_262 : decode cc_Mo_alike 262 = .ok (.aload_n 0, 1) := by decide +kernel
theorem d_Mo_alike_263 : decode cc_Mo_alike 263 = .ok (.getfield 31, 3) := by decide +kernel
theorem d_Mo_alike_266 : decode cc_Mo_alike 266 = .ok (.iload 8, 2) := by decide +kernel
theorem d_Mo_alike_268 : decode cc_Mo_alike 268 = .ok (.iaload, 1) := by decide +kernel
theorem d_Mo_alike_269 : decode cc_Mo_alike 269 = .ok (.iadd, 1) := by decide +kernel
theorem d_Mo_alike_270 : decode cc_Mo_alike 270 = .ok (.aload_n 0, 1) := by decide +kernel
theorem d_Mo_alike_271 : decode cc_Mo_alike 271 = .ok (.getfield 28, 3) := by decide +kernel
theorem d_Mo_alike_274 : decode cc_Mo_alike 274 = .ok (.iload 8, 2) := by decide +kernel
theorem d_Mo_alike_276 : decode cc_Mo_alike 276 = .ok (.iaload, 1) := by decide +kernel
theorem d_Mo_alike_277 : decode cc_Mo_alike 277 = .ok (.isub, 1) := by decide +kernel
theorem d_Mo_alike_278 : decode cc_Mo_alike 278 = .ok (.invokevirtual 103, 3) := by decide +kernel
theorem d_Mo_alike_281 : decode cc_Mo_alike 281 = .ok (.ifCond .ne 5, 3) := by decide +kernel
theorem d_Mo_alike_284 : decode cc_Mo_alike 284 = .ok (.iconst 0, 1) := by decide +kernel
theorem d_Mo_alike_285 : decode cc_Mo_alike 285 = .ok (.ireturn, 1) := by decide +kernel
theorem d_Mo_alike_286 : decode cc_Mo_alike 286 = .ok (.iload_n 3, 1) := by decide +kernel
theorem d_Mo_alike_287 : decode cc_Mo_alike 287 = .ok (.aload_n 0, 1) := by decide +kernel
theorem d_Mo_alike_288 : decode cc_Mo_alike 288 = .ok (.getfield 31, 3) := by decide +kernel
theorem d_Mo_alike_291 : decode cc_Mo_alike 291 = .ok (.iload 8, 2) := by decide +kernel
theorem d_Mo_alike_293 : decode cc_Mo_alike 293 = .ok (.iaload, 1) := by decide +kernel
theorem d_Mo_alike_294 : decode cc_Mo_alike 294 = .ok (.aload_n 0, 1) := by decide +kernel
theorem d_Mo_alike_295 : decode cc_Mo_alike 295 = .ok (.getfield 28, 3) := by decide +kernel
theorem d_Mo_alike_298 : decode cc_Mo_alike 298 = .ok (.iload 8, 2) := by decide +kernel
theorem d_Mo_alike_300 : decode cc_Mo_alike 300 = .ok (.iaload, 1) := by decide +kernel
theorem d_Mo_alike_301 : decode cc_Mo_alike 301 = .ok (.isub, 1) := by decide +kernel
theorem d_Mo_alike_302 : decode cc_Mo_alike 302 = .ok (.iadd, 1) := by decide +kernel
theorem d_Mo_alike_303 : decode cc_Mo_alike 303 = .ok (.istore_n 3, 1) := by decide +kernel
theorem d_Mo_alike_304 : decode cc_Mo_alike 304 = .ok (.goto (-245), 3) := by decide +kernel
theorem d_Mo_alike_307 : decode cc_Mo_alike 307 = .ok (.iload_n 3, 1) := by decide +kernel
theorem d_Mo_alike_308 : decode cc_Mo_alike 308 = .ok (.aload_n 0, 1) := by decide +kernel
theorem d_Mo_alike_309 : decode cc_Mo_alike 309 = .ok (.getfield 19, 3) := by decide +kernel
theorem d_Mo_alike_312 : decode cc_Mo_alike 312 = .ok (.iload_n 1, 1) := by decide +kernel
theorem d_Mo_alike_313 : decode cc_Mo_alike 313 = .ok (.iaload, 1) := by decide +kernel
theorem d_Mo_alike_314 : decode cc_Mo_alike 314 = .ok (.if_icmp .ge 19, 3) := by decide +kernel
theorem d_Mo_alike_317 : decode cc_Mo_alike 317 = .ok (.aload_n 0, 1) := by decide +kernel
theorem d_Mo_alike_318 : decode cc_Mo_alike 318 = .ok (.iload_n 1, 1) := by decide +kernel
theorem d_Mo_alike_319 : decode cc_Mo_alike 319 = .ok (.iload_n 3, 1) := by decide +kernel
theorem d_Mo_alike_320 : decode cc_Mo_alike 320 = .ok (.invokevirtual 100, 3) := by decide +kernel
theorem d_Mo_alike_323 : decode cc_Mo_alike 323 = .ok (.aload_n 0, 1) := by decide +kernel
theorem d_Mo_alike_324 : decode cc_Mo_alike 324 = .ok (.iload_n 2, 1) := by decide +kernel
theorem d_Mo_alike_325 : decode cc_Mo_alike 325 = .ok (.iload 4, 2) := by decide +kernel
theorem d_Mo_alike_327 : decode cc_Mo_alike 327 = .ok (.invokevirtual 100, 3) := by decide +kernel
theorem d_Mo_alike_330 : decode cc_Mo_alike 330 = .ok (.if_icmp .eq 5, 3) := by decide +kernel
theorem d_Mo_alike_333 : decode cc_Mo_alike 333 = .ok (.iconst 0, 1) := by decide +kernel
theorem d_Mo_alike_334 : decode cc_Mo_alike 334 = .ok (.ireturn, 1) := by decide +kernel
theorem d_Mo_alike_335 : decode cc_Mo_alike 335 = .ok (.iinc 3 1, 3) := by decide +kernel
theorem d_Mo_alike_338 : decode cc_Mo_alike 338 = .ok (.iinc 4 1, 3) := by decide +kernel
theorem d_Mo_alike_341 : decode cc_Mo_alike 341 = .ok (.goto (-282), 3) := by decide +kernel
theorem d_Mo_alike_344 : decode cc_Mo_alike 344 = .ok (.iload_n 3, 1) := by decide +kernel
theorem d_Mo_alike_345 : decode cc_Mo_alike 345 = .ok (.aload_n 0, 1) := by decide +kernel
theorem d_Mo_alike_346 : decode cc_Mo_alike 346 = .ok (.getfield 19, 3) := by decide +kernel
theorem d_Mo_alike_349 : decode cc_Mo_alike 349 = .ok (.iload_n 1, 1) := by decide +kernel
theorem d_Mo_alike_350 : decode cc_Mo_alike 350 = .ok (.iaload, 1) := by decide +kernel
theorem d_Mo_alike_351 : decode cc_Mo_alike 351 = .ok (.if_icmp .ne 7, 3) := by decide +kernel
theorem d_Mo_alike_354 : decode cc_Mo_alike 354 = .ok (.iconst 1, 1) := by decide +kernel
theorem d_Mo_alike_355 : decode cc_Mo_alike 355 = .ok (.goto 4, 3) := by decide +kernel
theorem d_Mo_alike_358 : decode cc_Mo_alike 358 = .ok (.iconst 0, 1) := by decide +kernel
theorem d_Mo_alike_359 : decode cc_Mo_alike 359 = .ok (.ireturn, 1) := by decide +kernel
theorem d_Mo_clash_0 : decode cc_Mo_clash 0 = .ok (.aload_n 0, 1) := by decide +kernel
theorem d_Mo_clash_1 : decode cc_Mo_clash 1 = .ok (.iload_n 1, 1) := by decide +kernel
theorem d_Mo_clash_2 : decode cc_Mo_clash 2 = .ok (.invokevirtual 116, 3) := by decide +kernel
theorem d_Mo_clash_5 : decode cc_Mo_clash 5 = .ok (.ifCond .ne 31, 3) := by decide +kernel
theorem d_Mo_clash_8 : decode cc_Mo_clash 8 = .ok (.aload_n 0, 1) := by decide +kernel
theorem d_Mo_clash_9 : decode cc_Mo_clash 9 = .ok (.iload_n 2, 1) := by decide +kernel
theorem d_Mo_clash_10 : decode cc_Mo_clash 10 = .ok (.invokevirtual 116, 3) := by decide +kernel
theorem d_Mo_clash_13 : decode cc_Mo_clash 13 = .ok (.ifCond .ne 23, 3) := by decide +kernel
theorem d_Mo_clash_16 : decode cc_Mo_clash 16 = .ok (.aload_n 0, 1) := by decide +kernel
theorem d_Mo_clash_17 : decode cc_Mo_clash 17 = .ok (.getfield 22, 3) := by decide +kernel
theorem d_Mo_clash_20 : decode cc_Mo_clash 20 = .ok (.iload_n 1, 1) := by decide +kernel
