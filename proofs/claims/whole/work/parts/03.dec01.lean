theorem d_Rd_take_116 : decode cc_Rd_take 116 = .ok (.aload_n 0, 1) := by decide +kernel
theorem d_Rd_take_117 : decode cc_Rd_take 117 = .ok (.iconst 1, 1) := by decide +kernel
theorem d_Rd_take_118 : decode cc_Rd_take 118 = .ok (.putfield 28, 3) := by decide +kernel
theorem d_Rd_take_121 : decode cc_Rd_take 121 = .ok (.goto 53, 3) := by decide +kernel
theorem d_Rd_take_124 : decode cc_Rd_take 124 = .ok (.aload_n 0, 1) := by decide +kernel
theorem d_Rd_take_125 : decode cc_Rd_take 125 = .ok (.iconst 2, 1) := by decide +kernel
theorem d_Rd_take_126 : decode cc_Rd_take 126 = .ok (.putfield 28, 3) := by decide +kernel
theorem d_Rd_take_129 : decode cc_Rd_take 129 = .ok (.goto 45, 3) := by decide +kernel
theorem d_Rd_take_132 : decode cc_Rd_take 132 = .ok (.aload_n 0, 1) := by decide +kernel
theorem d_Rd_take_133 : decode cc_Rd_take 133 = .ok (.iconst 3, 1) := by decide +kernel
theorem d_Rd_take_134 : decode cc_Rd_take 134 = .ok (.putfield 28, 3) := by decide +kernel
theorem d_Rd_take_137 : decode cc_Rd_take 137 = .ok (.goto 37, 3) := by decide +kernel
theorem d_Rd_take_140 : decode cc_Rd_take 140 = .ok (.aload_n 0, 1) := by decide +kernel
theorem d_Rd_take_141 : decode cc_Rd_take 141 = .ok (.dup, 1) := by decide +kernel
theorem d_Rd_take_142 : decode cc_Rd_take 142 = .ok (.getfield 31, 3) := by decide +kernel
theorem d_Rd_take_145 : decode cc_Rd_take 145 = .ok (.iconst 1, 1) := by decide +kernel
theorem d_Rd_take_146 : decode cc_Rd_take 146 = .ok (.iadd, 1) := by decide +kernel
theorem d_Rd_take_147 : decode cc_Rd_take 147 = .ok (.putfield 31, 3) := by decide +kernel
theorem d_Rd_take_150 : decode cc_Rd_take 150 = .ok (.goto 24, 3) := by decide +kernel
theorem d_Rd_take_153 : decode cc_Rd_take 153 = .ok (.aload_n 0, 1) := by decide +kernel
theorem d_Rd_take_154 : decode cc_Rd_take 154 = .ok (.dup, 1) := by decide +kernel
theorem d_Rd_take_155 : decode cc_Rd_take 155 = .ok (.getfield 31, 3) := by decide +kernel
theorem d_Rd_take_158 : decode cc_Rd_take 158 = .ok (.iconst 1, 1) := by decide +kernel
theorem d_Rd_take_159 : decode cc_Rd_take 159 = .ok (.isub, 1) := by decide +kernel
theorem d_Rd_take_160 : decode cc_Rd_take 160 = .ok (.putfield 31, 3) := by decide +kernel
theorem d_Rd_take_163 : decode cc_Rd_take 163 = .ok (.goto 11, 3) := by decide +kernel
theorem d_Rd_take_166 : decode cc_Rd_take 166 = .ok (.aload_n 0, 1) := by decide +kernel
theorem d_Rd_take_167 : decode cc_Rd_take 167 = .ok (.iload_n 2, 1) := by decide +kernel
theorem d_Rd_take_168 : decode cc_Rd_take 168 = .ok (.invokevirtual 62, 3) := by decide +kernel
theorem d_Rd_take_171 : decode cc_Rd_take 171 = .ok (.goto 3, 3) := by decide +kernel
theorem d_Rd_take_174 : decode cc_Rd_take 174 = .ok (.aload_n 0, 1) := by decide +kernel
theorem d_Rd_take_175 : decode cc_Rd_take 175 = .ok (.getfield 9, 3) := by decide +kernel
theorem d_Rd_take_178 : decode cc_Rd_take 178 = .ok (.iload_n 2, 1) := by decide +kernel
theorem d_Rd_take_179 : decode cc_Rd_take 179 = .ok (.iload_n 1, 1) := by decide +kernel
theorem d_Rd_take_180 : decode cc_Rd_take 180 = .ok (.iastore, 1) := by decide +kernel
theorem d_Rd_take_181 : decode cc_Rd_take 181 = .ok (.aload_n 0, 1) := by decide +kernel
theorem d_Rd_take_182 : decode cc_Rd_take 182 = .ok (.iload_n 1, 1) := by decide +kernel
theorem d_Rd_take_183 : decode cc_Rd_take 183 = .ok (.putfield 34, 3) := by decide +kernel
theorem d_Rd_take_186 : decode cc_Rd_take 186 = .ok (.return_, 1) := by decide +kernel
theorem d_Rd_faultOf_0 : decode cc_Rd_faultOf 0 = .ok (.aload_n 0, 1) := by decide +kernel
theorem d_Rd_faultOf_1 : decode cc_Rd_faultOf 1 = .ok (.iload_n 2, 1) := by decide +kernel
theorem d_Rd_faultOf_2 : decode cc_Rd_faultOf 2 = .ok (.putfield 21, 3) := by decide +kernel
theorem d_Rd_faultOf_5 : decode cc_Rd_faultOf 5 = .ok (.aload_n 0, 1) := by decide +kernel
theorem d_Rd_faultOf_6 : decode cc_Rd_faultOf 6 = .ok (.iconst 0, 1) := by decide +kernel
theorem d_Rd_faultOf_7 : decode cc_Rd_faultOf 7 = .ok (.putfield 25, 3) := by decide +kernel
theorem d_Rd_faultOf_10 : decode cc_Rd_faultOf 10 = .ok (.aload_n 0, 1) := by decide +kernel
theorem d_Rd_faultOf_11 : decode cc_Rd_faultOf 11 = .ok (.iconst 1, 1) := by decide +kernel
theorem d_Rd_faultOf_12 : decode cc_Rd_faultOf 12 = .ok (.putfield 28, 3) := by decide +kernel
theorem d_Rd_faultOf_15 : decode cc_Rd_faultOf 15 = .ok (.aload_n 0, 1) := by decide +kernel
theorem d_Rd_faultOf_16 : decode cc_Rd_faultOf 16 = .ok (.iconst 0, 1) := by decide +kernel
theorem d_Rd_faultOf_17 : decode cc_Rd_faultOf 17 = .ok (.putfield 31, 3) := by decide +kernel
theorem d_Rd_faultOf_20 : decode cc_Rd_faultOf 20 = .ok (.aload_n 0, 1) := by decide +kernel
theorem d_Rd_faultOf_21 : decode cc_Rd_faultOf 21 = .ok (.iconst 0, 1) := by decide +kernel
theorem d_Rd_faultOf_22 : decode cc_Rd_faultOf 22 = .ok (.putfield 34, 3) := by decide +kernel
theorem d_Rd_faultOf_25 : decode cc_Rd_faultOf 25 = .ok (.iconst 0, 1) := by decide +kernel
theorem d_Rd_faultOf_26 : decode cc_Rd_faultOf 26 = .ok (.istore_n 3, 1) := by decide +kernel
theorem d_Rd_faultOf_27 : decode cc_Rd_faultOf 27 = .ok (.iload_n 3, 1) := by decide +kernel
theorem d_Rd_faultOf_28 : decode cc_Rd_faultOf 28 = .ok (.aload_n 1, 1) := by decide +kernel
theorem d_Rd_faultOf_29 : decode cc_Rd_faultOf 29 = .ok (.getfield 37, 3) := by decide +kernel
theorem d_Rd_faultOf_32 : decode cc_Rd_faultOf 32 = .ok (.if_icmp .ge 58, 3) := by decide +kernel
theorem d_Rd_faultOf_35 : decode cc_Rd_faultOf 35 = .ok (.iload_n 3, 1) := by decide +kernel
theorem d_Rd_faultOf_36 : decode cc_Rd_faultOf 36 = .ok (.aload_n 0, 1) := by decide +kernel
theorem d_Rd_faultOf_37 : decode cc_Rd_faultOf 37 = .ok (.getfield 9, 3) := by decide +kernel
theorem d_Rd_faultOf_40 : decode cc_Rd_faultOf 40 = .ok (.arraylength, 1) := by decide +kernel
theorem d_Rd_faultOf_41 : decode cc_Rd_faultOf 41 = .ok (.if_icmp .ge 49, 3) := by decide +kernel
theorem d_Rd_faultOf_44 : decode cc_Rd_faultOf 44 = .ok (.aload_n 0, 1) := by decide +kernel
theorem d_Rd_faultOf_45 : decode cc_Rd_faultOf 45 = .ok (.aload_n 1, 1) := by decide +kernel
theorem d_Rd_faultOf_46 : decode cc_Rd_faultOf 46 = .ok (.getfield 42, 3) := by decide +kernel
theorem d_Rd_faultOf_49 : decode cc_Rd_faultOf 49 = .ok (.iload_n 3, 1) := by decide +kernel
theorem d_Rd_faultOf_50 : decode cc_Rd_faultOf 50 = .ok (.caload, 1) := by decide +kernel
theorem d_Rd_faultOf_51 : decode cc_Rd_faultOf 51 = .ok (.invokevirtual 46, 3) := by decide +kernel
theorem d_Rd_faultOf_54 : decode cc_Rd_faultOf 54 = .ok (.istore 4, 2) := by decide +kernel
theorem d_Rd_faultOf_56 : decode cc_Rd_faultOf 56 = .ok (.iload 4, 2) := by decide +kernel
theorem d_Rd_faultOf_58 : decode cc_Rd_faultOf 58 = .ok (.ifCond .eq 17, 3) := by decide +kernel
theorem d_Rd_faultOf_61 : decode cc_Rd_faultOf 61 = .ok (.iload 4, 2) := by decide +kernel
theorem d_Rd_faultOf_63 : decode cc_Rd_faultOf 63 = .ok (.iconst 3, 1) := by decide +kernel
theorem d_Rd_faultOf_64 : decode cc_Rd_faultOf 64 = .ok (.if_icmp .ne 13, 3) := by decide +kernel
theorem d_Rd_faultOf_67 : decode cc_Rd_faultOf 67 = .ok (.aload_n 0, 1) := by decide +kernel
theorem d_Rd_faultOf_68 : decode cc_Rd_faultOf 68 = .ok (.aload_n 1, 1) := by decide +kernel
theorem d_Rd_faultOf_69 : decode cc_Rd_faultOf 69 = .ok (.invokevirtual 50, 3) := by decide +kernel
theorem d_Rd_faultOf_72 : decode cc_Rd_faultOf 72 = .ok (.ifCond .eq 5, 3) := by decide +kernel
theorem d_Rd_faultOf_75 : decode cc_Rd_faultOf 75 = .ok (.iload_n 3, 1) := by decide +kernel
theorem d_Rd_faultOf_76 : decode cc_Rd_faultOf 76 = .ok (.ireturn, 1) := by decide +kernel
theorem d_Rd_faultOf_77 : decode cc_Rd_faultOf 77 = .ok (.aload_n 0, 1) := by decide +kernel
theorem d_Rd_faultOf_78 : decode cc_Rd_faultOf 78 = .ok (.iload 4, 2) := by decide +kernel
theorem d_Rd_faultOf_80 : decode cc_Rd_faultOf 80 = .ok (.iload_n 3, 1) := by decide +kernel
theorem d_Rd_faultOf_81 : decode cc_Rd_faultOf 81 = .ok (.invokevirtual 54, 3) := by decide +kernel
theorem d_Rd_faultOf_84 : decode cc_Rd_faultOf 84 = .ok (.iinc 3 1, 3) := by decide +kernel
theorem d_Rd_faultOf_87 : decode cc_Rd_faultOf 87 = .ok (.goto (-60), 3) := by decide +kernel
theorem d_Rd_faultOf_90 : decode cc_Rd_faultOf 90 = .ok (.aload_n 0, 1) := by decide +kernel
theorem d_Rd_faultOf_91 : decode cc_Rd_faultOf 91 = .ok (.invokevirtual 58, 3) := by decide +kernel
theorem d_Rd_faultOf_94 : decode cc_Rd_faultOf 94 = .ok (.ifCond .eq 7, 3) := by decide +kernel
theorem d_Rd_faultOf_97 : decode cc_Rd_faultOf 97 = .ok (.iconst (-1), 1) := by decide +kernel
theorem d_Rd_faultOf_98 : decode cc_Rd_faultOf 98 = .ok (.goto 7, 3) := by decide +kernel
theorem d_Rd_faultOf_101 : decode cc_Rd_faultOf 101 = .ok (.aload_n 1, 1) := by decide +kernel
theorem d_Rd_faultOf_102 : decode cc_Rd_faultOf 102 = .ok (.getfield 37, 3) := by decide +kernel
theorem d_Rd_faultOf_105 : decode cc_Rd_faultOf 105 = .ok (.ireturn, 1) := by decide +kernel
theorem d_Rd_init_0 : decode cc_Rd_init 0 = .ok (.aload_n 0, 1) := by decide +kernel
theorem d_Rd_init_1 : decode cc_Rd_init 1 = .ok (.invokespecial 3, 3) := by decide +kernel
theorem d_Rd_init_4 : decode cc_Rd_init 4 = .ok (.aload_n 0, 1) := by decide +kernel
theorem d_Rd_init_5 : decode cc_Rd_init 5 = .ok (.bipush 120, 2) := by decide +kernel
theorem d_Rd_init_7 : decode cc_Rd_init 7 = .ok (.newarray .int, 2) := by decide +kernel
theorem d_Rd_init_9 : decode cc_Rd_init 9 = .ok (.putfield 9, 3) := by decide +kernel
theorem d_Rd_init_12 : decode cc_Rd_init 12 = .ok (.aload_n 0, 1) := by decide +kernel
theorem d_Rd_init_13 : decode cc_Rd_init 13 = .ok (.bipush 120, 2) := by decide +kernel
theorem d_Rd_init_15 : decode cc_Rd_init 15 = .ok (.newarray .int, 2) := by decide +kernel
theorem d_Rd_init_17 : decode cc_Rd_init 17 = .ok (.putfield 15, 3) := by decide +kernel
theorem d_Rd_init_20 : decode cc_Rd_init 20 = .ok (.aload_n 0, 1) := by decide +kernel
theorem d_Rd_init_21 : decode cc_Rd_init 21 = .ok (.bipush 120, 2) := by decide +kernel
theorem d_Rd_init_23 : decode cc_Rd_init 23 = .ok (.newarray .int, 2) := by decide +kernel
theorem d_Rd_init_25 : decode cc_Rd_init 25 = .ok (.putfield 18, 3) := by decide +kernel
theorem d_Rd_init_28 : decode cc_Rd_init 28 = .ok (.return_, 1) := by decide +kernel
theorem d_Sg_roleAt_0 : decode cc_Sg_roleAt 0 = .ok (.iload_n 1, 1) := by decide +kernel
theorem d_Sg_roleAt_1 : decode cc_Sg_roleAt 1 = .ok (.ifCond .lt 21, 3) := by decide +kernel
theorem d_Sg_roleAt_4 : decode cc_Sg_roleAt 4 = .ok (.iload_n 1, 1) := by decide +kernel
theorem d_Sg_roleAt_5 : decode cc_Sg_roleAt 5 = .ok (.aload_n 0, 1) := by decide +kernel
theorem d_Sg_roleAt_6 : decode cc_Sg_roleAt 6 = .ok (.getfield 34, 3) := by decide +kernel
theorem d_Sg_roleAt_9 : decode cc_Sg_roleAt 9 = .ok (.arraylength, 1) := by decide +kernel
theorem d_Sg_roleAt_10 : decode cc_Sg_roleAt 10 = .ok (.if_icmp .ge 12, 3) := by decide +kernel
theorem d_Sg_roleAt_13 : decode cc_Sg_roleAt 13 = .ok (.aload_n 0, 1) := by decide +kernel
theorem d_Sg_roleAt_14 : decode cc_Sg_roleAt 14 = .ok (.getfield 34, 3) := by decide +kernel
theorem d_Sg_roleAt_17 : decode cc_Sg_roleAt 17 = .ok (.iload_n 1, 1) := by decide +kernel
theorem d_Sg_roleAt_18 : decode cc_Sg_roleAt 18 = .ok (.iaload, 1) := by decide +kernel
theorem d_Sg_roleAt_19 : decode cc_Sg_roleAt 19 = .ok (.goto 4, 3) := by decide +kernel
theorem d_Sg_roleAt_22 : decode cc_Sg_roleAt 22 = .ok (.iconst 0, 1) := by decide +kernel
theorem d_Sg_roleAt_23 : decode cc_Sg_roleAt 23 = .ok (.ireturn, 1) := by decide +kernel
theorem d_Sg_letterAt_0 : decode cc_Sg_letterAt 0 = .ok (.iload_n 1, 1) := by decide +kernel
theorem d_Sg_letterAt_1 : decode cc_Sg_letterAt 1 = .ok (.ifCond .lt 21, 3) := by decide +kernel
theorem d_Sg_letterAt_4 : decode cc_Sg_letterAt 4 = .ok (.iload_n 1, 1) := by decide +kernel
theorem d_Sg_letterAt_5 : decode cc_Sg_letterAt 5 = .ok (.aload_n 0, 1) := by decide +kernel
theorem d_Sg_letterAt_6 : decode cc_Sg_letterAt 6 = .ok (.getfield 23, 3) := by decide +kernel
theorem d_Sg_letterAt_9 : decode cc_Sg_letterAt 9 = .ok (.arraylength, 1) := by decide +kernel
theorem d_Sg_letterAt_10 : decode cc_Sg_letterAt 10 = .ok (.if_icmp .ge 12, 3) := by decide +kernel
theorem d_Sg_letterAt_13 : decode cc_Sg_letterAt 13 = .ok (.aload_n 0, 1) := by decide +kernel
theorem d_Sg_letterAt_14 : decode cc_Sg_letterAt 14 = .ok (.getfield 23, 3) := by decide +kernel
theorem d_Sg_letterAt_17 : decode cc_Sg_letterAt 17 = .ok (.iload_n 1, 1) := by decide +kernel
theorem d_Sg_letterAt_18 : decode cc_Sg_letterAt 18 = .ok (.caload, 1) := by decide +kernel
theorem d_Sg_letterAt_19 : decode cc_Sg_letterAt 19 = .ok (.goto 4, 3) := by decide +kernel
theorem d_Sg_letterAt_22 : decode cc_Sg_letterAt 22 = .ok (.iconst 0, 1) := by decide +kernel
theorem d_Sg_letterAt_23 : decode cc_Sg_letterAt 23 = .ok (.ireturn, 1) := by decide +kernel
theorem d_Sg_hasParameter_0 : decode cc_Sg_hasParameter 0 = .ok (.iload_n 1, 1) := by decide +kernel
theorem d_Sg_hasParameter_1 : decode cc_Sg_hasParameter 1 = .ok (.ifCond .lt 16, 3) := by decide +kernel
theorem d_Sg_hasParameter_4 : decode cc_Sg_hasParameter 4 = .ok (.iload_n 1, 1) := by decide +kernel
theorem d_Sg_hasParameter_5 : decode cc_Sg_hasParameter 5 = .ok (.aload_n 0, 1) := by decide +kernel
theorem d_Sg_hasParameter_6 : decode cc_Sg_hasParameter 6 = .ok (.getfield 42, 3) := by decide +kernel
theorem d_Sg_hasParameter_9 : decode cc_Sg_hasParameter 9 = .ok (.arraylength, 1) := by decide +kernel
theorem d_Sg_hasParameter_10 : decode cc_Sg_hasParameter 10 = .ok (.if_icmp .ge 7, 3) := by decide +kernel
theorem d_Sg_hasParameter_13 : decode cc_Sg_hasParameter 13 = .ok (.iconst 1, 1) := by decide +kernel
theorem d_Sg_hasParameter_14 : decode cc_Sg_hasParameter 14 = .ok (.goto 4, 3) := by decide +kernel
theorem d_Sg_hasParameter_17 : decode cc_Sg_hasParameter 17 = .ok (.iconst 0, 1) := by decide +kernel
theorem d_Sg_hasParameter_18 : decode cc_Sg_hasParameter 18 = .ok (.ireturn, 1) := by decide +kernel
theorem d_Sg_nameStart_0 : decode cc_Sg_nameStart 0 = .ok (.aload_n 0, 1) := by decide +kernel
theorem d_Sg_nameStart_1 : decode cc_Sg_nameStart 1 = .ok (.iload_n 1, 1) := by decide +kernel
theorem d_Sg_nameStart_2 : decode cc_Sg_nameStart 2 = .ok (.invokevirtual 56, 3) := by decide +kernel
theorem d_Sg_nameStart_5 : decode cc_Sg_nameStart 5 = .ok (.ifCond .eq 12, 3) := by decide +kernel
theorem d_Sg_nameStart_8 : decode cc_Sg_nameStart 8 = .ok (.aload_n 0, 1) := by decide +kernel
theorem d_Sg_nameStart_9 : decode cc_Sg_nameStart 9 = .ok (.getfield 42, 3) := by decide +kernel
theorem d_Sg_nameStart_12 : decode cc_Sg_nameStart 12 = .ok (.iload_n 1, 1) := by decide +kernel
theorem d_Sg_nameStart_13 : decode cc_Sg_nameStart 13 = .ok (.iaload, 1) := by decide +kernel
theorem d_Sg_nameStart_14 : decode cc_Sg_nameStart 14 = .ok (.goto 8, 3) := by decide +kernel
theorem d_Sg_nameStart_17 : decode cc_Sg_nameStart 17 = .ok (.aload_n 0, 1) := by decide +kernel
theorem d_Sg_nameStart_18 : decode cc_Sg_nameStart 18 = .ok (.getfield 23, 3) := by decide +kernel
theorem d_Sg_nameStart_21 : decode cc_Sg_nameStart 21 = .ok (.arraylength, 1) := by decide +kernel
theorem d_Sg_nameStart_22 : decode cc_Sg_nameStart 22 = .ok (.ireturn, 1) := by decide +kernel
theorem d_Sg_nameLength_0 : decode cc_Sg_nameLength 0 = .ok (.aload_n 0, 1) := by decide +kernel
theorem d_Sg_nameLength_1 : decode cc_Sg_nameLength 1 = .ok (.iload_n 1, 1) := by decide +kernel
theorem d_Sg_nameLength_2 : decode cc_Sg_nameLength 2 = .ok (.invokevirtual 56, 3) := by decide +kernel
theorem d_Sg_nameLength_5 : decode cc_Sg_nameLength 5 = .ok (.ifCond .eq 19, 3) := by decide +kernel
theorem d_Sg_nameLength_8 : decode cc_Sg_nameLength 8 = .ok (.aload_n 0, 1) := by decide +kernel
theorem d_Sg_nameLength_9 : decode cc_Sg_nameLength 9 = .ok (.getfield 46, 3) := by decide +kernel
theorem d_Sg_nameLength_12 : decode cc_Sg_nameLength 12 = .ok (.iload_n 1, 1) := by decide +kernel
theorem d_Sg_nameLength_13 : decode cc_Sg_nameLength 13 = .ok (.iaload, 1) := by decide +kernel
theorem d_Sg_nameLength_14 : decode cc_Sg_nameLength 14 = .ok (.aload_n 0, 1) := by decide +kernel
theorem d_Sg_nameLength_15 : decode cc_Sg_nameLength 15 = .ok (.getfield 42, 3) := by decide +kernel
theorem d_Sg_nameLength_18 : decode cc_Sg_nameLength 18 = .ok (.iload_n 1, 1) := by decide +kernel
theorem d_Sg_nameLength_19 : decode cc_Sg_nameLength 19 = .ok (.iaload, 1) := by decide +kernel
theorem d_Sg_nameLength_20 : decode cc_Sg_nameLength 20 = .ok (.isub, 1) := by decide +kernel
theorem d_Sg_nameLength_21 : decode cc_Sg_nameLength 21 = .ok (.goto 4, 3) := by decide +kernel
theorem d_Sg_nameLength_24 : decode cc_Sg_nameLength 24 = .ok (.iconst 0, 1) := by decide +kernel
theorem d_Sg_nameLength_25 : decode cc_Sg_nameLength 25 = .ok (.ireturn, 1) := by decide +kernel
theorem d_Sg_behindName_0 : decode cc_Sg_behindName 0 = .ok (.aload_n 0, 1) := by decide +kernel
theorem d_Sg_behindName_1 : decode cc_Sg_behindName 1 = .ok (.iload_n 1, 1) := by decide +kernel
theorem d_Sg_behindName_2 : decode cc_Sg_behindName 2 = .ok (.invokevirtual 60, 3) := by decide +kernel
theorem d_Sg_behindName_5 : decode cc_Sg_behindName 5 = .ok (.istore_n 2, 1) := by decide +kernel
theorem d_Sg_behindName_6 : decode cc_Sg_behindName 6 = .ok (.iload_n 1, 1) := by decide +kernel
theorem d_Sg_behindName_7 : decode cc_Sg_behindName 7 = .ok (.istore_n 3, 1) := by decide +kernel
theorem d_Sg_behindName_8 : decode cc_Sg_behindName 8 = .ok (.iload_n 3, 1) := by decide +kernel
theorem d_Sg_behindName_9 : decode cc_Sg_behindName 9 = .ok (.aload_n 0, 1) := by decide +kernel
theorem d_Sg_behindName_10 : decode cc_Sg_behindName 10 = .ok (.getfield 34, 3) := by decide +kernel
theorem d_Sg_behindName_13 : decode cc_Sg_behindName 13 = .ok (.arraylength, 1) := by decide +kernel
theorem d_Sg_behindName_14 : decode cc_Sg_behindName 14 = .ok (.if_icmp .ge 18, 3) := by decide +kernel
theorem d_Sg_behindName_17 : decode cc_Sg_behindName 17 = .ok (.aload_n 0, 1) := by decide +kernel
theorem d_Sg_behindName_18 : decode cc_Sg_behindName 18 = .ok (.iload_n 3, 1) := by decide +kernel
theorem d_Sg_behindName_19 : decode cc_Sg_behindName 19 = .ok (.invokevirtual 60, 3) := by decide +kernel
theorem d_Sg_behindName_22 : decode cc_Sg_behindName 22 = .ok (.iload_n 2, 1) := by decide +kernel
theorem d_Sg_behindName_23 : decode cc_Sg_behindName 23 = .ok (.if_icmp .ne 9, 3) := by decide +kernel
theorem d_Sg_behindName_26 : decode cc_Sg_behindName 26 = .ok (.iinc 3 1, 3) := by decide +kernel
theorem d_Sg_behindName_29 : decode cc_Sg_behindName 29 = .ok (.goto (-21), 3) := by decide +kernel
theorem d_Sg_behindName_32 : decode cc_Sg_behindName 32 = .ok (.iload_n 3, 1) := by decide +kernel
theorem d_Sg_behindName_33 : decode cc_Sg_behindName 33 = .ok (.ireturn, 1) := by decide +kernel
theorem d_Sg_parameterEnd_0 : decode cc_Sg_parameterEnd 0 = .ok (.iload_n 1, 1) := by decide +kernel
theorem d_Sg_parameterEnd_1 : decode cc_Sg_parameterEnd 1 = .ok (.iconst 1, 1) := by decide +kernel
theorem d_Sg_parameterEnd_2 : decode cc_Sg_parameterEnd 2 = .ok (.iadd, 1) := by decide +kernel
theorem d_Sg_parameterEnd_3 : decode cc_Sg_parameterEnd 3 = .ok (.aload_n 0, 1) := by decide +kernel
theorem d_Sg_parameterEnd_4 : decode cc_Sg_parameterEnd 4 = .ok (.getfield 42, 3) := by decide +kernel
theorem d_Sg_parameterEnd_7 : decode cc_Sg_parameterEnd 7 = .ok (.arraylength, 1) := by decide +kernel
theorem d_Sg_parameterEnd_8 : decode cc_Sg_parameterEnd 8 = .ok (.if_icmp .ge 13, 3) := by decide +kernel
theorem d_Sg_parameterEnd_11 : decode cc_Sg_parameterEnd 11 = .ok (.aload_n 0, 1) := by decide +kernel
theorem d_Sg_parameterEnd_12 : decode cc_Sg_parameterEnd 12 = .ok (.iload_n 1, 1) := by decide +kernel
theorem d_Sg_parameterEnd_13 : decode cc_Sg_parameterEnd 13 = .ok (.iconst 1, 1) := by decide +kernel
theorem d_Sg_parameterEnd_14 : decode cc_Sg_parameterEnd 14 = .ok (.iadd, 1) := by decide +kernel
theorem d_Sg_parameterEnd_15 : decode cc_Sg_parameterEnd 15 = .ok (.invokevirtual 64, 3) := by decide +kernel
theorem d_Sg_parameterEnd_18 : decode cc_Sg_parameterEnd 18 = .ok (.goto 9, 3) := by decide +kernel
theorem d_Sg_parameterEnd_21 : decode cc_Sg_parameterEnd 21 = .ok (.aload_n 0, 1) := by decide +kernel
theorem d_Sg_parameterEnd_22 : decode cc_Sg_parameterEnd 22 = .ok (.getfield 53, 3) := by decide +kernel
theorem d_Sg_parameterEnd_25 : decode cc_Sg_parameterEnd 25 = .ok (.iconst 1, 1) := by decide +kernel
theorem d_Sg_parameterEnd_26 : decode cc_Sg_parameterEnd 26 = .ok (.isub, 1) := by decide +kernel
theorem d_Sg_parameterEnd_27 : decode cc_Sg_parameterEnd 27 = .ok (.ireturn, 1) := by decide +kernel
theorem d_Sg_boundCount_0 : decode cc_Sg_boundCount 0 = .ok (.iconst 0, 1) := by decide +kernel
theorem d_Sg_boundCount_1 : decode cc_Sg_boundCount 1 = .ok (.istore_n 2, 1) := by decide +kernel
theorem d_Sg_boundCount_2 : decode cc_Sg_boundCount 2 = .ok (.aload_n 0, 1) := by decide +kernel
theorem d_Sg_boundCount_3 : decode cc_Sg_boundCount 3 = .ok (.iload_n 1, 1) := by decide +kernel
theorem d_Sg_boundCount_4 : decode cc_Sg_boundCount 4 = .ok (.invokevirtual 64, 3) := by decide +kernel
theorem d_Sg_boundCount_7 : decode cc_Sg_boundCount 7 = .ok (.istore_n 3, 1) := by decide +kernel
theorem d_Sg_boundCount_8 : decode cc_Sg_boundCount 8 = .ok (.iload_n 3, 1) := by decide +kernel
theorem d_Sg_boundCount_9 : decode cc_Sg_boundCount 9 = .ok (.aload_n 0, 1) := by decide +kernel
theorem d_Sg_boundCount_10 : decode cc_Sg_boundCount 10 = .ok (.iload_n 1, 1) := by decide +kernel
theorem d_Sg_boundCount_11 : decode cc_Sg_boundCount 11 = .ok (.invokevirtual 67, 3) := by decide +kernel
theorem d_Sg_boundCount_14 : decode cc_Sg_boundCount 14 = .ok (.if_icmp .ge 56, 3) := by decide +kernel
theorem d_Sg_boundCount_17 : decode cc_Sg_boundCount 17 = .ok (.aload_n 0, 1) := by decide +kernel
theorem d_Sg_boundCount_18 : decode cc_Sg_boundCount 18 = .ok (.iload_n 3, 1) := by decide +kernel
theorem d_Sg_boundCount_19 : decode cc_Sg_boundCount 19 = .ok (.invokevirtual 60, 3) := by decide +kernel
theorem d_Sg_boundCount_22 : decode cc_Sg_boundCount 22 = .ok (.istore 4, 2) := by decide +kernel
theorem d_Sg_boundCount_24 : decode cc_Sg_boundCount 24 = .ok (.iload 4, 2) := by decide +kernel
theorem d_Sg_boundCount_26 : decode cc_Sg_boundCount 26 = .ok (.iconst 3, 1) := by decide +kernel
theorem d_Sg_boundCount_27 : decode cc_Sg_boundCount 27 = .ok (.if_icmp .ne 20, 3) := by decide +kernel
theorem d_Sg_boundCount_30 : decode cc_Sg_boundCount 30 = .ok (.aload_n 0, 1) := by decide +kernel
theorem d_Sg_boundCount_31 : decode cc_Sg_boundCount 31 = .ok (.iload_n 3, 1) := by decide +kernel
theorem d_Sg_boundCount_32 : decode cc_Sg_boundCount 32 = .ok (.iconst 1, 1) := by decide +kernel
theorem d_Sg_boundCount_33 : decode cc_Sg_boundCount 33 = .ok (.iadd, 1) := by decide +kernel
theorem d_Sg_boundCount_34 : decode cc_Sg_boundCount 34 = .ok (.invokevirtual 60, 3) := by decide +kernel
theorem d_Sg_boundCount_37 : decode cc_Sg_boundCount 37 = .ok (.invokestatic 70, 3) := by decide +kernel
theorem d_Sg_boundCount_40 : decode cc_Sg_boundCount 40 = .ok (.ifCond .eq 7, 3) := by decide +kernel
theorem d_Sg_boundCount_43 : decode cc_Sg_boundCount 43 = .ok (.iconst 1, 1) := by decide +kernel
theorem d_Sg_boundCount_44 : decode cc_Sg_boundCount 44 = .ok (.goto 4, 3) := by decide +kernel
theorem d_Sg_boundCount_47 : decode cc_Sg_boundCount 47 = .ok (.iconst 0, 1) := by decide +kernel
theorem d_Sg_boundCount_48 : decode cc_Sg_boundCount 48 = .ok (.istore 5, 2) := by decide +kernel
theorem d_Sg_boundCount_50 : decode cc_Sg_boundCount 50 = .ok (.iload 4, 2) := by decide +kernel
theorem d_Sg_boundCount_52 : decode cc_Sg_boundCount 52 = .ok (.iconst 4, 1) := by decide +kernel
theorem d_Sg_boundCount_53 : decode cc_Sg_boundCount 53 = .ok (.if_icmp .eq 8, 3) := by decide +kernel
theorem d_Sg_boundCount_56 : decode cc_Sg_boundCount 56 = .ok (.iload 5, 2) := by decide +kernel
theorem d_Sg_boundCount_58 : decode cc_Sg_boundCount 58 = .ok (.ifCond .eq 6, 3) := by decide +kernel
theorem d_Sg_boundCount_61 : decode cc_Sg_boundCount 61 = .ok (.iinc 2 1, 3) := by decide +kernel
theorem d_Sg_boundCount_64 : decode cc_Sg_boundCount 64 = .ok (.iinc 3 1, 3) := by decide +kernel
theorem d_Sg_boundCount_67 : decode cc_Sg_boundCount 67 = .ok (.goto (-59), 3) := by decide +kernel
theorem d_Sg_boundCount_70 : decode cc_Sg_boundCount 70 = .ok (.iload_n 2, 1) := by decide +kernel
theorem d_Sg_boundCount_71 : decode cc_Sg_boundCount 71 = .ok (.ireturn, 1) := by decide +kernel
theorem d_Sg_firstBound_0 : decode cc_Sg_firstBound 0 = .ok (.aload_n 0, 1) := by decide +kernel
theorem d_Sg_firstBound_1 : decode cc_Sg_firstBound 1 = .ok (.iload_n 1, 1) := by decide +kernel
theorem d_Sg_firstBound_2 : decode cc_Sg_firstBound 2 = .ok (.invokevirtual 64, 3) := by decide +kernel
theorem d_Sg_firstBound_5 : decode cc_Sg_firstBound 5 = .ok (.aload_n 0, 1) := by decide +kernel
theorem d_Sg_firstBound_6 : decode cc_Sg_firstBound 6 = .ok (.iload_n 1, 1) := by decide +kernel
theorem d_Sg_firstBound_7 : decode cc_Sg_firstBound 7 = .ok (.invokevirtual 73, 3) := by decide +kernel
theorem d_Sg_firstBound_10 : decode cc_Sg_firstBound 10 = .ok (.iadd, 1) := by decide +kernel
theorem d_Sg_firstBound_11 : decode cc_Sg_firstBound 11 = .ok (.iconst 1, 1) := by decide +kernel
theorem d_Sg_firstBound_12 : decode cc_Sg_firstBound 12 = .ok (.iadd, 1) := by decide +kernel
theorem d_Sg_firstBound_13 : decode cc_Sg_firstBound 13 = .ok (.istore_n 2, 1) := by decide +kernel
theorem d_Sg_firstBound_14 : decode cc_Sg_firstBound 14 = .ok (.aload_n 0, 1) := by decide +kernel
theorem d_Sg_firstBound_15 : decode cc_Sg_firstBound 15 = .ok (.iload_n 2, 1) := by decide +kernel
theorem d_Sg_firstBound_16 : decode cc_Sg_firstBound 16 = .ok (.invokevirtual 60, 3) := by decide +kernel
theorem d_Sg_firstBound_19 : decode cc_Sg_firstBound 19 = .ok (.iconst 4, 1) := by decide +kernel
theorem d_Sg_firstBound_20 : decode cc_Sg_firstBound 20 = .ok (.if_icmp .ne 7, 3) := by decide +kernel
theorem d_Sg_firstBound_23 : decode cc_Sg_firstBound 23 = .ok (.iload_n 2, 1) := by decide +kernel
theorem d_Sg_firstBound_24 : decode cc_Sg_firstBound 24 = .ok (.iconst 1, 1) := by decide +kernel
theorem d_Sg_firstBound_25 : decode cc_Sg_firstBound 25 = .ok (.iadd, 1) := by decide +kernel
theorem d_Sg_firstBound_26 : decode cc_Sg_firstBound 26 = .ok (.ireturn, 1) := by decide +kernel
theorem d_Sg_firstBound_27 : decode cc_Sg_firstBound 27 = .ok (.aload_n 0, 1) := by decide +kernel
theorem d_Sg_firstBound_28 : decode cc_Sg_firstBound 28 = .ok (.iload_n 2, 1) := by decide +kernel
theorem d_Sg_firstBound_29 : decode cc_Sg_firstBound 29 = .ok (.invokevirtual 60, 3) := by decide +kernel
theorem d_Sg_firstBound_32 : decode cc_Sg_firstBound 32 = .ok (.invokestatic 70, 3) := by decide +kernel
theorem d_Sg_firstBound_35 : decode cc_Sg_firstBound 35 = .ok (.ifCond .eq 7, 3) := by decide +kernel
theorem d_Sg_firstBound_38 : decode cc_Sg_firstBound 38 = .ok (.iload_n 2, 1) := by decide +kernel
theorem d_Sg_firstBound_39 : decode cc_Sg_firstBound 39 = .ok (.goto 4, 3) := by decide +kernel
theorem d_Sg_firstBound_42 : decode cc_Sg_firstBound 42 = .ok (.iconst (-1), 1) := by decide +kernel
theorem d_Sg_firstBound_43 : decode cc_Sg_firstBound 43 = .ok (.ireturn, 1) := by decide +kernel
theorem d_Sg_sameLetters_0 : decode cc_Sg_sameLetters 0 = .ok (.iconst 0, 1) := by decide +kernel
theorem d_Sg_sameLetters_1 : decode cc_Sg_sameLetters 1 = .ok (.istore 5, 2) := by decide +kernel
theorem d_Sg_sameLetters_3 : decode cc_Sg_sameLetters 3 = .ok (.iload 5, 2) := by decide +kernel
theorem d_Sg_sameLetters_5 : decode cc_Sg_sameLetters 5 = .ok (.iload 4, 2) := by decide +kernel
theorem d_Sg_sameLetters_7 : decode cc_Sg_sameLetters 7 = .ok (.if_icmp .ge 30, 3) := by decide +kernel
theorem d_Sg_sameLetters_10 : decode cc_Sg_sameLetters 10 = .ok (.aload_n 0, 1) := by decide +kernel
theorem d_Sg_sameLetters_11 : decode cc_Sg_sameLetters 11 = .ok (.iload_n 1, 1) := by decide +kernel
theorem d_Sg_sameLetters_12 : decode cc_Sg_sameLetters 12 = .ok (.iload 5, 2) := by decide +kernel
theorem d_Sg_sameLetters_14 : decode cc_Sg_sameLetters 14 = .ok (.iadd, 1) := by decide +kernel
theorem d_Sg_sameLetters_15 : decode cc_Sg_sameLetters 15 = .ok (.invokevirtual 83, 3) := by decide +kernel
theorem d_Sg_sameLetters_18 : decode cc_Sg_sameLetters 18 = .ok (.aload_n 2, 1) := by decide +kernel
theorem d_Sg_sameLetters_19 : decode cc_Sg_sameLetters 19 = .ok (.iload_n 3, 1) := by decide +kernel
theorem d_Sg_sameLetters_20 : decode cc_Sg_sameLetters 20 = .ok (.iload 5, 2) := by decide +kernel
theorem d_Sg_sameLetters_22 : decode cc_Sg_sameLetters 22 = .ok (.iadd, 1) := by decide +kernel
theorem d_Sg_sameLetters_23 : decode cc_Sg_sameLetters 23 = .ok (.invokevirtual 83, 3) := by decide +kernel
theorem d_Sg_sameLetters_26 : decode cc_Sg_sameLetters 26 = .ok (.if_icmp .eq 5, 3) := by decide +kernel
theorem d_Sg_sameLetters_29 : decode cc_Sg_sameLetters 29 = .ok (.iconst 0, 1) := by decide +kernel
theorem d_Sg_sameLetters_30 : decode cc_Sg_sameLetters 30 = .ok (.ireturn, 1) := by decide +kernel
theorem d_Sg_sameLetters_31 : decode cc_Sg_sameLetters 31 = .ok (.iinc 5 1, 3) := by decide +kernel
theorem d_Sg_sameLetters_34 : decode cc_Sg_sameLetters 34 = .ok (.goto (-31), 3) := by decide +kernel
theorem d_Sg_sameLetters_37 : decode cc_Sg_sameLetters 37 = .ok (.iconst 1, 1) := by decide +kernel
theorem d_Sg_sameLetters_38 : decode cc_Sg_sameLetters 38 = .ok (.ireturn, 1) := by decide +kernel
theorem d_Sg_parameterNamed_0 : decode cc_Sg_parameterNamed 0 = .ok (.aload_n 1, 1) := by decide +kernel
theorem d_Sg_parameterNamed_1 : decode cc_Sg_parameterNamed 1 = .ok (.iload_n 2, 1) := by decide +kernel
theorem d_Sg_parameterNamed_2 : decode cc_Sg_parameterNamed 2 = .ok (.invokevirtual 76, 3) := by decide +kernel
theorem d_Sg_parameterNamed_5 : decode cc_Sg_parameterNamed 5 = .ok (.iload_n 2, 1) := by decide +kernel
theorem d_Sg_parameterNamed_6 : decode cc_Sg_parameterNamed 6 = .ok (.isub, 1) := by decide +kernel
theorem d_Sg_parameterNamed_7 : decode cc_Sg_parameterNamed 7 = .ok (.istore_n 3, 1) := by decide +kernel
theorem d_Sg_parameterNamed_8 : decode cc_Sg_parameterNamed 8 = .ok (.iconst 0, 1) := by decide +kernel
theorem d_Sg_parameterNamed_9 : decode cc_Sg_parameterNamed 9 = .ok (.istore 4, 2) := by decide +kernel
theorem d_Sg_parameterNamed_11 : decode cc_Sg_parameterNamed 11 = .ok (.iload 4, 2) := by decide +kernel
theorem d_Sg_parameterNamed_13 : decode cc_Sg_parameterNamed 13 = .ok (.aload_n 0, 1) := by decide +kernel
theorem d_Sg_parameterNamed_14 : decode cc_Sg_parameterNamed 14 = .ok (.getfield 42, 3) := by decide +kernel
theorem d_Sg_parameterNamed_17 : decode cc_Sg_parameterNamed 17 = .ok (.arraylength, 1) := by decide +kernel
theorem d_Sg_parameterNamed_18 : decode cc_Sg_parameterNamed 18 = .ok (.if_icmp .ge 39, 3) := by decide +kernel
theorem d_Sg_parameterNamed_21 : decode cc_Sg_parameterNamed 21 = .ok (.aload_n 0, 1) := by decide +kernel
theorem d_Sg_parameterNamed_22 : decode cc_Sg_parameterNamed 22 = .ok (.iload 4, 2) := by decide +kernel
theorem d_Sg_parameterNamed_24 : decode cc_Sg_parameterNamed 24 = .ok (.invokevirtual 73, 3) := by decide +kernel
theorem d_Sg_parameterNamed_27 : decode cc_Sg_parameterNamed 27 = .ok (.iload_n 3, 1) := by decide +kernel
theorem d_Sg_parameterNamed_28 : decode cc_Sg_parameterNamed 28 = .ok (.if_icmp .ne 23, 3) := by decide +kernel
theorem d_Sg_parameterNamed_31 : decode cc_Sg_parameterNamed 31 = .ok (.aload_n 0, 1) := by decide +kernel
theorem d_Sg_parameterNamed_32 : decode cc_Sg_parameterNamed 32 = .ok (.aload_n 0, 1) := by decide +kernel
theorem d_Sg_parameterNamed_33 : decode cc_Sg_parameterNamed 33 = .ok (.getfield 42, 3) := by decide +kernel
theorem d_Sg_parameterNamed_36 : decode cc_Sg_parameterNamed 36 = .ok (.iload 4, 2) := by decide +kernel
theorem d_Sg_parameterNamed_38 : decode cc_Sg_parameterNamed 38 = .ok (.iaload, 1) := by decide +kernel
theorem d_Sg_parameterNamed_39 : decode cc_Sg_parameterNamed 39 = .ok (.aload_n 1, 1) := by decide +kernel
theorem d_Sg_parameterNamed_40 : decode cc_Sg_parameterNamed 40 = .ok (.iload_n 2, 1) := by decide +kernel
theorem d_Sg_parameterNamed_41 : decode cc_Sg_parameterNamed 41 = .ok (.iload_n 3, 1) := by decide +kernel
theorem d_Sg_parameterNamed_42 : decode cc_Sg_parameterNamed 42 = .ok (.invokevirtual 79, 3) := by decide +kernel
theorem d_Sg_parameterNamed_45 : decode cc_Sg_parameterNamed 45 = .ok (.ifCond .eq 6, 3) := by decide +kernel
theorem d_Sg_parameterNamed_48 : decode cc_Sg_parameterNamed 48 = .ok (.iload 4, 2) := by decide +kernel
theorem d_Sg_parameterNamed_50 : decode cc_Sg_parameterNamed 50 = .ok (.ireturn, 1) := by decide +kernel
theorem d_Sg_parameterNamed_51 : decode cc_Sg_parameterNamed 51 = .ok (.iinc 4 1, 3) := by decide +kernel
theorem d_Sg_parameterNamed_54 : decode cc_Sg_parameterNamed 54 = .ok (.goto (-43), 3) := by decide +kernel
theorem d_Sg_parameterNamed_57 : decode cc_Sg_parameterNamed 57 = .ok (.iconst (-1), 1) := by decide +kernel
theorem d_Sg_parameterNamed_58 : decode cc_Sg_parameterNamed 58 = .ok (.ireturn, 1) := by decide +kernel
theorem d_Sg_repeatsName_0 : decode cc_Sg_repeatsName 0 = .ok (.aload_n 0, 1) := by decide +kernel
theorem d_Sg_repeatsName_1 : decode cc_Sg_repeatsName 1 = .ok (.aload_n 0, 1) := by decide +kernel
theorem d_Sg_repeatsName_2 : decode cc_Sg_repeatsName 2 = .ok (.iload_n 1, 1) := by decide +kernel
theorem d_Sg_repeatsName_3 : decode cc_Sg_repeatsName 3 = .ok (.invokevirtual 64, 3) := by decide +kernel
theorem d_Sg_repeatsName_6 : decode cc_Sg_repeatsName 6 = .ok (.aload_n 0, 1) := by decide +kernel
theorem d_Sg_repeatsName_7 : decode cc_Sg_repeatsName 7 = .ok (.iload_n 2, 1) := by decide +kernel
theorem d_Sg_repeatsName_8 : decode cc_Sg_repeatsName 8 = .ok (.aload_n 0, 1) := by decide +kernel
theorem d_Sg_repeatsName_9 : decode cc_Sg_repeatsName 9 = .ok (.iload_n 1, 1) := by decide +kernel
theorem d_Sg_repeatsName_10 : decode cc_Sg_repeatsName 10 = .ok (.invokevirtual 73, 3) := by decide +kernel
theorem d_Sg_repeatsName_13 : decode cc_Sg_repeatsName 13 = .ok (.invokevirtual 79, 3) := by decide +kernel
theorem d_Sg_repeatsName_16 : decode cc_Sg_repeatsName 16 = .ok (.ireturn, 1) := by decide +kernel
theorem d_Sg_declarerAt_0 : decode cc_Sg_declarerAt 0 = .ok (.aload_n 0, 1) := by decide +kernel
theorem d_Sg_declarerAt_1 : decode cc_Sg_declarerAt 1 = .ok (.iload_n 1, 1) := by decide +kernel
theorem d_Sg_declarerAt_2 : decode cc_Sg_declarerAt 2 = .ok (.invokevirtual 60, 3) := by decide +kernel
theorem d_Sg_declarerAt_5 : decode cc_Sg_declarerAt 5 = .ok (.bipush 6, 2) := by decide +kernel
theorem d_Sg_declarerAt_7 : decode cc_Sg_declarerAt 7 = .ok (.if_icmp .ne 14, 3) := by decide +kernel
theorem d_Sg_declarerAt_10 : decode cc_Sg_declarerAt 10 = .ok (.aload_n 0, 1) := by decide +kernel
theorem d_Sg_declarerAt_11 : decode cc_Sg_declarerAt 11 = .ok (.aload_n 0, 1) := by decide +kernel
theorem d_Sg_declarerAt_12 : decode cc_Sg_declarerAt 12 = .ok (.iload_n 1, 1) := by decide +kernel
theorem d_Sg_declarerAt_13 : decode cc_Sg_declarerAt 13 = .ok (.iconst 1, 1) := by decide +kernel
theorem d_Sg_declarerAt_14 : decode cc_Sg_declarerAt 14 = .ok (.iadd, 1) := by decide +kernel
theorem d_Sg_declarerAt_15 : decode cc_Sg_declarerAt 15 = .ok (.invokevirtual 87, 3) := by decide +kernel
theorem d_Sg_declarerAt_18 : decode cc_Sg_declarerAt 18 = .ok (.goto 4, 3) := by decide +kernel
theorem d_Sg_declarerAt_21 : decode cc_Sg_declarerAt 21 = .ok (.iconst (-1), 1) := by decide +kernel
theorem d_Sg_declarerAt_22 : decode cc_Sg_declarerAt 22 = .ok (.ireturn, 1) := by decide +kernel
theorem d_Sg_ownNameAt_0 : decode cc_Sg_ownNameAt 0 = .ok (.aload_n 0, 1) := by decide +kernel
theorem d_Sg_ownNameAt_1 : decode cc_Sg_ownNameAt 1 = .ok (.iload_n 1, 1) := by decide +kernel
theorem d_Sg_ownNameAt_2 : decode cc_Sg_ownNameAt 2 = .ok (.invokevirtual 60, 3) := by decide +kernel
theorem d_Sg_ownNameAt_5 : decode cc_Sg_ownNameAt 5 = .ok (.istore_n 2, 1) := by decide +kernel
theorem d_Sg_ownNameAt_6 : decode cc_Sg_ownNameAt 6 = .ok (.iload_n 2, 1) := by decide +kernel
theorem d_Sg_ownNameAt_7 : decode cc_Sg_ownNameAt 7 = .ok (.iconst 2, 1) := by decide +kernel
theorem d_Sg_ownNameAt_8 : decode cc_Sg_ownNameAt 8 = .ok (.if_icmp .eq 9, 3) := by decide +kernel
theorem d_Sg_ownNameAt_11 : decode cc_Sg_ownNameAt 11 = .ok (.iload_n 2, 1) := by decide +kernel
theorem d_Sg_ownNameAt_12 : decode cc_Sg_ownNameAt 12 = .ok (.bipush 7, 2) := by decide +kernel
theorem d_Sg_ownNameAt_14 : decode cc_Sg_ownNameAt 14 = .ok (.if_icmp .ne 7, 3) := by decide +kernel
theorem d_Sg_ownNameAt_17 : decode cc_Sg_ownNameAt 17 = .ok (.iconst 1, 1) := by decide +kernel
theorem d_Sg_ownNameAt_18 : decode cc_Sg_ownNameAt 18 = .ok (.goto 4, 3) := by decide +kernel
theorem d_Sg_ownNameAt_21 : decode cc_Sg_ownNameAt 21 = .ok (.iconst 0, 1) := by decide +kernel
theorem d_Sg_ownNameAt_22 : decode cc_Sg_ownNameAt 22 = .ok (.istore_n 3, 1) := by decide +kernel
theorem d_Sg_ownNameAt_23 : decode cc_Sg_ownNameAt 23 = .ok (.iload_n 3, 1) := by decide +kernel
theorem d_Sg_ownNameAt_24 : decode cc_Sg_ownNameAt 24 = .ok (.ifCond .eq 23, 3) := by decide +kernel
theorem d_Sg_ownNameAt_27 : decode cc_Sg_ownNameAt 27 = .ok (.aload_n 0, 1) := by decide +kernel
theorem d_Sg_ownNameAt_28 : decode cc_Sg_ownNameAt 28 = .ok (.iload_n 1, 1) := by decide +kernel
theorem d_Sg_ownNameAt_29 : decode cc_Sg_ownNameAt 29 = .ok (.iconst 1, 1) := by decide +kernel
theorem d_Sg_ownNameAt_30 : decode cc_Sg_ownNameAt 30 = .ok (.isub, 1) := by decide +kernel
theorem d_Sg_ownNameAt_31 : decode cc_Sg_ownNameAt 31 = .ok (.invokevirtual 60, 3) := by decide +kernel
theorem d_Sg_ownNameAt_34 : decode cc_Sg_ownNameAt 34 = .ok (.iload_n 2, 1) := by decide +kernel
theorem d_Sg_ownNameAt_35 : decode cc_Sg_ownNameAt 35 = .ok (.if_icmp .eq 12, 3) := by decide +kernel
theorem d_Sg_ownNameAt_38 : decode cc_Sg_ownNameAt 38 = .ok (.aload_n 0, 1) := by decide +kernel
theorem d_Sg_ownNameAt_39 : decode cc_Sg_ownNameAt 39 = .ok (.aload_n 0, 1) := by decide +kernel
theorem d_Sg_ownNameAt_40 : decode cc_Sg_ownNameAt 40 = .ok (.iload_n 1, 1) := by decide +kernel
theorem d_Sg_ownNameAt_41 : decode cc_Sg_ownNameAt 41 = .ok (.invokevirtual 87, 3) := by decide +kernel
theorem d_Sg_ownNameAt_44 : decode cc_Sg_ownNameAt 44 = .ok (.goto 4, 3) := by decide +kernel
theorem d_Sg_ownNameAt_47 : decode cc_Sg_ownNameAt 47 = .ok (.iconst (-1), 1) := by decide +kernel
theorem d_Sg_ownNameAt_48 : decode cc_Sg_ownNameAt 48 = .ok (.ireturn, 1) := by decide +kernel
theorem d_Sg_behindType_0 : decode cc_Sg_behindType 0 = .ok (.iconst 0, 1) := by decide +kernel
theorem d_Sg_behindType_1 : decode cc_Sg_behindType 1 = .ok (.istore_n 2, 1) := by decide +kernel
theorem d_Sg_behindType_2 : decode cc_Sg_behindType 2 = .ok (.iload_n 1, 1) := by decide +kernel
theorem d_Sg_behindType_3 : decode cc_Sg_behindType 3 = .ok (.istore_n 3, 1) := by decide +kernel
theorem d_Sg_behindType_4 : decode cc_Sg_behindType 4 = .ok (.iload_n 3, 1) := by decide +kernel
theorem d_Sg_behindType_5 : decode cc_Sg_behindType 5 = .ok (.aload_n 0, 1) := by decide +kernel
theorem d_Sg_behindType_6 : decode cc_Sg_behindType 6 = .ok (.getfield 34, 3) := by decide +kernel
theorem d_Sg_behindType_9 : decode cc_Sg_behindType 9 = .ok (.arraylength, 1) := by decide +kernel
theorem d_Sg_behindType_10 : decode cc_Sg_behindType 10 = .ok (.if_icmp .ge 58, 3) := by decide +kernel
theorem d_Sg_behindType_13 : decode cc_Sg_behindType 13 = .ok (.aload_n 0, 1) := by decide +kernel
theorem d_Sg_behindType_14 : decode cc_Sg_behindType 14 = .ok (.iload_n 3, 1) := by decide +kernel
theorem d_Sg_behindType_15 : decode cc_Sg_behindType 15 = .ok (.invokevirtual 60, 3) := by decide +kernel
theorem d_Sg_behindType_18 : decode cc_Sg_behindType 18 = .ok (.istore 4, 2) := by decide +kernel
theorem d_Sg_behindType_20 : decode cc_Sg_behindType 20 = .ok (.iload 4, 2) := by decide +kernel
theorem d_Sg_behindType_22 : decode cc_Sg_behindType 22 = .ok (.bipush 15, 2) := by decide +kernel
theorem d_Sg_behindType_24 : decode cc_Sg_behindType 24 = .ok (.if_icmp .ne 9, 3) := by decide +kernel
theorem d_Sg_behindType_27 : decode cc_Sg_behindType 27 = .ok (.iinc 2 1, 3) := by decide +kernel
theorem d_Sg_behindType_30 : decode cc_Sg_behindType 30 = .ok (.goto 32, 3) := by decide +kernel
theorem d_Sg_behindType_33 : decode cc_Sg_behindType 33 = .ok (.iload 4, 2) := by decide +kernel
theorem d_Sg_behindType_35 : decode cc_Sg_behindType 35 = .ok (.bipush 16, 2) := by decide +kernel
theorem d_Sg_behindType_37 : decode cc_Sg_behindType 37 = .ok (.if_icmp .ne 9, 3) := by decide +kernel
theorem d_Sg_behindType_40 : decode cc_Sg_behindType 40 = .ok (.iinc 2 (-1), 3) := by decide +kernel
theorem d_Sg_behindType_43 : decode cc_Sg_behindType 43 = .ok (.goto 19, 3) := by decide +kernel
theorem d_Sg_behindType_46 : decode cc_Sg_behindType 46 = .ok (.iload_n 2, 1) := by decide +kernel
theorem d_Sg_behindType_47 : decode cc_Sg_behindType 47 = .ok (.ifCond .ne 15, 3) := by decide +kernel
theorem d_Sg_behindType_50 : decode cc_Sg_behindType 50 = .ok (.iload 4, 2) := by decide +kernel
theorem d_Sg_behindType_52 : decode cc_Sg_behindType 52 = .ok (.invokestatic 91, 3) := by decide +kernel
theorem d_Sg_behindType_55 : decode cc_Sg_behindType 55 = .ok (.ifCond .eq 7, 3) := by decide +kernel
theorem d_Sg_behindType_58 : decode cc_Sg_behindType 58 = .ok (.iload_n 3, 1) := by decide +kernel
theorem d_Sg_behindType_59 : decode cc_Sg_behindType 59 = .ok (.iconst 1, 1) := by decide +kernel
theorem d_Sg_behindType_60 : decode cc_Sg_behindType 60 = .ok (.iadd, 1) := by decide +kernel
theorem d_Sg_behindType_61 : decode cc_Sg_behindType 61 = .ok (.ireturn, 1) := by decide +kernel
theorem d_Sg_behindType_62 : decode cc_Sg_behindType 62 = .ok (.iinc 3 1, 3) := by decide +kernel
theorem d_Sg_behindType_65 : decode cc_Sg_behindType 65 = .ok (.goto (-61), 3) := by decide +kernel
theorem d_Sg_behindType_68 : decode cc_Sg_behindType 68 = .ok (.aload_n 0, 1) := by decide +kernel
theorem d_Sg_behindType_69 : decode cc_Sg_behindType 69 = .ok (.getfield 34, 3) := by decide +kernel
theorem d_Sg_behindType_72 : decode cc_Sg_behindType 72 = .ok (.arraylength, 1) := by decide +kernel
theorem d_Sg_behindType_73 : decode cc_Sg_behindType 73 = .ok (.ireturn, 1) := by decide +kernel
theorem d_Sg_classCount_0 : decode cc_Sg_classCount 0 = .ok (.iconst 0, 1) := by decide +kernel
theorem d_Sg_classCount_1 : decode cc_Sg_classCount 1 = .ok (.istore_n 1, 1) := by decide +kernel
theorem d_Sg_classCount_2 : decode cc_Sg_classCount 2 = .ok (.iconst 0, 1) := by decide +kernel
theorem d_Sg_classCount_3 : decode cc_Sg_classCount 3 = .ok (.istore_n 2, 1) := by decide +kernel
theorem d_Sg_classCount_4 : decode cc_Sg_classCount 4 = .ok (.iload_n 2, 1) := by decide +kernel
theorem d_Sg_classCount_5 : decode cc_Sg_classCount 5 = .ok (.aload_n 0, 1) := by decide +kernel
theorem d_Sg_classCount_6 : decode cc_Sg_classCount 6 = .ok (.getfield 34, 3) := by decide +kernel
theorem d_Sg_classCount_9 : decode cc_Sg_classCount 9 = .ok (.arraylength, 1) := by decide +kernel
theorem d_Sg_classCount_10 : decode cc_Sg_classCount 10 = .ok (.if_icmp .ge 22, 3) := by decide +kernel
theorem d_Sg_classCount_13 : decode cc_Sg_classCount 13 = .ok (.aload_n 0, 1) := by decide +kernel
theorem d_Sg_classCount_14 : decode cc_Sg_classCount 14 = .ok (.iload_n 2, 1) := by decide +kernel
theorem d_Sg_classCount_15 : decode cc_Sg_classCount 15 = .ok (.invokevirtual 60, 3) := by decide +kernel
theorem d_Sg_classCount_18 : decode cc_Sg_classCount 18 = .ok (.bipush 9, 2) := by decide +kernel
theorem d_Sg_classCount_20 : decode cc_Sg_classCount 20 = .ok (.if_icmp .ne 6, 3) := by decide +kernel
theorem d_Sg_classCount_23 : decode cc_Sg_classCount 23 = .ok (.iinc 1 1, 3) := by decide +kernel
theorem d_Sg_classCount_26 : decode cc_Sg_classCount 26 = .ok (.iinc 2 1, 3) := by decide +kernel
theorem d_Sg_classCount_29 : decode cc_Sg_classCount 29 = .ok (.goto (-25), 3) := by decide +kernel
theorem d_Sg_classCount_32 : decode cc_Sg_classCount 32 = .ok (.iload_n 1, 1) := by decide +kernel
theorem d_Sg_classCount_33 : decode cc_Sg_classCount 33 = .ok (.ireturn, 1) := by decide +kernel
theorem d_Sg_argumentDepth_0 : decode cc_Sg_argumentDepth 0 = .ok (.iconst 0, 1) := by decide +kernel
theorem d_Sg_argumentDepth_1 : decode cc_Sg_argumentDepth 1 = .ok (.istore_n 1, 1) := by decide +kernel
theorem d_Sg_argumentDepth_2 : decode cc_Sg_argumentDepth 2 = .ok (.iconst 0, 1) := by decide +kernel
theorem d_Sg_argumentDepth_3 : decode cc_Sg_argumentDepth 3 = .ok (.istore_n 2, 1) := by decide +kernel
theorem d_Sg_argumentDepth_4 : decode cc_Sg_argumentDepth 4 = .ok (.iconst 0, 1) := by decide +kernel
theorem d_Sg_argumentDepth_5 : decode cc_Sg_argumentDepth 5 = .ok (.istore_n 3, 1) := by decide +kernel
theorem d_Sg_argumentDepth_6 : decode cc_Sg_argumentDepth 6 = .ok (.iload_n 3, 1) := by decide +kernel
theorem d_Sg_argumentDepth_7 : decode cc_Sg_argumentDepth 7 = .ok (.aload_n 0, 1) := by decide +kernel
theorem d_Sg_argumentDepth_8 : decode cc_Sg_argumentDepth 8 = .ok (.getfield 34, 3) := by decide +kernel
theorem d_Sg_argumentDepth_11 : decode cc_Sg_argumentDepth 11 = .ok (.arraylength, 1) := by decide +kernel
theorem d_Sg_argumentDepth_12 : decode cc_Sg_argumentDepth 12 = .ok (.if_icmp .ge 45, 3) := by decide +kernel
theorem d_Sg_argumentDepth_15 : decode cc_Sg_argumentDepth 15 = .ok (.aload_n 0, 1) := by decide +kernel
theorem d_Sg_argumentDepth_16 : decode cc_Sg_argumentDepth 16 = .ok (.iload_n 3, 1) := by decide +kernel
theorem d_Sg_argumentDepth_17 : decode cc_Sg_argumentDepth 17 = .ok (.invokevirtual 60, 3) := by decide +kernel
theorem d_Sg_argumentDepth_20 : decode cc_Sg_argumentDepth 20 = .ok (.istore 4, 2) := by decide +kernel
theorem d_Sg_argumentDepth_22 : decode cc_Sg_argumentDepth 22 = .ok (.iload 4, 2) := by decide +kernel
theorem d_Sg_argumentDepth_24 : decode cc_Sg_argumentDepth 24 = .ok (.bipush 15, 2) := by decide +kernel
theorem d_Sg_argumentDepth_26 : decode cc_Sg_argumentDepth 26 = .ok (.if_icmp .ne 9, 3) := by decide +kernel
theorem d_Sg_argumentDepth_29 : decode cc_Sg_argumentDepth 29 = .ok (.iinc 1 1, 3) := by decide +kernel
theorem d_Sg_argumentDepth_32 : decode cc_Sg_argumentDepth 32 = .ok (.goto 13, 3) := by decide +kernel
theorem d_Sg_argumentDepth_35 : decode cc_Sg_argumentDepth 35 = .ok (.iload 4, 2) := by decide +kernel
theorem d_Sg_argumentDepth_37 : decode cc_Sg_argumentDepth 37 = .ok (.bipush 16, 2) := by decide +kernel
theorem d_Sg_argumentDepth_39 : decode cc_Sg_argumentDepth 39 = .ok (.if_icmp .ne 6, 3) := by decide +kernel
theorem d_Sg_argumentDepth_42 : decode cc_Sg_argumentDepth 42 = .ok (.iinc 1 (-1), 3) := by decide +kernel
theorem d_Sg_argumentDepth_45 : decode cc_Sg_argumentDepth 45 = .ok (.iload_n 2, 1) := by decide +kernel
theorem d_Sg_argumentDepth_46 : decode cc_Sg_argumentDepth 46 = .ok (.iload_n 1, 1) := by decide +kernel
theorem d_Sg_argumentDepth_47 : decode cc_Sg_argumentDepth 47 = .ok (.invokestatic 94, 3) := by decide +kernel
theorem d_Sg_argumentDepth_50 : decode cc_Sg_argumentDepth 50 = .ok (.istore_n 2, 1) := by decide +kernel
theorem d_Sg_argumentDepth_51 : decode cc_Sg_argumentDepth 51 = .ok (.iinc 3 1, 3) := by decide +kernel
theorem d_Sg_argumentDepth_54 : decode cc_Sg_argumentDepth 54 = .ok (.goto (-48), 3) := by decide +kernel
theorem d_Sg_argumentDepth_57 : decode cc_Sg_argumentDepth 57 = .ok (.iload_n 2, 1) := by decide +kernel
theorem d_Sg_argumentDepth_58 : decode cc_Sg_argumentDepth 58 = .ok (.ireturn, 1) := by decide +kernel
theorem d_Sg_longestBrackets_0 : decode cc_Sg_longestBrackets 0 = .ok (.iconst 0, 1) := by decide +kernel
theorem d_Sg_longestBrackets_1 : decode cc_Sg_longestBrackets 1 = .ok (.istore_n 1, 1) := by decide +kernel
theorem d_Sg_longestBrackets_2 : decode cc_Sg_longestBrackets 2 = .ok (.iconst 0, 1) := by decide +kernel
theorem d_Sg_longestBrackets_3 : decode cc_Sg_longestBrackets 3 = .ok (.istore_n 2, 1) := by decide +kernel
theorem d_Sg_longestBrackets_4 : decode cc_Sg_longestBrackets 4 = .ok (.iconst 0, 1) := by decide +kernel
theorem d_Sg_longestBrackets_5 : decode cc_Sg_longestBrackets 5 = .ok (.istore_n 3, 1) := by decide +kernel
theorem d_Sg_longestBrackets_6 : decode cc_Sg_longestBrackets 6 = .ok (.iload_n 3, 1) := by decide +kernel
theorem d_Sg_longestBrackets_7 : decode cc_Sg_longestBrackets 7 = .ok (.aload_n 0, 1) := by decide +kernel
theorem d_Sg_longestBrackets_8 : decode cc_Sg_longestBrackets 8 = .ok (.getfield 34, 3) := by decide +kernel
theorem d_Sg_longestBrackets_11 : decode cc_Sg_longestBrackets 11 = .ok (.arraylength, 1) := by decide +kernel
theorem d_Sg_longestBrackets_12 : decode cc_Sg_longestBrackets 12 = .ok (.if_icmp .ge 33, 3) := by decide +kernel
theorem d_Sg_longestBrackets_15 : decode cc_Sg_longestBrackets 15 = .ok (.aload_n 0, 1) := by decide +kernel
theorem d_Sg_longestBrackets_16 : decode cc_Sg_longestBrackets 16 = .ok (.iload_n 3, 1) := by decide +kernel
theorem d_Sg_longestBrackets_17 : decode cc_Sg_longestBrackets 17 = .ok (.invokevirtual 60, 3) := by decide +kernel
theorem d_Sg_longestBrackets_20 : decode cc_Sg_longestBrackets 20 = .ok (.bipush 19, 2) := by decide +kernel
theorem d_Sg_longestBrackets_22 : decode cc_Sg_longestBrackets 22 = .ok (.if_icmp .ne 9, 3) := by decide +kernel
theorem d_Sg_longestBrackets_25 : decode cc_Sg_longestBrackets 25 = .ok (.iload_n 1, 1) := by decide +kernel
theorem d_Sg_longestBrackets_26 : decode cc_Sg_longestBrackets 26 = .ok (.iconst 1, 1) := by decide +kernel
theorem d_Sg_longestBrackets_27 : decode cc_Sg_longestBrackets 27 = .ok (.iadd, 1) := by decide +kernel
theorem d_Sg_longestBrackets_28 : decode cc_Sg_longestBrackets 28 = .ok (.goto 4, 3) := by decide +kernel
theorem d_Sg_longestBrackets_31 : decode cc_Sg_longestBrackets 31 = .ok (.iconst 0, 1) := by decide +kernel
theorem d_Sg_longestBrackets_32 : decode cc_Sg_longestBrackets 32 = .ok (.istore_n 1, 1) := by decide +kernel
theorem d_Sg_longestBrackets_33 : decode cc_Sg_longestBrackets 33 = .ok (.iload_n 2, 1) := by decide +kernel
theorem d_Sg_longestBrackets_34 : decode cc_Sg_longestBrackets 34 = .ok (.iload_n 1, 1) := by decide +kernel
theorem d_Sg_longestBrackets_35 : decode cc_Sg_longestBrackets 35 = .ok (.invokestatic 94, 3) := by decide +kernel
theorem d_Sg_longestBrackets_38 : decode cc_Sg_longestBrackets 38 = .ok (.istore_n 2, 1) := by decide +kernel
theorem d_Sg_longestBrackets_39 : decode cc_Sg_longestBrackets 39 = .ok (.iinc 3 1, 3) := by decide +kernel
theorem d_Sg_longestBrackets_42 : decode cc_Sg_longestBrackets 42 = .ok (.goto (-36), 3) := by decide +kernel
theorem d_Sg_longestBrackets_45 : decode cc_Sg_longestBrackets 45 = .ok (.iload_n 2, 1) := by decide +kernel
theorem d_Sg_longestBrackets_46 : decode cc_Sg_longestBrackets 46 = .ok (.ireturn, 1) := by decide +kernel
theorem d_Sg_init_0 : decode cc_Sg_init 0 = .ok (.aload_n 0, 1) := by decide +kernel
theorem d_Sg_init_1 : decode cc_Sg_init 1 = .ok (.invokespecial 3, 3) := by decide +kernel
theorem d_Sg_init_4 : decode cc_Sg_init 4 = .ok (.aload_n 0, 1) := by decide +kernel
theorem d_Sg_init_5 : decode cc_Sg_init 5 = .ok (.aload_n 2, 1) := by decide +kernel
theorem d_Sg_init_6 : decode cc_Sg_init 6 = .ok (.getfield 9, 3) := by decide +kernel
theorem d_Sg_init_9 : decode cc_Sg_init 9 = .ok (.putfield 15, 3) := by decide +kernel
theorem d_Sg_init_12 : decode cc_Sg_init 12 = .ok (.aload_n 0, 1) := by decide +kernel
theorem d_Sg_init_13 : decode cc_Sg_init 13 = .ok (.aload_n 1, 1) := by decide +kernel
theorem d_Sg_init_14 : decode cc_Sg_init 14 = .ok (.getfield 18, 3) := by decide +kernel
theorem d_Sg_init_17 : decode cc_Sg_init 17 = .ok (.newarray .char, 2) := by decide +kernel
theorem d_Sg_init_19 : decode cc_Sg_init 19 = .ok (.putfield 23, 3) := by decide +kernel
theorem d_Sg_init_22 : decode cc_Sg_init 22 = .ok (.aload_n 1, 1) := by decide +kernel
theorem d_Sg_init_23 : decode cc_Sg_init 23 = .ok (.getfield 27, 3) := by decide +kernel
theorem d_Sg_init_26 : decode cc_Sg_init 26 = .ok (.iconst 0, 1) := by decide +kernel
theorem d_Sg_init_27 : decode cc_Sg_init 27 = .ok (.aload_n 0, 1) := by decide +kernel
theorem d_Sg_init_28 : decode cc_Sg_init 28 = .ok (.getfield 23, 3) := by decide +kernel
theorem d_Sg_init_31 : decode cc_Sg_init 31 = .ok (.iconst 0, 1) := by decide +kernel
theorem d_Sg_init_32 : decode cc_Sg_init 32 = .ok (.aload_n 0, 1) := by decide +kernel
theorem d_Sg_init_33 : decode cc_Sg_init 33 = .ok (.getfield 23, 3) := by decide +kernel
theorem d_Sg_init_36 : decode cc_Sg_init 36 = .ok (.arraylength, 1) := by decide +kernel
theorem d_Sg_init_37 : decode cc_Sg_init 37 = .ok (.invokestatic 28, 3) := by decide +kernel
theorem d_Sg_init_40 : decode cc_Sg_init 40 = .ok (.aload_n 0, 1) := by decide +kernel
theorem d_Sg_init_41 : decode cc_Sg_init 41 = .ok (.aload_n 1, 1) := by decide +kernel
theorem d_Sg_init_42 : decode cc_Sg_init 42 = .ok (.getfield 18, 3) := by decide +kernel
theorem d_Sg_init_45 : decode cc_Sg_init 45 = .ok (.newarray .int, 2) := by decide +kernel
theorem d_Sg_init_47 : decode cc_Sg_init 47 = .ok (.putfield 34, 3) := by decide +kernel
theorem d_Sg_init_50 : decode cc_Sg_init 50 = .ok (.aload_n 2, 1) := by decide +kernel
theorem d_Sg_init_51 : decode cc_Sg_init 51 = .ok (.getfield 38, 3) := by decide +kernel
theorem d_Sg_init_54 : decode cc_Sg_init 54 = .ok (.iconst 0, 1) := by decide +kernel
theorem d_Sg_init_55 : decode cc_Sg_init 55 = .ok (.aload_n 0, 1) := by decide +kernel
theorem d_Sg_init_56 : decode cc_Sg_init 56 = .ok (.getfield 34, 3) := by decide +kernel
theorem d_Sg_init_59 : decode cc_Sg_init 59 = .ok (.iconst 0, 1) := by decide +kernel
theorem d_Sg_init_60 : decode cc_Sg_init 60 = .ok (.aload_n 0, 1) := by decide +kernel
theorem d_Sg_init_61 : decode cc_Sg_init 61 = .ok (.getfield 34, 3) := by decide +kernel
theorem d_Sg_init_64 : decode cc_Sg_init 64 = .ok (.arraylength, 1) := by decide +kernel
theorem d_Sg_init_65 : decode cc_Sg_init 65 = .ok (.invokestatic 28, 3) := by decide +kernel
theorem d_Sg_init_68 : decode cc_Sg_init 68 = .ok (.aload_n 0, 1) := by decide +kernel
theorem d_Sg_init_69 : decode cc_Sg_init 69 = .ok (.aload_n 2, 1) := by decide +kernel
theorem d_Sg_init_70 : decode cc_Sg_init 70 = .ok (.getfield 39, 3) := by decide +kernel
theorem d_Sg_init_73 : decode cc_Sg_init 73 = .ok (.newarray .int, 2) := by decide +kernel
theorem d_Sg_init_75 : decode cc_Sg_init 75 = .ok (.putfield 42, 3) := by decide +kernel
theorem d_Sg_init_78 : decode cc_Sg_init 78 = .ok (.aload_n 2, 1) := by decide +kernel
theorem d_Sg_init_79 : decode cc_Sg_init 79 = .ok (.getfield 45, 3) := by decide +kernel
theorem d_Sg_init_82 : decode cc_Sg_init 82 = .ok (.iconst 0, 1) := by decide +kernel
theorem d_Sg_init_83 : decode cc_Sg_init 83 = .ok (.aload_n 0, 1) := by decide +kernel
theorem d_Sg_init_84 : decode cc_Sg_init 84 = .ok (.getfield 42, 3) := by decide +kernel
theorem d_Sg_init_87 : decode cc_Sg_init 87 = .ok (.iconst 0, 1) := by decide +kernel
theorem d_Sg_init_88 : decode cc_Sg_init 88 = .ok (.aload_n 0, 1) := by decide +kernel
theorem d_Sg_init_89 : decode cc_Sg_init 89 = .ok (.getfield 42, 3) := by decide +kernel
theorem d_Sg_init_92 : decode cc_Sg_init 92 = .ok (.arraylength, 1) := by decide +kernel
theorem d_Sg_init_93 : decode cc_Sg_init 93 = .ok (.invokestatic 28, 3) := by decide +kernel
theorem d_Sg_init_96 : decode cc_Sg_init 96 = .ok (.aload_n 0, 1) := by decide +kernel
theorem d_Sg_init_97 : decode cc_Sg_init 97 = .ok (.aload_n 2, 1) := by decide +kernel
theorem d_Sg_init_98 : decode cc_Sg_init 98 = .ok (.getfield 39, 3) := by decide +kernel
theorem d_Sg_init_101 : decode cc_Sg_init 101 = .ok (.newarray .int, 2) := by decide +kernel
theorem d_Sg_init_103 : decode cc_Sg_init 103 = .ok (.putfield 46, 3) := by decide +kernel
theorem d_Sg_init_106 : decode cc_Sg_init 106 = .ok (.aload_n 2, 1) := by decide +kernel
theorem d_Sg_init_107 : decode cc_Sg_init 107 = .ok (.getfield 49, 3) := by decide +kernel
theorem d_Sg_init_110 : decode cc_Sg_init 110 = .ok (.iconst 0, 1) := by decide +kernel
theorem d_Sg_init_111 : decode cc_Sg_init 111 = .ok (.aload_n 0, 1) := by decide +kernel
theorem d_Sg_init_112 : decode cc_Sg_init 112 = .ok (.getfield 46, 3) := by decide +kernel
theorem d_Sg_init_115 : decode cc_Sg_init 115 = .ok (.iconst 0, 1) := by decide +kernel
theorem d_Sg_init_116 : decode cc_Sg_init 116 = .ok (.aload_n 0, 1) := by decide +kernel
theorem d_Sg_init_117 : decode cc_Sg_init 117 = .ok (.getfield 46, 3) := by decide +kernel
theorem d_Sg_init_120 : decode cc_Sg_init 120 = .ok (.arraylength, 1) := by decide +kernel
theorem d_Sg_init_121 : decode cc_Sg_init 121 = .ok (.invokestatic 28, 3) := by decide +kernel
theorem d_Sg_init_124 : decode cc_Sg_init 124 = .ok (.aload_n 0, 1) := by decide +kernel
theorem d_Sg_init_125 : decode cc_Sg_init 125 = .ok (.iload_n 3, 1) := by decide +kernel
theorem d_Sg_init_126 : decode cc_Sg_init 126 = .ok (.putfield 50, 3) := by decide +kernel
theorem d_Sg_init_129 : decode cc_Sg_init 129 = .ok (.iconst 0, 1) := by decide +kernel
theorem d_Sg_init_130 : decode cc_Sg_init 130 = .ok (.istore 4, 2) := by decide +kernel
theorem d_Sg_init_132 : decode cc_Sg_init 132 = .ok (.iconst 0, 1) := by decide +kernel
theorem d_Sg_init_133 : decode cc_Sg_init 133 = .ok (.istore 5, 2) := by decide +kernel
theorem d_Sg_init_135 : decode cc_Sg_init 135 = .ok (.iload 5, 2) := by decide +kernel
theorem d_Sg_init_137 : decode cc_Sg_init 137 = .ok (.aload_n 0, 1) := by decide +kernel
theorem d_Sg_init_138 : decode cc_Sg_init 138 = .ok (.getfield 34, 3) := by decide +kernel
theorem d_Sg_init_141 : decode cc_Sg_init 141 = .ok (.arraylength, 1) := by decide +kernel
theorem d_Sg_init_142 : decode cc_Sg_init 142 = .ok (.if_icmp .ge 26, 3) := by decide +kernel
theorem d_Sg_init_145 : decode cc_Sg_init 145 = .ok (.aload_n 0, 1) := by decide +kernel
theorem d_Sg_init_146 : decode cc_Sg_init 146 = .ok (.getfield 34, 3) := by decide +kernel
theorem d_Sg_init_149 : decode cc_Sg_init 149 = .ok (.iload 5, 2) := by decide +kernel
theorem d_Sg_init_151 : decode cc_Sg_init 151 = .ok (.iaload, 1) := by decide +kernel
theorem d_Sg_init_152 : decode cc_Sg_init 152 = .ok (.iconst 5, 1) := by decide +kernel
theorem d_Sg_init_153 : decode cc_Sg_init 153 = .ok (.if_icmp .ne 9, 3) := by decide +kernel
theorem d_Sg_init_156 : decode cc_Sg_init 156 = .ok (.iload 5, 2) := by decide +kernel
theorem d_Sg_init_158 : decode cc_Sg_init 158 = .ok (.iconst 1, 1) := by decide +kernel
theorem d_Sg_init_159 : decode cc_Sg_init 159 = .ok (.iadd, 1) := by decide +kernel
theorem d_Sg_init_160 : decode cc_Sg_init 160 = .ok (.istore 4, 2) := by decide +kernel
theorem d_Sg_init_162 : decode cc_Sg_init 162 = .ok (.iinc 5 1, 3) := by decide +kernel
theorem d_Sg_init_165 : decode cc_Sg_init 165 = .ok (.goto (-30), 3) := by decide +kernel
theorem d_Sg_init_168 : decode cc_Sg_init 168 = .ok (.aload_n 0, 1) := by decide +kernel
theorem d_Sg_init_169 : decode cc_Sg_init 169 = .ok (.iload 4, 2) := by decide +kernel
theorem d_Sg_init_171 : decode cc_Sg_init 171 = .ok (.putfield 53, 3) := by decide +kernel
theorem d_Sg_init_174 : decode cc_Sg_init 174 = .ok (.return_, 1) := by decide +kernel
theorem d_Fo_becomes_0 : decode cc_Fo_becomes 0 = .ok (.iconst 0, 1) := by decide +kernel
theorem d_Fo_becomes_1 : decode cc_Fo_becomes 1 = .ok (.istore_n 2, 1) := by decide +kernel
theorem d_Fo_becomes_2 : decode cc_Fo_becomes 2 = .ok (.iconst 0, 1) := by decide +kernel
theorem d_Fo_becomes_3 : decode cc_Fo_becomes 3 = .ok (.istore_n 3, 1) := by decide +kernel
theorem d_Fo_becomes_4 : decode cc_Fo_becomes 4 = .ok (.iconst 0, 1) := by decide +kernel
theorem d_Fo_becomes_5 : decode cc_Fo_becomes 5 = .ok (.istore 4, 2) := by decide +kernel
theorem d_Fo_becomes_7 : decode cc_Fo_becomes 7 = .ok (.iload 4, 2) := by decide +kernel
theorem d_Fo_becomes_9 : decode cc_Fo_becomes 9 = .ok (.aload_n 0, 1) := by decide +kernel
theorem d_Fo_becomes_10 : decode cc_Fo_becomes 10 = .ok (.getfield 139, 3) := by decide +kernel
theorem d_Fo_becomes_13 : decode cc_Fo_becomes 13 = .ok (.arraylength, 1) := by decide +kernel
theorem d_Fo_becomes_14 : decode cc_Fo_becomes 14 = .ok (.if_icmp .ge 122, 3) := by decide +kernel
theorem d_Fo_becomes_17 : decode cc_Fo_becomes 17 = .ok (.iload 4, 2) := by decide +kernel
theorem d_Fo_becomes_19 : decode cc_Fo_becomes 19 = .ok (.iload_n 3, 1) := by decide +kernel
theorem d_Fo_becomes_20 : decode cc_Fo_becomes 20 = .ok (.if_icmp .ge 6, 3) := by decide +kernel
theorem d_Fo_becomes_23 : decode cc_Fo_becomes 23 = .ok (.goto 107, 3) := by decide +kernel
theorem d_Fo_becomes_26 : decode cc_Fo_becomes 26 = .ok (.aload_n 0, 1) := by decide +kernel
theorem d_Fo_becomes_27 : decode cc_Fo_becomes 27 = .ok (.iload 4, 2) := by decide +kernel
theorem d_Fo_becomes_29 : decode cc_Fo_becomes 29 = .ok (.invokevirtual 180, 3) := by decide +kernel
theorem d_Fo_becomes_32 : decode cc_Fo_becomes 32 = .ok (.istore 5, 2) := by decide +kernel
theorem d_Fo_becomes_34 : decode cc_Fo_becomes 34 = .ok (.iload 5, 2) := by decide +kernel
theorem d_Fo_becomes_36 : decode cc_Fo_becomes 36 = .ok (.iconst (-1), 1) := by decide +kernel
theorem d_Fo_becomes_37 : decode cc_Fo_becomes 37 = .ok (.if_icmp .eq 34, 3) := by decide +kernel
theorem d_Fo_becomes_40 : decode cc_Fo_becomes 40 = .ok (.aload_n 1, 1) := by decide +kernel
theorem d_Fo_becomes_41 : decode cc_Fo_becomes 41 = .ok (.iload 5, 2) := by decide +kernel
theorem d_Fo_becomes_43 : decode cc_Fo_becomes 43 = .ok (.iload_n 2, 1) := by decide +kernel
theorem d_Fo_becomes_44 : decode cc_Fo_becomes 44 = .ok (.invokevirtual 183, 3) := by decide +kernel
theorem d_Fo_becomes_47 : decode cc_Fo_becomes 47 = .ok (.ifCond .ne 5, 3) := by decide +kernel
theorem d_Fo_becomes_50 : decode cc_Fo_becomes 50 = .ok (.iconst 0, 1) := by decide +kernel
theorem d_Fo_becomes_51 : decode cc_Fo_becomes 51 = .ok (.ireturn, 1) := by decide +kernel
theorem d_Fo_becomes_52 : decode cc_Fo_becomes 52 = .ok (.iload_n 2, 1) := by decide +kernel
theorem d_Fo_becomes_53 : decode cc_Fo_becomes 53 = .ok (.aload_n 1, 1) := by decide +kernel
theorem d_Fo_becomes_54 : decode cc_Fo_becomes 54 = .ok (.iload 5, 2) := by decide +kernel
theorem d_Fo_becomes_56 : decode cc_Fo_becomes 56 = .ok (.invokevirtual 187, 3) := by decide +kernel
theorem d_Fo_becomes_59 : decode cc_Fo_becomes 59 = .ok (.iadd, 1) := by decide +kernel
theorem d_Fo_becomes_60 : decode cc_Fo_becomes 60 = .ok (.istore_n 2, 1) := by decide +kernel
theorem d_Fo_becomes_61 : decode cc_Fo_becomes 61 = .ok (.aload_n 0, 1) := by decide +kernel
theorem d_Fo_becomes_62 : decode cc_Fo_becomes 62 = .ok (.iload 4, 2) := by decide +kernel
theorem d_Fo_becomes_64 : decode cc_Fo_becomes 64 = .ok (.invokevirtual 190, 3) := by decide +kernel
theorem d_Fo_becomes_67 : decode cc_Fo_becomes 67 = .ok (.istore_n 3, 1) := by decide +kernel
theorem d_Fo_becomes_68 : decode cc_Fo_becomes 68 = .ok (.goto 62, 3) := by decide +kernel
theorem d_Fo_becomes_71 : decode cc_Fo_becomes 71 = .ok (.aload_n 0, 1) := by decide +kernel
theorem d_Fo_becomes_72 : decode cc_Fo_becomes 72 = .ok (.iload 4, 2) := by decide +kernel
theorem d_Fo_becomes_74 : decode cc_Fo_becomes 74 = .ok (.invokevirtual 193, 3) := by decide +kernel
theorem d_Fo_becomes_77 : decode cc_Fo_becomes 77 = .ok (.iconst (-1), 1) := by decide +kernel
theorem d_Fo_becomes_78 : decode cc_Fo_becomes 78 = .ok (.if_icmp .eq 7, 3) := by decide +kernel
theorem d_Fo_becomes_81 : decode cc_Fo_becomes 81 = .ok (.iconst 1, 1) := by decide +kernel
theorem d_Fo_becomes_82 : decode cc_Fo_becomes 82 = .ok (.goto 4, 3) := by decide +kernel
theorem d_Fo_becomes_85 : decode cc_Fo_becomes 85 = .ok (.iconst 0, 1) := by decide +kernel
theorem d_Fo_becomes_86 : decode cc_Fo_becomes 86 = .ok (.istore 6, 2) := by decide +kernel
theorem d_Fo_becomes_88 : decode cc_Fo_becomes 88 = .ok (.aload_n 1, 1) := by decide +kernel
theorem d_Fo_becomes_89 : decode cc_Fo_becomes 89 = .ok (.iload_n 2, 1) := by decide +kernel
theorem d_Fo_becomes_90 : decode cc_Fo_becomes 90 = .ok (.invokevirtual 193, 3) := by decide +kernel
theorem d_Fo_becomes_93 : decode cc_Fo_becomes 93 = .ok (.iconst (-1), 1) := by decide +kernel
theorem d_Fo_becomes_94 : decode cc_Fo_becomes 94 = .ok (.if_icmp .eq 7, 3) := by decide +kernel
theorem d_Fo_becomes_97 : decode cc_Fo_becomes 97 = .ok (.iconst 1, 1) := by decide +kernel
theorem d_Fo_becomes_98 : decode cc_Fo_becomes 98 = .ok (.goto 4, 3) := by decide +kernel
theorem d_Fo_becomes_101 : decode cc_Fo_becomes 101 = .ok (.iconst 0, 1) := by decide +kernel
theorem d_Fo_becomes_102 : decode cc_Fo_becomes 102 = .ok (.istore 7, 2) := by decide +kernel
theorem d_Fo_becomes_104 : decode cc_Fo_becomes 104 = .ok (.aload_n 0, 1) := by decide +kernel
theorem d_Fo_becomes_105 : decode cc_Fo_becomes 105 = .ok (.iload 4, 2) := by decide +kernel
theorem d_Fo_becomes_107 : decode cc_Fo_becomes 107 = .ok (.invokevirtual 161, 3) := by decide +kernel
theorem d_Fo_becomes_110 : decode cc_Fo_becomes 110 = .ok (.aload_n 1, 1) := by decide +kernel
theorem d_Fo_becomes_111 : decode cc_Fo_becomes 111 = .ok (.iload_n 2, 1) := by decide +kernel
theorem d_Fo_becomes_112 : decode cc_Fo_becomes 112 = .ok (.invokevirtual 161, 3) := by decide +kernel
theorem d_Fo_becomes_115 : decode cc_Fo_becomes 115 = .ok (.if_icmp .ne 10, 3) := by decide +kernel
theorem d_Fo_becomes_118 : decode cc_Fo_becomes 118 = .ok (.iload 6, 2) := by decide +kernel
theorem d_Fo_becomes_120 : decode cc_Fo_becomes 120 = .ok (.iload 7, 2) := by decide +kernel
theorem d_Fo_becomes_122 : decode cc_Fo_becomes 122 = .ok (.if_icmp .eq 5, 3) := by decide +kernel
theorem d_Fo_becomes_125 : decode cc_Fo_becomes 125 = .ok (.iconst 0, 1) := by decide +kernel
theorem d_Fo_becomes_126 : decode cc_Fo_becomes 126 = .ok (.ireturn, 1) := by decide +kernel
theorem d_Fo_becomes_127 : decode cc_Fo_becomes 127 = .ok (.iinc 2 1, 3) := by decide +kernel
theorem d_Fo_becomes_130 : decode cc_Fo_becomes 130 = .ok (.iinc 4 1, 3) := by decide +kernel
theorem d_Fo_becomes_133 : decode cc_Fo_becomes 133 = .ok (.goto (-126), 3) := by decide +kernel
theorem d_Fo_becomes_136 : decode cc_Fo_becomes 136 = .ok (.iload_n 2, 1) := by decide +kernel
theorem d_Fo_becomes_137 : decode cc_Fo_becomes 137 = .ok (.aload_n 1, 1) := by decide +kernel
theorem d_Fo_becomes_138 : decode cc_Fo_becomes 138 = .ok (.getfield 139, 3) := by decide +kernel
theorem d_Fo_becomes_141 : decode cc_Fo_becomes 141 = .ok (.arraylength, 1) := by decide +kernel
theorem d_Fo_becomes_142 : decode cc_Fo_becomes 142 = .ok (.if_icmp .ne 7, 3) := by decide +kernel
theorem d_Fo_becomes_145 : decode cc_Fo_becomes 145 = .ok (.iconst 1, 1) := by decide +kernel
theorem d_Fo_becomes_146 : decode cc_Fo_becomes 146 = .ok (.goto 4, 3) := by decide +kernel
theorem d_Fo_becomes_149 : decode cc_Fo_becomes 149 = .ok (.iconst 0, 1) := by decide +kernel
theorem d_Fo_becomes_150 : decode cc_Fo_becomes 150 = .ok (.ireturn, 1) := by decide +kernel
theorem d_Sh_wordOf_0 : decode cc_Sh_wordOf 0 = .ok (.iload_n 0, 1) := by decide +kernel
theorem d_Sh_wordOf_1 : decode cc_Sh_wordOf 1 = .ok (.tableswitch 139 66 90 #[115, 118, 121, 139, 124, 139, 139, 127, 130, 139, 139, 139, 139, 139, 139, 139, 139, 133, 139, 139, 139, 139, 139, 139, 136], 115) := by decide +kernel
theorem d_Sh_wordOf_116 : decode cc_Sh_wordOf 116 = .ok (.ldc 91, 2) := by decide +kernel
theorem d_Sh_wordOf_118 : decode cc_Sh_wordOf 118 = .ok (.areturn, 1) := by decide +kernel
theorem d_Sh_wordOf_119 : decode cc_Sh_wordOf 119 = .ok (.ldc 93, 2) := by decide +kernel
theorem d_Sh_wordOf_121 : decode cc_Sh_wordOf 121 = .ok (.areturn, 1) := by decide +kernel
theorem d_Sh_wordOf_122 : decode cc_Sh_wordOf 122 = .ok (.ldc 95, 2) := by decide +kernel
theorem d_Sh_wordOf_124 : decode cc_Sh_wordOf 124 = .ok (.areturn, 1) := by decide +kernel
theorem d_Sh_wordOf_125 : decode cc_Sh_wordOf 125 = .ok (.ldc 97, 2) := by decide +kernel
theorem d_Sh_wordOf_127 : decode cc_Sh_wordOf 127 = .ok (.areturn, 1) := by decide +kernel
theorem d_Sh_wordOf_128 : decode cc_Sh_wordOf 128 = .ok (.ldc 99, 2) := by decide +kernel
theorem d_Sh_wordOf_130 : decode cc_Sh_wordOf 130 = .ok (.areturn, 1) := by decide +kernel
theorem d_Sh_wordOf_131 : decode cc_Sh_wordOf 131 = .ok (.ldc 101, 2) := by decide +kernel
theorem d_Sh_wordOf_133 : decode cc_Sh_wordOf 133 = .ok (.areturn, 1) := by decide +kernel
theorem d_Sh_wordOf_134 : decode cc_Sh_wordOf 134 = .ok (.ldc 103, 2) := by decide +kernel
theorem d_Sh_wordOf_136 : decode cc_Sh_wordOf 136 = .ok (.areturn, 1) := by decide +kernel
theorem d_Sh_wordOf_137 : decode cc_Sh_wordOf 137 = .ok (.ldc 105, 2) := by decide +kernel
theorem d_Sh_wordOf_139 : decode cc_Sh_wordOf 139 = .ok (.areturn, 1) := by decide +kernel
theorem d_Sh_wordOf_140 : decode cc_Sh_wordOf 140 = .ok (.ldc 107, 2) := by decide +kernel
theorem d_Sh_wordOf_142 : decode cc_Sh_wordOf 142 = .ok (.areturn, 1) := by decide +kernel
theorem d_Sh_partingItems_0 : decode cc_Sh_partingItems 0 = .ok (.aload_n 1, 1) := by decide +kernel
theorem d_Sh_partingItems_1 : decode cc_Sh_partingItems 1 = .ok (.getfield 60, 3) := by decide +kernel
theorem d_Sh_partingItems_4 : decode cc_Sh_partingItems 4 = .ok (.ifCond .ne 17, 3) := by decide +kernel
theorem d_Sh_partingItems_7 : decode cc_Sh_partingItems 7 = .ok (.aload_n 0, 1) := by decide +kernel
theorem d_Sh_partingItems_8 : decode cc_Sh_partingItems 8 = .ok (.getfield 15, 3) := by decide +kernel
theorem d_Sh_partingItems_11 : decode cc_Sh_partingItems 11 = .ok (.ifCond .gt 10, 3) := by decide +kernel
theorem d_Sh_partingItems_14 : decode cc_Sh_partingItems 14 = .ok (.aload_n 0, 1) := by decide +kernel
theorem d_Sh_partingItems_15 : decode cc_Sh_partingItems 15 = .ok (.getfield 19, 3) := by decide +kernel
theorem d_Sh_partingItems_18 : decode cc_Sh_partingItems 18 = .ok (.ifCond .eq 6, 3) := by decide +kernel
theorem d_Sh_partingItems_21 : decode cc_Sh_partingItems 21 = .ok (.bipush 44, 2) := by decide +kernel
theorem d_Sh_partingItems_23 : decode cc_Sh_partingItems 23 = .ok (.ireturn, 1) := by decide +kernel
theorem d_Sh_partingItems_24 : decode cc_Sh_partingItems 24 = .ok (.aload_n 0, 1) := by decide +kernel
theorem d_Sh_partingItems_25 : decode cc_Sh_partingItems 25 = .ok (.iconst 1, 1) := by decide +kernel
theorem d_Sh_partingItems_26 : decode cc_Sh_partingItems 26 = .ok (.putfield 19, 3) := by decide +kernel
theorem d_Sh_partingItems_29 : decode cc_Sh_partingItems 29 = .ok (.bipush 58, 2) := by decide +kernel
theorem d_Sh_partingItems_31 : decode cc_Sh_partingItems 31 = .ok (.ireturn, 1) := by decide +kernel
theorem d_Sh_part_0 : decode cc_Sh_part 0 = .ok (.aload_n 1, 1) := by decide +kernel
theorem d_Sh_part_1 : decode cc_Sh_part 1 = .ok (.iload_n 2, 1) := by decide +kernel
theorem d_Sh_part_2 : decode cc_Sh_part 2 = .ok (.iconst 1, 1) := by decide +kernel
theorem d_Sh_part_3 : decode cc_Sh_part 3 = .ok (.isub, 1) := by decide +kernel
theorem d_Sh_part_4 : decode cc_Sh_part 4 = .ok (.invokevirtual 32, 3) := by decide +kernel
theorem d_Sh_part_7 : decode cc_Sh_part 7 = .ok (.istore 5, 2) := by decide +kernel
theorem d_Sh_part_9 : decode cc_Sh_part 9 = .ok (.iload 5, 2) := by decide +kernel
theorem d_Sh_part_11 : decode cc_Sh_part 11 = .ok (.invokestatic 43, 3) := by decide +kernel
theorem d_Sh_part_14 : decode cc_Sh_part 14 = .ok (.ifCond .eq 23, 3) := by decide +kernel
theorem d_Sh_part_17 : decode cc_Sh_part 17 = .ok (.iload_n 3, 1) := by decide +kernel
theorem d_Sh_part_18 : decode cc_Sh_part 18 = .ok (.invokestatic 47, 3) := by decide +kernel
theorem d_Sh_part_21 : decode cc_Sh_part 21 = .ok (.ifCond .eq 16, 3) := by decide +kernel
theorem d_Sh_part_24 : decode cc_Sh_part 24 = .ok (.aload 4, 2) := by decide +kernel
theorem d_Sh_part_26 : decode cc_Sh_part 26 = .ok (.aload_n 0, 1) := by decide +kernel
theorem d_Sh_part_27 : decode cc_Sh_part 27 = .ok (.aload_n 1, 1) := by decide +kernel
theorem d_Sh_part_28 : decode cc_Sh_part 28 = .ok (.invokevirtual 50, 3) := by decide +kernel
theorem d_Sh_part_31 : decode cc_Sh_part 31 = .ok (.invokevirtual 54, 3) := by decide +kernel
theorem d_Sh_part_34 : decode cc_Sh_part 34 = .ok (.goto 27, 3) := by decide +kernel
theorem d_Sh_part_37 : decode cc_Sh_part 37 = .ok (.iload_n 3, 1) := by decide +kernel
theorem d_Sh_part_38 : decode cc_Sh_part 38 = .ok (.iconst 2, 1) := by decide +kernel
theorem d_Sh_part_39 : decode cc_Sh_part 39 = .ok (.if_icmp .ne 22, 3) := by decide +kernel
theorem d_Sh_part_42 : decode cc_Sh_part 42 = .ok (.iload 5, 2) := by decide +kernel
theorem d_Sh_part_44 : decode cc_Sh_part 44 = .ok (.iconst 2, 1) := by decide +kernel
theorem d_Sh_part_45 : decode cc_Sh_part 45 = .ok (.if_icmp .eq 16, 3) := by decide +kernel
theorem d_Sh_part_48 : decode cc_Sh_part 48 = .ok (.iload 5, 2) := by decide +kernel
theorem d_Sh_part_50 : decode cc_Sh_part 50 = .ok (.iconst 1, 1) := by decide +kernel
theorem d_Sh_part_51 : decode cc_Sh_part 51 = .ok (.if_icmp .eq 10, 3) := by decide +kernel
theorem d_Sh_part_54 : decode cc_Sh_part 54 = .ok (.aload 4, 2) := by decide +kernel
theorem d_Sh_part_56 : decode cc_Sh_part 56 = .ok (.bipush 44, 2) := by decide +kernel
theorem d_Sh_part_58 : decode cc_Sh_part 58 = .ok (.invokevirtual 54, 3) := by decide +kernel
theorem d_Sh_part_61 : decode cc_Sh_part 61 = .ok (.return_, 1) := by decide +kernel
theorem d_Sh_changeDepth_0 : decode cc_Sh_changeDepth 0 = .ok (.iload_n 1, 1) := by decide +kernel
theorem d_Sh_changeDepth_1 : decode cc_Sh_changeDepth 1 = .ok (.bipush 15, 2) := by decide +kernel
theorem d_Sh_changeDepth_3 : decode cc_Sh_changeDepth 3 = .ok (.if_icmp .ne 40, 3) := by decide +kernel
theorem d_Sh_changeDepth_6 : decode cc_Sh_changeDepth 6 = .ok (.aload_n 0, 1) := by decide +kernel
theorem d_Sh_changeDepth_7 : decode cc_Sh_changeDepth 7 = .ok (.getfield 15, 3) := by decide +kernel
theorem d_Sh_changeDepth_10 : decode cc_Sh_changeDepth 10 = .ok (.iconst 1, 1) := by decide +kernel
theorem d_Sh_changeDepth_11 : decode cc_Sh_changeDepth 11 = .ok (.iadd, 1) := by decide +kernel
theorem d_Sh_changeDepth_12 : decode cc_Sh_changeDepth 12 = .ok (.aload_n 0, 1) := by decide +kernel
theorem d_Sh_changeDepth_13 : decode cc_Sh_changeDepth 13 = .ok (.getfield 9, 3) := by decide +kernel
theorem d_Sh_changeDepth_16 : decode cc_Sh_changeDepth 16 = .ok (.arraylength, 1) := by decide +kernel
theorem d_Sh_changeDepth_17 : decode cc_Sh_changeDepth 17 = .ok (.if_icmp .ge 26, 3) := by decide +kernel
theorem d_Sh_changeDepth_20 : decode cc_Sh_changeDepth 20 = .ok (.aload_n 0, 1) := by decide +kernel
theorem d_Sh_changeDepth_21 : decode cc_Sh_changeDepth 21 = .ok (.dup, 1) := by decide +kernel
theorem d_Sh_changeDepth_22 : decode cc_Sh_changeDepth 22 = .ok (.getfield 15, 3) := by decide +kernel
theorem d_Sh_changeDepth_25 : decode cc_Sh_changeDepth 25 = .ok (.iconst 1, 1) := by decide +kernel
theorem d_Sh_changeDepth_26 : decode cc_Sh_changeDepth 26 = .ok (.iadd, 1) := by decide +kernel
theorem d_Sh_changeDepth_27 : decode cc_Sh_changeDepth 27 = .ok (.putfield 15, 3) := by decide +kernel
theorem d_Sh_changeDepth_30 : decode cc_Sh_changeDepth 30 = .ok (.aload_n 0, 1) := by decide +kernel
theorem d_Sh_changeDepth_31 : decode cc_Sh_changeDepth 31 = .ok (.getfield 9, 3) := by decide +kernel
theorem d_Sh_changeDepth_34 : decode cc_Sh_changeDepth 34 = .ok (.aload_n 0, 1) := by decide +kernel
theorem d_Sh_changeDepth_35 : decode cc_Sh_changeDepth 35 = .ok (.getfield 15, 3) := by decide +kernel
theorem d_Sh_changeDepth_38 : decode cc_Sh_changeDepth 38 = .ok (.iconst 0, 1) := by decide +kernel
theorem d_Sh_changeDepth_39 : decode cc_Sh_changeDepth 39 = .ok (.iastore, 1) := by decide +kernel
theorem d_Sh_changeDepth_40 : decode cc_Sh_changeDepth 40 = .ok (.goto 26, 3) := by decide +kernel
theorem d_Sh_changeDepth_43 : decode cc_Sh_changeDepth 43 = .ok (.iload_n 1, 1) := by decide +kernel
theorem d_Sh_changeDepth_44 : decode cc_Sh_changeDepth 44 = .ok (.bipush 16, 2) := by decide +kernel
theorem d_Sh_changeDepth_46 : decode cc_Sh_changeDepth 46 = .ok (.if_icmp .ne 20, 3) := by decide +kernel
theorem d_Sh_changeDepth_49 : decode cc_Sh_changeDepth 49 = .ok (.aload_n 0, 1) := by decide +kernel
theorem d_Sh_changeDepth_50 : decode cc_Sh_changeDepth 50 = .ok (.getfield 15, 3) := by decide +kernel
theorem d_Sh_changeDepth_53 : decode cc_Sh_changeDepth 53 = .ok (.ifCond .le 13, 3) := by decide +kernel
theorem d_Sh_changeDepth_56 : decode cc_Sh_changeDepth 56 = .ok (.aload_n 0, 1) := by decide +kernel
theorem d_Sh_changeDepth_57 : decode cc_Sh_changeDepth 57 = .ok (.dup, 1) := by decide +kernel
theorem d_Sh_changeDepth_58 : decode cc_Sh_changeDepth 58 = .ok (.getfield 15, 3) := by decide +kernel
theorem d_Sh_changeDepth_61 : decode cc_Sh_changeDepth 61 = .ok (.iconst 1, 1) := by decide +kernel
theorem d_Sh_changeDepth_62 : decode cc_Sh_changeDepth 62 = .ok (.isub, 1) := by decide +kernel
theorem d_Sh_changeDepth_63 : decode cc_Sh_changeDepth 63 = .ok (.putfield 15, 3) := by decide +kernel
theorem d_Sh_changeDepth_66 : decode cc_Sh_changeDepth 66 = .ok (.return_, 1) := by decide +kernel
theorem d_Sh_showWaiting_0 : decode cc_Sh_showWaiting 0 = .ok (.iconst 0, 1) := by decide +kernel
theorem d_Sh_showWaiting_1 : decode cc_Sh_showWaiting 1 = .ok (.istore_n 2, 1) := by decide +kernel
theorem d_Sh_showWaiting_2 : decode cc_Sh_showWaiting 2 = .ok (.iload_n 2, 1) := by decide +kernel
theorem d_Sh_showWaiting_3 : decode cc_Sh_showWaiting 3 = .ok (.aload_n 0, 1) := by decide +kernel
theorem d_Sh_showWaiting_4 : decode cc_Sh_showWaiting 4 = .ok (.getfield 9, 3) := by decide +kernel
