theorem d_Fo_scope_10 : decode cc_Fo_scope 10 = .ok (.bipush (-100), 2) := by decide +kernel
theorem d_Fo_scope_12 : decode cc_Fo_scope 12 = .ok (.ireturn, 1) := by decide +kernel
theorem d_Fo_scope_13 : decode cc_Fo_scope 13 = .ok (.iload_n 2, 1) := by decide +kernel
theorem d_Fo_scope_14 : decode cc_Fo_scope 14 = .ok (.iconst (-1), 1) := by decide +kernel
theorem d_Fo_scope_15 : decode cc_Fo_scope 15 = .ok (.if_icmp .eq 31, 3) := by decide +kernel
theorem d_Fo_scope_18 : decode cc_Fo_scope 18 = .ok (.aload_n 0, 1) := by decide +kernel
theorem d_Fo_scope_19 : decode cc_Fo_scope 19 = .ok (.iload_n 2, 1) := by decide +kernel
theorem d_Fo_scope_20 : decode cc_Fo_scope 20 = .ok (.invokevirtual 73, 3) := by decide +kernel
theorem d_Fo_scope_23 : decode cc_Fo_scope 23 = .ok (.astore 4, 2) := by decide +kernel
theorem d_Fo_scope_25 : decode cc_Fo_scope 25 = .ok (.aload 4, 2) := by decide +kernel
theorem d_Fo_scope_27 : decode cc_Fo_scope 27 = .ok (.ifnull 16, 3) := by decide +kernel
theorem d_Fo_scope_30 : decode cc_Fo_scope 30 = .ok (.iload_n 2, 1) := by decide +kernel
theorem d_Fo_scope_31 : decode cc_Fo_scope 31 = .ok (.iload_n 1, 1) := by decide +kernel
theorem d_Fo_scope_32 : decode cc_Fo_scope 32 = .ok (.if_icmp .eq 11, 3) := by decide +kernel
theorem d_Fo_scope_35 : decode cc_Fo_scope 35 = .ok (.aload 4, 2) := by decide +kernel
theorem d_Fo_scope_37 : decode cc_Fo_scope 37 = .ok (.getfield 77, 3) := by decide +kernel
theorem d_Fo_scope_40 : decode cc_Fo_scope 40 = .ok (.ifCond .eq 6, 3) := by decide +kernel
theorem d_Fo_scope_43 : decode cc_Fo_scope 43 = .ok (.bipush (-100), 2) := by decide +kernel
theorem d_Fo_scope_45 : decode cc_Fo_scope 45 = .ok (.ireturn, 1) := by decide +kernel
theorem d_Fo_scope_46 : decode cc_Fo_scope 46 = .ok (.aload_n 3, 1) := by decide +kernel
theorem d_Fo_scope_47 : decode cc_Fo_scope 47 = .ok (.getfield 80, 3) := by decide +kernel
theorem d_Fo_scope_50 : decode cc_Fo_scope 50 = .ok (.istore 4, 2) := by decide +kernel
theorem d_Fo_scope_52 : decode cc_Fo_scope 52 = .ok (.aload_n 3, 1) := by decide +kernel
theorem d_Fo_scope_53 : decode cc_Fo_scope 53 = .ok (.iload_n 2, 1) := by decide +kernel
theorem d_Fo_scope_54 : decode cc_Fo_scope 54 = .ok (.putfield 80, 3) := by decide +kernel
theorem d_Fo_scope_57 : decode cc_Fo_scope 57 = .ok (.iload 4, 2) := by decide +kernel
theorem d_Fo_scope_59 : decode cc_Fo_scope 59 = .ok (.ireturn, 1) := by decide +kernel
theorem d_Fo_writeFilled_0 : decode cc_Fo_writeFilled 0 = .ok (.aload_n 1, 1) := by decide +kernel
theorem d_Fo_writeFilled_1 : decode cc_Fo_writeFilled 1 = .ok (.getfield 93, 3) := by decide +kernel
theorem d_Fo_writeFilled_4 : decode cc_Fo_writeFilled 4 = .ok (.arraylength, 1) := by decide +kernel
theorem d_Fo_writeFilled_5 : decode cc_Fo_writeFilled 5 = .ok (.iconst 1, 1) := by decide +kernel
theorem d_Fo_writeFilled_6 : decode cc_Fo_writeFilled 6 = .ok (.if_icmp .ne 7, 3) := by decide +kernel
theorem d_Fo_writeFilled_9 : decode cc_Fo_writeFilled 9 = .ok (.iconst 1, 1) := by decide +kernel
theorem d_Fo_writeFilled_10 : decode cc_Fo_writeFilled 10 = .ok (.goto 4, 3) := by decide +kernel
theorem d_Fo_writeFilled_13 : decode cc_Fo_writeFilled 13 = .ok (.iconst 0, 1) := by decide +kernel
theorem d_Fo_writeFilled_14 : decode cc_Fo_writeFilled 14 = .ok (.istore 4, 2) := by decide +kernel
theorem d_Fo_writeFilled_16 : decode cc_Fo_writeFilled 16 = .ok (.iload 4, 2) := by decide +kernel
theorem d_Fo_writeFilled_18 : decode cc_Fo_writeFilled 18 = .ok (.ifCond .eq 7, 3) := by decide +kernel
theorem d_Fo_writeFilled_21 : decode cc_Fo_writeFilled 21 = .ok (.iconst 0, 1) := by decide +kernel
theorem d_Fo_writeFilled_22 : decode cc_Fo_writeFilled 22 = .ok (.goto 9, 3) := by decide +kernel
theorem d_Fo_writeFilled_25 : decode cc_Fo_writeFilled 25 = .ok (.aload_n 1, 1) := by decide +kernel
theorem d_Fo_writeFilled_26 : decode cc_Fo_writeFilled 26 = .ok (.getfield 93, 3) := by decide +kernel
theorem d_Fo_writeFilled_29 : decode cc_Fo_writeFilled 29 = .ok (.iload_n 2, 1) := by decide +kernel
theorem d_Fo_writeFilled_30 : decode cc_Fo_writeFilled 30 = .ok (.iaload, 1) := by decide +kernel
theorem d_Fo_writeFilled_31 : decode cc_Fo_writeFilled 31 = .ok (.istore 5, 2) := by decide +kernel
theorem d_Fo_writeFilled_33 : decode cc_Fo_writeFilled 33 = .ok (.iload 4, 2) := by decide +kernel
theorem d_Fo_writeFilled_35 : decode cc_Fo_writeFilled 35 = .ok (.ifCond .eq 10, 3) := by decide +kernel
theorem d_Fo_writeFilled_38 : decode cc_Fo_writeFilled 38 = .ok (.aload_n 1, 1) := by decide +kernel
theorem d_Fo_writeFilled_39 : decode cc_Fo_writeFilled 39 = .ok (.getfield 155, 3) := by decide +kernel
theorem d_Fo_writeFilled_42 : decode cc_Fo_writeFilled 42 = .ok (.goto 8, 3) := by decide +kernel
theorem d_Fo_writeFilled_45 : decode cc_Fo_writeFilled 45 = .ok (.aload_n 1, 1) := by decide +kernel
theorem d_Fo_writeFilled_46 : decode cc_Fo_writeFilled 46 = .ok (.iload_n 2, 1) := by decide +kernel
theorem d_Fo_writeFilled_47 : decode cc_Fo_writeFilled 47 = .ok (.invokevirtual 200, 3) := by decide +kernel
theorem d_Fo_writeFilled_50 : decode cc_Fo_writeFilled 50 = .ok (.istore 6, 2) := by decide +kernel
theorem d_Fo_writeFilled_52 : decode cc_Fo_writeFilled 52 = .ok (.iconst 0, 1) := by decide +kernel
theorem d_Fo_writeFilled_53 : decode cc_Fo_writeFilled 53 = .ok (.istore 7, 2) := by decide +kernel
theorem d_Fo_writeFilled_55 : decode cc_Fo_writeFilled 55 = .ok (.aload_n 0, 1) := by decide +kernel
theorem d_Fo_writeFilled_56 : decode cc_Fo_writeFilled 56 = .ok (.getfield 18, 3) := by decide +kernel
theorem d_Fo_writeFilled_59 : decode cc_Fo_writeFilled 59 = .ok (.iconst 0, 1) := by decide +kernel
theorem d_Fo_writeFilled_60 : decode cc_Fo_writeFilled 60 = .ok (.putfield 62, 3) := by decide +kernel
theorem d_Fo_writeFilled_63 : decode cc_Fo_writeFilled 63 = .ok (.iconst 0, 1) := by decide +kernel
theorem d_Fo_writeFilled_64 : decode cc_Fo_writeFilled 64 = .ok (.istore 8, 2) := by decide +kernel
theorem d_Fo_writeFilled_66 : decode cc_Fo_writeFilled 66 = .ok (.iload 8, 2) := by decide +kernel
theorem d_Fo_writeFilled_68 : decode cc_Fo_writeFilled 68 = .ok (.aload_n 1, 1) := by decide +kernel
theorem d_Fo_writeFilled_69 : decode cc_Fo_writeFilled 69 = .ok (.getfield 139, 3) := by decide +kernel
theorem d_Fo_writeFilled_72 : decode cc_Fo_writeFilled 72 = .ok (.arraylength, 1) := by decide +kernel
theorem d_Fo_writeFilled_73 : decode cc_Fo_writeFilled 73 = .ok (.if_icmp .ge 89, 3) := by decide +kernel
theorem d_Fo_writeFilled_76 : decode cc_Fo_writeFilled 76 = .ok (.iload 8, 2) := by decide +kernel
theorem d_Fo_writeFilled_78 : decode cc_Fo_writeFilled 78 = .ok (.iload 7, 2) := by decide +kernel
theorem d_Fo_writeFilled_80 : decode cc_Fo_writeFilled 80 = .ok (.if_icmp .lt 76, 3) := by decide +kernel
theorem d_Fo_writeFilled_83 : decode cc_Fo_writeFilled 83 = .ok (.iload 8, 2) := by decide +kernel
theorem d_Fo_writeFilled_85 : decode cc_Fo_writeFilled 85 = .ok (.iload 5, 2) := by decide +kernel
theorem d_Fo_writeFilled_87 : decode cc_Fo_writeFilled 87 = .ok (.if_icmp .lt 13, 3) := by decide +kernel
theorem d_Fo_writeFilled_90 : decode cc_Fo_writeFilled 90 = .ok (.iload 8, 2) := by decide +kernel
theorem d_Fo_writeFilled_92 : decode cc_Fo_writeFilled 92 = .ok (.iload 6, 2) := by decide +kernel
theorem d_Fo_writeFilled_94 : decode cc_Fo_writeFilled 94 = .ok (.if_icmp .ge 6, 3) := by decide +kernel
theorem d_Fo_writeFilled_97 : decode cc_Fo_writeFilled 97 = .ok (.goto 59, 3) := by decide +kernel
theorem d_Fo_writeFilled_100 : decode cc_Fo_writeFilled 100 = .ok (.aload_n 1, 1) := by decide +kernel
theorem d_Fo_writeFilled_101 : decode cc_Fo_writeFilled 101 = .ok (.iload 8, 2) := by decide +kernel
theorem d_Fo_writeFilled_103 : decode cc_Fo_writeFilled 103 = .ok (.invokevirtual 193, 3) := by decide +kernel
theorem d_Fo_writeFilled_106 : decode cc_Fo_writeFilled 106 = .ok (.iload_n 2, 1) := by decide +kernel
theorem d_Fo_writeFilled_107 : decode cc_Fo_writeFilled 107 = .ok (.if_icmp .ne 27, 3) := by decide +kernel
theorem d_Fo_writeFilled_110 : decode cc_Fo_writeFilled 110 = .ok (.aload_n 0, 1) := by decide +kernel
theorem d_Fo_writeFilled_111 : decode cc_Fo_writeFilled 111 = .ok (.getfield 18, 3) := by decide +kernel
theorem d_Fo_writeFilled_114 : decode cc_Fo_writeFilled 114 = .ok (.aload_n 3, 1) := by decide +kernel
theorem d_Fo_writeFilled_115 : decode cc_Fo_writeFilled 115 = .ok (.getfield 139, 3) := by decide +kernel
theorem d_Fo_writeFilled_118 : decode cc_Fo_writeFilled 118 = .ok (.invokevirtual 203, 3) := by decide +kernel
theorem d_Fo_writeFilled_121 : decode cc_Fo_writeFilled 121 = .ok (.istore 9, 2) := by decide +kernel
theorem d_Fo_writeFilled_123 : decode cc_Fo_writeFilled 123 = .ok (.aload_n 1, 1) := by decide +kernel
theorem d_Fo_writeFilled_124 : decode cc_Fo_writeFilled 124 = .ok (.iload 8, 2) := by decide +kernel
theorem d_Fo_writeFilled_126 : decode cc_Fo_writeFilled 126 = .ok (.invokevirtual 177, 3) := by decide +kernel
theorem d_Fo_writeFilled_129 : decode cc_Fo_writeFilled 129 = .ok (.istore 7, 2) := by decide +kernel
theorem d_Fo_writeFilled_131 : decode cc_Fo_writeFilled 131 = .ok (.goto 18, 3) := by decide +kernel
theorem d_Fo_writeFilled_134 : decode cc_Fo_writeFilled 134 = .ok (.aload_n 0, 1) := by decide +kernel
theorem d_Fo_writeFilled_135 : decode cc_Fo_writeFilled 135 = .ok (.getfield 18, 3) := by decide +kernel
theorem d_Fo_writeFilled_138 : decode cc_Fo_writeFilled 138 = .ok (.aload_n 1, 1) := by decide +kernel
theorem d_Fo_writeFilled_139 : decode cc_Fo_writeFilled 139 = .ok (.iload 8, 2) := by decide +kernel
theorem d_Fo_writeFilled_141 : decode cc_Fo_writeFilled 141 = .ok (.invokevirtual 161, 3) := by decide +kernel
theorem d_Fo_writeFilled_144 : decode cc_Fo_writeFilled 144 = .ok (.invokevirtual 58, 3) := by decide +kernel
theorem d_Fo_writeFilled_147 : decode cc_Fo_writeFilled 147 = .ok (.istore 9, 2) := by decide +kernel
theorem d_Fo_writeFilled_149 : decode cc_Fo_writeFilled 149 = .ok (.iload 9, 2) := by decide +kernel
theorem d_Fo_writeFilled_151 : decode cc_Fo_writeFilled 151 = .ok (.ifCond .ne 5, 3) := by decide +kernel
theorem d_Fo_writeFilled_154 : decode cc_Fo_writeFilled 154 = .ok (.iconst 0, 1) := by decide +kernel
theorem d_Fo_writeFilled_155 : decode cc_Fo_writeFilled 155 = .ok (.ireturn, 1) := by decide +kernel
theorem d_Fo_writeFilled_156 : decode cc_Fo_writeFilled 156 = .ok (.iinc 8 1, 3) := by decide +kernel
theorem d_Fo_writeFilled_159 : decode cc_Fo_writeFilled 159 = .ok (.goto (-93), 3) := by decide +kernel
theorem d_Fo_writeFilled_162 : decode cc_Fo_writeFilled 162 = .ok (.iconst 1, 1) := by decide +kernel
theorem d_Fo_writeFilled_163 : decode cc_Fo_writeFilled 163 = .ok (.ireturn, 1) := by decide +kernel
theorem d_Fo_keep_0 : decode cc_Fo_keep 0 = .ok (.aload_n 0, 1) := by decide +kernel
theorem d_Fo_keep_1 : decode cc_Fo_keep 1 = .ok (.getfield 130, 3) := by decide +kernel
theorem d_Fo_keep_4 : decode cc_Fo_keep 4 = .ok (.bipush 24, 2) := by decide +kernel
theorem d_Fo_keep_6 : decode cc_Fo_keep 6 = .ok (.if_icmp .lt 6, 3) := by decide +kernel
theorem d_Fo_keep_9 : decode cc_Fo_keep 9 = .ok (.bipush (-100), 2) := by decide +kernel
theorem d_Fo_keep_11 : decode cc_Fo_keep 11 = .ok (.ireturn, 1) := by decide +kernel
theorem d_Fo_keep_12 : decode cc_Fo_keep 12 = .ok (.aload_n 0, 1) := by decide +kernel
theorem d_Fo_keep_13 : decode cc_Fo_keep 13 = .ok (.getfield 54, 3) := by decide +kernel
theorem d_Fo_keep_16 : decode cc_Fo_keep 16 = .ok (.aload_n 0, 1) := by decide +kernel
theorem d_Fo_keep_17 : decode cc_Fo_keep 17 = .ok (.getfield 130, 3) := by decide +kernel
theorem d_Fo_keep_20 : decode cc_Fo_keep 20 = .ok (.new 52, 3) := by decide +kernel
theorem d_Fo_keep_23 : decode cc_Fo_keep 23 = .ok (.dup, 1) := by decide +kernel
theorem d_Fo_keep_24 : decode cc_Fo_keep 24 = .ok (.aload_n 1, 1) := by decide +kernel
theorem d_Fo_keep_25 : decode cc_Fo_keep 25 = .ok (.aload_n 0, 1) := by decide +kernel
theorem d_Fo_keep_26 : decode cc_Fo_keep 26 = .ok (.getfield 24, 3) := by decide +kernel
theorem d_Fo_keep_29 : decode cc_Fo_keep 29 = .ok (.iload_n 2, 1) := by decide +kernel
theorem d_Fo_keep_30 : decode cc_Fo_keep 30 = .ok (.invokespecial 133, 3) := by decide +kernel
theorem d_Fo_keep_33 : decode cc_Fo_keep 33 = .ok (.aastore, 1) := by decide +kernel
theorem d_Fo_keep_34 : decode cc_Fo_keep 34 = .ok (.aload_n 0, 1) := by decide +kernel
theorem d_Fo_keep_35 : decode cc_Fo_keep 35 = .ok (.dup, 1) := by decide +kernel
theorem d_Fo_keep_36 : decode cc_Fo_keep 36 = .ok (.getfield 130, 3) := by decide +kernel
theorem d_Fo_keep_39 : decode cc_Fo_keep 39 = .ok (.iconst 1, 1) := by decide +kernel
theorem d_Fo_keep_40 : decode cc_Fo_keep 40 = .ok (.iadd, 1) := by decide +kernel
theorem d_Fo_keep_41 : decode cc_Fo_keep 41 = .ok (.putfield 130, 3) := by decide +kernel
theorem d_Fo_keep_44 : decode cc_Fo_keep 44 = .ok (.aload_n 0, 1) := by decide +kernel
theorem d_Fo_keep_45 : decode cc_Fo_keep 45 = .ok (.getfield 130, 3) := by decide +kernel
theorem d_Fo_keep_48 : decode cc_Fo_keep 48 = .ok (.iconst 1, 1) := by decide +kernel
theorem d_Fo_keep_49 : decode cc_Fo_keep 49 = .ok (.isub, 1) := by decide +kernel
theorem d_Fo_keep_50 : decode cc_Fo_keep 50 = .ok (.ireturn, 1) := by decide +kernel
theorem d_Fo_read_0 : decode cc_Fo_read 0 = .ok (.iload_n 1, 1) := by decide +kernel
theorem d_Fo_read_1 : decode cc_Fo_read 1 = .ok (.ifCond .lt 8, 3) := by decide +kernel
theorem d_Fo_read_4 : decode cc_Fo_read 4 = .ok (.iload_n 1, 1) := by decide +kernel
theorem d_Fo_read_5 : decode cc_Fo_read 5 = .ok (.iconst 2, 1) := by decide +kernel
theorem d_Fo_read_6 : decode cc_Fo_read 6 = .ok (.if_icmp .le 6, 3) := by decide +kernel
theorem d_Fo_read_9 : decode cc_Fo_read 9 = .ok (.bipush (-100), 2) := by decide +kernel
theorem d_Fo_read_11 : decode cc_Fo_read 11 = .ok (.ireturn, 1) := by decide +kernel
theorem d_Fo_read_12 : decode cc_Fo_read 12 = .ok (.aload_n 0, 1) := by decide +kernel
theorem d_Fo_read_13 : decode cc_Fo_read 13 = .ok (.getfield 24, 3) := by decide +kernel
theorem d_Fo_read_16 : decode cc_Fo_read 16 = .ok (.aload_n 0, 1) := by decide +kernel
theorem d_Fo_read_17 : decode cc_Fo_read 17 = .ok (.getfield 14, 3) := by decide +kernel
theorem d_Fo_read_20 : decode cc_Fo_read 20 = .ok (.iload_n 1, 1) := by decide +kernel
theorem d_Fo_read_21 : decode cc_Fo_read 21 = .ok (.invokevirtual 66, 3) := by decide +kernel
theorem d_Fo_read_24 : decode cc_Fo_read 24 = .ok (.istore_n 2, 1) := by decide +kernel
theorem d_Fo_read_25 : decode cc_Fo_read 25 = .ok (.iload_n 2, 1) := by decide +kernel
theorem d_Fo_read_26 : decode cc_Fo_read 26 = .ok (.iconst (-1), 1) := by decide +kernel
theorem d_Fo_read_27 : decode cc_Fo_read 27 = .ok (.if_icmp .eq 7, 3) := by decide +kernel
theorem d_Fo_read_30 : decode cc_Fo_read 30 = .ok (.iconst (-1), 1) := by decide +kernel
theorem d_Fo_read_31 : decode cc_Fo_read 31 = .ok (.iload_n 2, 1) := by decide +kernel
theorem d_Fo_read_32 : decode cc_Fo_read 32 = .ok (.isub, 1) := by decide +kernel
theorem d_Fo_read_33 : decode cc_Fo_read 33 = .ok (.ireturn, 1) := by decide +kernel
theorem d_Fo_read_34 : decode cc_Fo_read 34 = .ok (.aload_n 0, 1) := by decide +kernel
theorem d_Fo_read_35 : decode cc_Fo_read 35 = .ok (.aload_n 0, 1) := by decide +kernel
theorem d_Fo_read_36 : decode cc_Fo_read 36 = .ok (.getfield 14, 3) := by decide +kernel
theorem d_Fo_read_39 : decode cc_Fo_read 39 = .ok (.iconst (-1), 1) := by decide +kernel
theorem d_Fo_read_40 : decode cc_Fo_read 40 = .ok (.invokevirtual 70, 3) := by decide +kernel
theorem d_Fo_read_43 : decode cc_Fo_read 43 = .ok (.istore_n 3, 1) := by decide +kernel
theorem d_Fo_read_44 : decode cc_Fo_read 44 = .ok (.iload_n 3, 1) := by decide +kernel
theorem d_Fo_read_45 : decode cc_Fo_read 45 = .ok (.bipush (-100), 2) := by decide +kernel
theorem d_Fo_read_47 : decode cc_Fo_read 47 = .ok (.if_icmp .eq 11, 3) := by decide +kernel
theorem d_Fo_read_50 : decode cc_Fo_read 50 = .ok (.aload_n 0, 1) := by decide +kernel
theorem d_Fo_read_51 : decode cc_Fo_read 51 = .ok (.getfield 14, 3) := by decide +kernel
theorem d_Fo_read_54 : decode cc_Fo_read 54 = .ok (.iconst 0, 1) := by decide +kernel
theorem d_Fo_read_55 : decode cc_Fo_read 55 = .ok (.putfield 62, 3) := by decide +kernel
theorem d_Fo_read_58 : decode cc_Fo_read 58 = .ok (.iload_n 3, 1) := by decide +kernel
theorem d_Fo_read_59 : decode cc_Fo_read 59 = .ok (.ireturn, 1) := by decide +kernel
theorem d_Fo_fill_0 : decode cc_Fo_fill 0 = .ok (.aload_n 0, 1) := by decide +kernel
theorem d_Fo_fill_1 : decode cc_Fo_fill 1 = .ok (.iload_n 1, 1) := by decide +kernel
theorem d_Fo_fill_2 : decode cc_Fo_fill 2 = .ok (.invokevirtual 73, 3) := by decide +kernel
theorem d_Fo_fill_5 : decode cc_Fo_fill 5 = .ok (.astore 4, 2) := by decide +kernel
theorem d_Fo_fill_7 : decode cc_Fo_fill 7 = .ok (.aload_n 0, 1) := by decide +kernel
theorem d_Fo_fill_8 : decode cc_Fo_fill 8 = .ok (.iload_n 3, 1) := by decide +kernel
theorem d_Fo_fill_9 : decode cc_Fo_fill 9 = .ok (.invokevirtual 73, 3) := by decide +kernel
theorem d_Fo_fill_12 : decode cc_Fo_fill 12 = .ok (.astore 5, 2) := by decide +kernel
theorem d_Fo_fill_14 : decode cc_Fo_fill 14 = .ok (.aload 4, 2) := by decide +kernel
theorem d_Fo_fill_16 : decode cc_Fo_fill 16 = .ok (.ifnull 8, 3) := by decide +kernel
theorem d_Fo_fill_19 : decode cc_Fo_fill 19 = .ok (.aload 5, 2) := by decide +kernel
theorem d_Fo_fill_21 : decode cc_Fo_fill 21 = .ok (.ifnonnull 6, 3) := by decide +kernel
theorem d_Fo_fill_24 : decode cc_Fo_fill 24 = .ok (.bipush (-100), 2) := by decide +kernel
theorem d_Fo_fill_26 : decode cc_Fo_fill 26 = .ok (.ireturn, 1) := by decide +kernel
theorem d_Fo_fill_27 : decode cc_Fo_fill 27 = .ok (.aload 4, 2) := by decide +kernel
theorem d_Fo_fill_29 : decode cc_Fo_fill 29 = .ok (.iload_n 2, 1) := by decide +kernel
theorem d_Fo_fill_30 : decode cc_Fo_fill 30 = .ok (.invokevirtual 104, 3) := by decide +kernel
theorem d_Fo_fill_33 : decode cc_Fo_fill 33 = .ok (.ifCond .eq 24, 3) := by decide +kernel
theorem d_Fo_fill_36 : decode cc_Fo_fill 36 = .ok (.aload 5, 2) := by decide +kernel
theorem d_Fo_fill_38 : decode cc_Fo_fill 38 = .ok (.getfield 77, 3) := by decide +kernel
theorem d_Fo_fill_41 : decode cc_Fo_fill 41 = .ok (.iconst 2, 1) := by decide +kernel
theorem d_Fo_fill_42 : decode cc_Fo_fill 42 = .ok (.if_icmp .ne 15, 3) := by decide +kernel
theorem d_Fo_fill_45 : decode cc_Fo_fill 45 = .ok (.aload_n 0, 1) := by decide +kernel
theorem d_Fo_fill_46 : decode cc_Fo_fill 46 = .ok (.aload 4, 2) := by decide +kernel
theorem d_Fo_fill_48 : decode cc_Fo_fill 48 = .ok (.iload_n 2, 1) := by decide +kernel
theorem d_Fo_fill_49 : decode cc_Fo_fill 49 = .ok (.aload 5, 2) := by decide +kernel
theorem d_Fo_fill_51 : decode cc_Fo_fill 51 = .ok (.invokevirtual 108, 3) := by decide +kernel
theorem d_Fo_fill_54 : decode cc_Fo_fill 54 = .ok (.ifCond .ne 6, 3) := by decide +kernel
theorem d_Fo_fill_57 : decode cc_Fo_fill 57 = .ok (.bipush (-100), 2) := by decide +kernel
theorem d_Fo_fill_59 : decode cc_Fo_fill 59 = .ok (.ireturn, 1) := by decide +kernel
theorem d_Fo_fill_60 : decode cc_Fo_fill 60 = .ok (.aload_n 0, 1) := by decide +kernel
theorem d_Fo_fill_61 : decode cc_Fo_fill 61 = .ok (.getfield 24, 3) := by decide +kernel
theorem d_Fo_fill_64 : decode cc_Fo_fill 64 = .ok (.aload_n 0, 1) := by decide +kernel
theorem d_Fo_fill_65 : decode cc_Fo_fill 65 = .ok (.getfield 18, 3) := by decide +kernel
theorem d_Fo_fill_68 : decode cc_Fo_fill 68 = .ok (.aload 4, 2) := by decide +kernel
theorem d_Fo_fill_70 : decode cc_Fo_fill 70 = .ok (.getfield 77, 3) := by decide +kernel
theorem d_Fo_fill_73 : decode cc_Fo_fill 73 = .ok (.invokevirtual 66, 3) := by decide +kernel
theorem d_Fo_fill_76 : decode cc_Fo_fill 76 = .ok (.iconst (-1), 1) := by decide +kernel
theorem d_Fo_fill_77 : decode cc_Fo_fill 77 = .ok (.if_icmp .eq 6, 3) := by decide +kernel
theorem d_Fo_fill_80 : decode cc_Fo_fill 80 = .ok (.bipush (-100), 2) := by decide +kernel
theorem d_Fo_fill_82 : decode cc_Fo_fill 82 = .ok (.ireturn, 1) := by decide +kernel
theorem d_Fo_fill_83 : decode cc_Fo_fill 83 = .ok (.aload_n 0, 1) := by decide +kernel
theorem d_Fo_fill_84 : decode cc_Fo_fill 84 = .ok (.aload_n 0, 1) := by decide +kernel
theorem d_Fo_fill_85 : decode cc_Fo_fill 85 = .ok (.getfield 18, 3) := by decide +kernel
theorem d_Fo_fill_88 : decode cc_Fo_fill 88 = .ok (.aload 4, 2) := by decide +kernel
theorem d_Fo_fill_90 : decode cc_Fo_fill 90 = .ok (.getfield 80, 3) := by decide +kernel
theorem d_Fo_fill_93 : decode cc_Fo_fill 93 = .ok (.invokevirtual 70, 3) := by decide +kernel
theorem d_Fo_fill_96 : decode cc_Fo_fill 96 = .ok (.ireturn, 1) := by decide +kernel
theorem d_Fo_init_0 : decode cc_Fo_init 0 = .ok (.aload_n 0, 1) := by decide +kernel
theorem d_Fo_init_1 : decode cc_Fo_init 1 = .ok (.invokespecial 1, 3) := by decide +kernel
theorem d_Fo_init_4 : decode cc_Fo_init 4 = .ok (.aload_n 0, 1) := by decide +kernel
theorem d_Fo_init_5 : decode cc_Fo_init 5 = .ok (.new 7, 3) := by decide +kernel
theorem d_Fo_init_8 : decode cc_Fo_init 8 = .ok (.dup, 1) := by decide +kernel
theorem d_Fo_init_9 : decode cc_Fo_init 9 = .ok (.bipush 40, 2) := by decide +kernel
theorem d_Fo_init_11 : decode cc_Fo_init 11 = .ok (.invokespecial 11, 3) := by decide +kernel
theorem d_Fo_init_14 : decode cc_Fo_init 14 = .ok (.putfield 14, 3) := by decide +kernel
theorem d_Fo_init_17 : decode cc_Fo_init 17 = .ok (.aload_n 0, 1) := by decide +kernel
theorem d_Fo_init_18 : decode cc_Fo_init 18 = .ok (.new 7, 3) := by decide +kernel
theorem d_Fo_init_21 : decode cc_Fo_init 21 = .ok (.dup, 1) := by decide +kernel
theorem d_Fo_init_22 : decode cc_Fo_init 22 = .ok (.bipush 120, 2) := by decide +kernel
theorem d_Fo_init_24 : decode cc_Fo_init 24 = .ok (.invokespecial 11, 3) := by decide +kernel
theorem d_Fo_init_27 : decode cc_Fo_init 27 = .ok (.putfield 18, 3) := by decide +kernel
theorem d_Fo_init_30 : decode cc_Fo_init 30 = .ok (.aload_n 0, 1) := by decide +kernel
theorem d_Fo_init_31 : decode cc_Fo_init 31 = .ok (.new 21, 3) := by decide +kernel
theorem d_Fo_init_34 : decode cc_Fo_init 34 = .ok (.dup, 1) := by decide +kernel
theorem d_Fo_init_35 : decode cc_Fo_init 35 = .ok (.invokespecial 23, 3) := by decide +kernel
theorem d_Fo_init_38 : decode cc_Fo_init 38 = .ok (.putfield 24, 3) := by decide +kernel
theorem d_Fo_init_41 : decode cc_Fo_init 41 = .ok (.aload_n 0, 1) := by decide +kernel
theorem d_Fo_init_42 : decode cc_Fo_init 42 = .ok (.new 28, 3) := by decide +kernel
theorem d_Fo_init_45 : decode cc_Fo_init 45 = .ok (.dup, 1) := by decide +kernel
theorem d_Fo_init_46 : decode cc_Fo_init 46 = .ok (.invokespecial 30, 3) := by decide +kernel
theorem d_Fo_init_49 : decode cc_Fo_init 49 = .ok (.putfield 31, 3) := by decide +kernel
theorem d_Fo_init_52 : decode cc_Fo_init 52 = .ok (.aload_n 0, 1) := by decide +kernel
theorem d_Fo_init_53 : decode cc_Fo_init 53 = .ok (.new 35, 3) := by decide +kernel
theorem d_Fo_init_56 : decode cc_Fo_init 56 = .ok (.dup, 1) := by decide +kernel
theorem d_Fo_init_57 : decode cc_Fo_init 57 = .ok (.invokespecial 37, 3) := by decide +kernel
theorem d_Fo_init_60 : decode cc_Fo_init 60 = .ok (.putfield 38, 3) := by decide +kernel
theorem d_Fo_init_63 : decode cc_Fo_init 63 = .ok (.aload_n 0, 1) := by decide +kernel
theorem d_Fo_init_64 : decode cc_Fo_init 64 = .ok (.new 42, 3) := by decide +kernel
theorem d_Fo_init_67 : decode cc_Fo_init 67 = .ok (.dup, 1) := by decide +kernel
theorem d_Fo_init_68 : decode cc_Fo_init 68 = .ok (.invokespecial 44, 3) := by decide +kernel
theorem d_Fo_init_71 : decode cc_Fo_init 71 = .ok (.putfield 45, 3) := by decide +kernel
theorem d_Fo_init_74 : decode cc_Fo_init 74 = .ok (.aload_n 0, 1) := by decide +kernel
theorem d_Fo_init_75 : decode cc_Fo_init 75 = .ok (.new 42, 3) := by decide +kernel
theorem d_Fo_init_78 : decode cc_Fo_init 78 = .ok (.dup, 1) := by decide +kernel
theorem d_Fo_init_79 : decode cc_Fo_init 79 = .ok (.invokespecial 44, 3) := by decide +kernel
theorem d_Fo_init_82 : decode cc_Fo_init 82 = .ok (.putfield 49, 3) := by decide +kernel
theorem d_Fo_init_85 : decode cc_Fo_init 85 = .ok (.aload_n 0, 1) := by decide +kernel
theorem d_Fo_init_86 : decode cc_Fo_init 86 = .ok (.bipush 24, 2) := by decide +kernel
theorem d_Fo_init_88 : decode cc_Fo_init 88 = .ok (.anewarray 52, 3) := by decide +kernel
theorem d_Fo_init_91 : decode cc_Fo_init 91 = .ok (.putfield 54, 3) := by decide +kernel
theorem d_Fo_init_94 : decode cc_Fo_init 94 = .ok (.return_, 1) := by decide +kernel
theorem d_Mo_type_0 : decode cc_Mo_type 0 = .ok (.iload_n 1, 1) := by decide +kernel
theorem d_Mo_type_1 : decode cc_Mo_type 1 = .ok (.bipush 33, 2) := by decide +kernel
theorem d_Mo_type_3 : decode cc_Mo_type 3 = .ok (.if_icmp .lt 18, 3) := by decide +kernel
theorem d_Mo_type_6 : decode cc_Mo_type 6 = .ok (.iload_n 1, 1) := by decide +kernel
theorem d_Mo_type_7 : decode cc_Mo_type 7 = .ok (.bipush 126, 2) := by decide +kernel
theorem d_Mo_type_9 : decode cc_Mo_type 9 = .ok (.if_icmp .gt 12, 3) := by decide +kernel
theorem d_Mo_type_12 : decode cc_Mo_type 12 = .ok (.aload_n 0, 1) := by decide +kernel
theorem d_Mo_type_13 : decode cc_Mo_type 13 = .ok (.getfield 56, 3) := by decide +kernel
theorem d_Mo_type_16 : decode cc_Mo_type 16 = .ok (.bipush 40, 2) := by decide +kernel
theorem d_Mo_type_18 : decode cc_Mo_type 18 = .ok (.if_icmp .ne 6, 3) := by decide +kernel
theorem d_Mo_type_21 : decode cc_Mo_type 21 = .ok (.bipush (-100), 2) := by decide +kernel
theorem d_Mo_type_23 : decode cc_Mo_type 23 = .ok (.ireturn, 1) := by decide +kernel
theorem d_Mo_type_24 : decode cc_Mo_type 24 = .ok (.aload_n 0, 1) := by decide +kernel
theorem d_Mo_type_25 : decode cc_Mo_type 25 = .ok (.getfield 7, 3) := by decide +kernel
theorem d_Mo_type_28 : decode cc_Mo_type 28 = .ok (.aload_n 0, 1) := by decide +kernel
theorem d_Mo_type_29 : decode cc_Mo_type 29 = .ok (.getfield 56, 3) := by decide +kernel
theorem d_Mo_type_32 : decode cc_Mo_type 32 = .ok (.iload_n 1, 1) := by decide +kernel
theorem d_Mo_type_33 : decode cc_Mo_type 33 = .ok (.iastore, 1) := by decide +kernel
theorem d_Mo_type_34 : decode cc_Mo_type 34 = .ok (.aload_n 0, 1) := by decide +kernel
theorem d_Mo_type_35 : decode cc_Mo_type 35 = .ok (.dup, 1) := by decide +kernel
theorem d_Mo_type_36 : decode cc_Mo_type 36 = .ok (.getfield 56, 3) := by decide +kernel
theorem d_Mo_type_39 : decode cc_Mo_type 39 = .ok (.iconst 1, 1) := by decide +kernel
theorem d_Mo_type_40 : decode cc_Mo_type 40 = .ok (.iadd, 1) := by decide +kernel
theorem d_Mo_type_41 : decode cc_Mo_type 41 = .ok (.putfield 56, 3) := by decide +kernel
theorem d_Mo_type_44 : decode cc_Mo_type 44 = .ok (.aload_n 0, 1) := by decide +kernel
theorem d_Mo_type_45 : decode cc_Mo_type 45 = .ok (.getfield 56, 3) := by decide +kernel
theorem d_Mo_type_48 : decode cc_Mo_type 48 = .ok (.ireturn, 1) := by decide +kernel
theorem d_Mo_clear_0 : decode cc_Mo_clear 0 = .ok (.aload_n 0, 1) := by decide +kernel
theorem d_Mo_clear_1 : decode cc_Mo_clear 1 = .ok (.iconst 0, 1) := by decide +kernel
theorem d_Mo_clear_2 : decode cc_Mo_clear 2 = .ok (.putfield 56, 3) := by decide +kernel
theorem d_Mo_clear_5 : decode cc_Mo_clear 5 = .ok (.return_, 1) := by decide +kernel
theorem d_Mo_at_0 : decode cc_Mo_at 0 = .ok (.aload_n 0, 1) := by decide +kernel
theorem d_Mo_at_1 : decode cc_Mo_at 1 = .ok (.getfield 13, 3) := by decide +kernel
theorem d_Mo_at_4 : decode cc_Mo_at 4 = .ok (.bipush 120, 2) := by decide +kernel
theorem d_Mo_at_6 : decode cc_Mo_at 6 = .ok (.iload_n 1, 1) := by decide +kernel
theorem d_Mo_at_7 : decode cc_Mo_at 7 = .ok (.imul, 1) := by decide +kernel
theorem d_Mo_at_8 : decode cc_Mo_at 8 = .ok (.iload_n 2, 1) := by decide +kernel
theorem d_Mo_at_9 : decode cc_Mo_at 9 = .ok (.iadd, 1) := by decide +kernel
theorem d_Mo_at_10 : decode cc_Mo_at 10 = .ok (.iaload, 1) := by decide +kernel
theorem d_Mo_at_11 : decode cc_Mo_at 11 = .ok (.ireturn, 1) := by decide +kernel
theorem d_Mo_go_0 : decode cc_Mo_go 0 = .ok (.aload_n 0, 1) := by decide +kernel
theorem d_Mo_go_1 : decode cc_Mo_go 1 = .ok (.getfield 43, 3) := by decide +kernel
theorem d_Mo_go_4 : decode cc_Mo_go 4 = .ok (.aload_n 0, 1) := by decide +kernel
theorem d_Mo_go_5 : decode cc_Mo_go 5 = .ok (.getfield 60, 3) := by decide +kernel
theorem d_Mo_go_8 : decode cc_Mo_go 8 = .ok (.iload_n 1, 1) := by decide +kernel
theorem d_Mo_go_9 : decode cc_Mo_go 9 = .ok (.iastore, 1) := by decide +kernel
theorem d_Mo_go_10 : decode cc_Mo_go 10 = .ok (.iload_n 2, 1) := by decide +kernel
theorem d_Mo_go_11 : decode cc_Mo_go 11 = .ok (.ireturn, 1) := by decide +kernel
theorem d_Mo_push_0 : decode cc_Mo_push 0 = .ok (.aload_n 0, 1) := by decide +kernel
theorem d_Mo_push_1 : decode cc_Mo_push 1 = .ok (.getfield 43, 3) := by decide +kernel
theorem d_Mo_push_4 : decode cc_Mo_push 4 = .ok (.aload_n 0, 1) := by decide +kernel
theorem d_Mo_push_5 : decode cc_Mo_push 5 = .ok (.getfield 60, 3) := by decide +kernel
theorem d_Mo_push_8 : decode cc_Mo_push 8 = .ok (.iload_n 1, 1) := by decide +kernel
theorem d_Mo_push_9 : decode cc_Mo_push 9 = .ok (.iastore, 1) := by decide +kernel
theorem d_Mo_push_10 : decode cc_Mo_push 10 = .ok (.aload_n 0, 1) := by decide +kernel
theorem d_Mo_push_11 : decode cc_Mo_push 11 = .ok (.dup, 1) := by decide +kernel
theorem d_Mo_push_12 : decode cc_Mo_push 12 = .ok (.getfield 60, 3) := by decide +kernel
theorem d_Mo_push_15 : decode cc_Mo_push 15 = .ok (.iconst 1, 1) := by decide +kernel
theorem d_Mo_push_16 : decode cc_Mo_push 16 = .ok (.iadd, 1) := by decide +kernel
theorem d_Mo_push_17 : decode cc_Mo_push 17 = .ok (.putfield 60, 3) := by decide +kernel
theorem d_Mo_push_20 : decode cc_Mo_push 20 = .ok (.aload_n 0, 1) := by decide +kernel
theorem d_Mo_push_21 : decode cc_Mo_push 21 = .ok (.getfield 43, 3) := by decide +kernel
theorem d_Mo_push_24 : decode cc_Mo_push 24 = .ok (.aload_n 0, 1) := by decide +kernel
theorem d_Mo_push_25 : decode cc_Mo_push 25 = .ok (.getfield 60, 3) := by decide +kernel
theorem d_Mo_push_28 : decode cc_Mo_push 28 = .ok (.iload_n 2, 1) := by decide +kernel
theorem d_Mo_push_29 : decode cc_Mo_push 29 = .ok (.iastore, 1) := by decide +kernel
theorem d_Mo_push_30 : decode cc_Mo_push 30 = .ok (.iload_n 3, 1) := by decide +kernel
theorem d_Mo_push_31 : decode cc_Mo_push 31 = .ok (.ireturn, 1) := by decide +kernel
theorem d_Mo_base_0 : decode cc_Mo_base 0 = .ok (.iload_n 0, 1) := by decide +kernel
theorem d_Mo_base_1 : decode cc_Mo_base 1 = .ok (.bipush 66, 2) := by decide +kernel
theorem d_Mo_base_3 : decode cc_Mo_base 3 = .ok (.if_icmp .eq 45, 3) := by decide +kernel
theorem d_Mo_base_6 : decode cc_Mo_base 6 = .ok (.iload_n 0, 1) := by decide +kernel
theorem d_Mo_base_7 : decode cc_Mo_base 7 = .ok (.bipush 67, 2) := by decide +kernel
theorem d_Mo_base_9 : decode cc_Mo_base 9 = .ok (.if_icmp .eq 39, 3) := by decide +kernel
theorem d_Mo_base_12 : decode cc_Mo_base 12 = .ok (.iload_n 0, 1) := by decide +kernel
theorem d_Mo_base_13 : decode cc_Mo_base 13 = .ok (.bipush 68, 2) := by decide +kernel
theorem d_Mo_base_15 : decode cc_Mo_base 15 = .ok (.if_icmp .eq 33, 3) := by decide +kernel
theorem d_Mo_base_18 : decode cc_Mo_base 18 = .ok (.iload_n 0, 1) := by decide +kernel
theorem d_Mo_base_19 : decode cc_Mo_base 19 = .ok (.bipush 70, 2) := by decide +kernel
theorem d_Mo_base_21 : decode cc_Mo_base 21 = .ok (.if_icmp .eq 27, 3) := by decide +kernel
theorem d_Mo_base_24 : decode cc_Mo_base 24 = .ok (.iload_n 0, 1) := by decide +kernel
theorem d_Mo_base_25 : decode cc_Mo_base 25 = .ok (.bipush 73, 2) := by decide +kernel
theorem d_Mo_base_27 : decode cc_Mo_base 27 = .ok (.if_icmp .eq 21, 3) := by decide +kernel
theorem d_Mo_base_30 : decode cc_Mo_base 30 = .ok (.iload_n 0, 1) := by decide +kernel
theorem d_Mo_base_31 : decode cc_Mo_base 31 = .ok (.bipush 74, 2) := by decide +kernel
theorem d_Mo_base_33 : decode cc_Mo_base 33 = .ok (.if_icmp .eq 15, 3) := by decide +kernel
theorem d_Mo_base_36 : decode cc_Mo_base 36 = .ok (.iload_n 0, 1) := by decide +kernel
theorem d_Mo_base_37 : decode cc_Mo_base 37 = .ok (.bipush 83, 2) := by decide +kernel
theorem d_Mo_base_39 : decode cc_Mo_base 39 = .ok (.if_icmp .eq 9, 3) := by decide +kernel
theorem d_Mo_base_42 : decode cc_Mo_base 42 = .ok (.iload_n 0, 1) := by decide +kernel
theorem d_Mo_base_43 : decode cc_Mo_base 43 = .ok (.bipush 90, 2) := by decide +kernel
theorem d_Mo_base_45 : decode cc_Mo_base 45 = .ok (.if_icmp .ne 7, 3) := by decide +kernel
theorem d_Mo_base_48 : decode cc_Mo_base 48 = .ok (.iconst 1, 1) := by decide +kernel
theorem d_Mo_base_49 : decode cc_Mo_base 49 = .ok (.goto 4, 3) := by decide +kernel
theorem d_Mo_base_52 : decode cc_Mo_base 52 = .ok (.iconst 0, 1) := by decide +kernel
theorem d_Mo_base_53 : decode cc_Mo_base 53 = .ok (.ireturn, 1) := by decide +kernel
theorem d_Mo_pop_0 : decode cc_Mo_pop 0 = .ok (.aload_n 0, 1) := by decide +kernel
theorem d_Mo_pop_1 : decode cc_Mo_pop 1 = .ok (.dup, 1) := by decide +kernel
theorem d_Mo_pop_2 : decode cc_Mo_pop 2 = .ok (.getfield 60, 3) := by decide +kernel
theorem d_Mo_pop_5 : decode cc_Mo_pop 5 = .ok (.iconst 1, 1) := by decide +kernel
theorem d_Mo_pop_6 : decode cc_Mo_pop 6 = .ok (.isub, 1) := by decide +kernel
theorem d_Mo_pop_7 : decode cc_Mo_pop 7 = .ok (.putfield 60, 3) := by decide +kernel
theorem d_Mo_pop_10 : decode cc_Mo_pop 10 = .ok (.iload_n 1, 1) := by decide +kernel
theorem d_Mo_pop_11 : decode cc_Mo_pop 11 = .ok (.ireturn, 1) := by decide +kernel
theorem d_Mo_start_0 : decode cc_Mo_start 0 = .ok (.iload_n 1, 1) := by decide +kernel
theorem d_Mo_start_1 : decode cc_Mo_start 1 = .ok (.iconst 1, 1) := by decide +kernel
theorem d_Mo_start_2 : decode cc_Mo_start 2 = .ok (.if_icmp .ne 16, 3) := by decide +kernel
theorem d_Mo_start_5 : decode cc_Mo_start 5 = .ok (.iload_n 2, 1) := by decide +kernel
theorem d_Mo_start_6 : decode cc_Mo_start 6 = .ok (.invokestatic 94, 3) := by decide +kernel
theorem d_Mo_start_9 : decode cc_Mo_start 9 = .ok (.ifCond .eq 9, 3) := by decide +kernel
theorem d_Mo_start_12 : decode cc_Mo_start 12 = .ok (.aload_n 0, 1) := by decide +kernel
theorem d_Mo_start_13 : decode cc_Mo_start 13 = .ok (.iconst 4, 1) := by decide +kernel
theorem d_Mo_start_14 : decode cc_Mo_start 14 = .ok (.invokevirtual 80, 3) := by decide +kernel
theorem d_Mo_start_17 : decode cc_Mo_start 17 = .ok (.ireturn, 1) := by decide +kernel
theorem d_Mo_start_18 : decode cc_Mo_start 18 = .ok (.iload_n 2, 1) := by decide +kernel
theorem d_Mo_start_19 : decode cc_Mo_start 19 = .ok (.bipush 76, 2) := by decide +kernel
theorem d_Mo_start_21 : decode cc_Mo_start 21 = .ok (.if_icmp .ne 10, 3) := by decide +kernel
theorem d_Mo_start_24 : decode cc_Mo_start 24 = .ok (.aload_n 0, 1) := by decide +kernel
theorem d_Mo_start_25 : decode cc_Mo_start 25 = .ok (.iconst 5, 1) := by decide +kernel
theorem d_Mo_start_26 : decode cc_Mo_start 26 = .ok (.iconst 1, 1) := by decide +kernel
theorem d_Mo_start_27 : decode cc_Mo_start 27 = .ok (.invokevirtual 77, 3) := by decide +kernel
theorem d_Mo_start_30 : decode cc_Mo_start 30 = .ok (.ireturn, 1) := by decide +kernel
theorem d_Mo_start_31 : decode cc_Mo_start 31 = .ok (.iload_n 2, 1) := by decide +kernel
theorem d_Mo_start_32 : decode cc_Mo_start 32 = .ok (.bipush 84, 2) := by decide +kernel
theorem d_Mo_start_34 : decode cc_Mo_start 34 = .ok (.if_icmp .ne 16, 3) := by decide +kernel
theorem d_Mo_start_37 : decode cc_Mo_start 37 = .ok (.iload_n 1, 1) := by decide +kernel
theorem d_Mo_start_38 : decode cc_Mo_start 38 = .ok (.iconst 3, 1) := by decide +kernel
theorem d_Mo_start_39 : decode cc_Mo_start 39 = .ok (.if_icmp .eq 11, 3) := by decide +kernel
theorem d_Mo_start_42 : decode cc_Mo_start 42 = .ok (.aload_n 0, 1) := by decide +kernel
theorem d_Mo_start_43 : decode cc_Mo_start 43 = .ok (.bipush 12, 2) := by decide +kernel
theorem d_Mo_start_45 : decode cc_Mo_start 45 = .ok (.iconst 2, 1) := by decide +kernel
theorem d_Mo_start_46 : decode cc_Mo_start 46 = .ok (.invokevirtual 77, 3) := by decide +kernel
theorem d_Mo_start_49 : decode cc_Mo_start 49 = .ok (.ireturn, 1) := by decide +kernel
theorem d_Mo_start_50 : decode cc_Mo_start 50 = .ok (.iload_n 2, 1) := by decide +kernel
theorem d_Mo_start_51 : decode cc_Mo_start 51 = .ok (.bipush 91, 2) := by decide +kernel
theorem d_Mo_start_53 : decode cc_Mo_start 53 = .ok (.if_icmp .ne 17, 3) := by decide +kernel
theorem d_Mo_start_56 : decode cc_Mo_start 56 = .ok (.iload_n 1, 1) := by decide +kernel
theorem d_Mo_start_57 : decode cc_Mo_start 57 = .ok (.iconst 2, 1) := by decide +kernel
theorem d_Mo_start_58 : decode cc_Mo_start 58 = .ok (.if_icmp .gt 12, 3) := by decide +kernel
theorem d_Mo_start_61 : decode cc_Mo_start 61 = .ok (.aload_n 0, 1) := by decide +kernel
theorem d_Mo_start_62 : decode cc_Mo_start 62 = .ok (.iconst 1, 1) := by decide +kernel
theorem d_Mo_start_63 : decode cc_Mo_start 63 = .ok (.iconst 3, 1) := by decide +kernel
theorem d_Mo_start_64 : decode cc_Mo_start 64 = .ok (.invokevirtual 77, 3) := by decide +kernel
theorem d_Mo_start_67 : decode cc_Mo_start 67 = .ok (.goto 4, 3) := by decide +kernel
theorem d_Mo_start_70 : decode cc_Mo_start 70 = .ok (.iconst 0, 1) := by decide +kernel
theorem d_Mo_start_71 : decode cc_Mo_start 71 = .ok (.ireturn, 1) := by decide +kernel
theorem d_Mo_inner_0 : decode cc_Mo_inner 0 = .ok (.aload_n 0, 1) := by decide +kernel
theorem d_Mo_inner_1 : decode cc_Mo_inner 1 = .ok (.iload_n 1, 1) := by decide +kernel
theorem d_Mo_inner_2 : decode cc_Mo_inner 2 = .ok (.iload_n 2, 1) := by decide +kernel
theorem d_Mo_inner_3 : decode cc_Mo_inner 3 = .ok (.iconst 1, 1) := by decide +kernel
theorem d_Mo_inner_4 : decode cc_Mo_inner 4 = .ok (.invokevirtual 88, 3) := by decide +kernel
theorem d_Mo_inner_7 : decode cc_Mo_inner 7 = .ok (.istore 4, 2) := by decide +kernel
theorem d_Mo_inner_9 : decode cc_Mo_inner 9 = .ok (.iload 4, 2) := by decide +kernel
theorem d_Mo_inner_11 : decode cc_Mo_inner 11 = .ok (.iconst 1, 1) := by decide +kernel
theorem d_Mo_inner_12 : decode cc_Mo_inner 12 = .ok (.if_icmp .ne 12, 3) := by decide +kernel
theorem d_Mo_inner_15 : decode cc_Mo_inner 15 = .ok (.aload_n 0, 1) := by decide +kernel
theorem d_Mo_inner_16 : decode cc_Mo_inner 16 = .ok (.iload_n 2, 1) := by decide +kernel
theorem d_Mo_inner_17 : decode cc_Mo_inner 17 = .ok (.iload_n 3, 1) := by decide +kernel
theorem d_Mo_inner_18 : decode cc_Mo_inner 18 = .ok (.invokevirtual 63, 3) := by decide +kernel
theorem d_Mo_inner_21 : decode cc_Mo_inner 21 = .ok (.goto 4, 3) := by decide +kernel
theorem d_Mo_inner_24 : decode cc_Mo_inner 24 = .ok (.iconst 0, 1) := by decide +kernel
theorem d_Mo_inner_25 : decode cc_Mo_inner 25 = .ok (.ireturn, 1) := by decide +kernel
theorem d_Mo_inArguments_0 : decode cc_Mo_inArguments 0 = .ok (.iload_n 2, 1) := by decide +kernel
theorem d_Mo_inArguments_1 : decode cc_Mo_inArguments 1 = .ok (.bipush 42, 2) := by decide +kernel
theorem d_Mo_inArguments_3 : decode cc_Mo_inArguments 3 = .ok (.if_icmp .ne 12, 3) := by decide +kernel
theorem d_Mo_inArguments_6 : decode cc_Mo_inArguments 6 = .ok (.aload_n 0, 1) := by decide +kernel
theorem d_Mo_inArguments_7 : decode cc_Mo_inArguments 7 = .ok (.bipush 11, 2) := by decide +kernel
theorem d_Mo_inArguments_9 : decode cc_Mo_inArguments 9 = .ok (.bipush 10, 2) := by decide +kernel
theorem d_Mo_inArguments_11 : decode cc_Mo_inArguments 11 = .ok (.invokevirtual 77, 3) := by decide +kernel
theorem d_Mo_inArguments_14 : decode cc_Mo_inArguments 14 = .ok (.ireturn, 1) := by decide +kernel
theorem d_Mo_inArguments_15 : decode cc_Mo_inArguments 15 = .ok (.iload_n 2, 1) := by decide +kernel
theorem d_Mo_inArguments_16 : decode cc_Mo_inArguments 16 = .ok (.bipush 43, 2) := by decide +kernel
theorem d_Mo_inArguments_18 : decode cc_Mo_inArguments 18 = .ok (.if_icmp .eq 9, 3) := by decide +kernel
theorem d_Mo_inArguments_21 : decode cc_Mo_inArguments 21 = .ok (.iload_n 2, 1) := by decide +kernel
theorem d_Mo_inArguments_22 : decode cc_Mo_inArguments 22 = .ok (.bipush 45, 2) := by decide +kernel
theorem d_Mo_inArguments_24 : decode cc_Mo_inArguments 24 = .ok (.if_icmp .ne 24, 3) := by decide +kernel
theorem d_Mo_inArguments_27 : decode cc_Mo_inArguments 27 = .ok (.aload_n 0, 1) := by decide +kernel
theorem d_Mo_inArguments_28 : decode cc_Mo_inArguments 28 = .ok (.bipush 11, 2) := by decide +kernel
theorem d_Mo_inArguments_30 : decode cc_Mo_inArguments 30 = .ok (.iconst 2, 1) := by decide +kernel
theorem d_Mo_inArguments_31 : decode cc_Mo_inArguments 31 = .ok (.iload_n 2, 1) := by decide +kernel
theorem d_Mo_inArguments_32 : decode cc_Mo_inArguments 32 = .ok (.bipush 43, 2) := by decide +kernel
theorem d_Mo_inArguments_34 : decode cc_Mo_inArguments 34 = .ok (.if_icmp .ne 8, 3) := by decide +kernel
theorem d_Mo_inArguments_37 : decode cc_Mo_inArguments 37 = .ok (.bipush 11, 2) := by decide +kernel
theorem d_Mo_inArguments_39 : decode cc_Mo_inArguments 39 = .ok (.goto 5, 3) := by decide +kernel
theorem d_Mo_inArguments_42 : decode cc_Mo_inArguments 42 = .ok (.bipush 12, 2) := by decide +kernel
theorem d_Mo_inArguments_44 : decode cc_Mo_inArguments 44 = .ok (.invokevirtual 88, 3) := by decide +kernel
theorem d_Mo_inArguments_47 : decode cc_Mo_inArguments 47 = .ok (.ireturn, 1) := by decide +kernel
theorem d_Mo_inArguments_48 : decode cc_Mo_inArguments 48 = .ok (.iload_n 2, 1) := by decide +kernel
theorem d_Mo_inArguments_49 : decode cc_Mo_inArguments 49 = .ok (.bipush 62, 2) := by decide +kernel
theorem d_Mo_inArguments_51 : decode cc_Mo_inArguments 51 = .ok (.if_icmp .ne 20, 3) := by decide +kernel
theorem d_Mo_inArguments_54 : decode cc_Mo_inArguments 54 = .ok (.iload_n 1, 1) := by decide +kernel
theorem d_Mo_inArguments_55 : decode cc_Mo_inArguments 55 = .ok (.bipush 11, 2) := by decide +kernel
theorem d_Mo_inArguments_57 : decode cc_Mo_inArguments 57 = .ok (.if_icmp .ne 12, 3) := by decide +kernel
theorem d_Mo_inArguments_60 : decode cc_Mo_inArguments 60 = .ok (.aload_n 0, 1) := by decide +kernel
theorem d_Mo_inArguments_61 : decode cc_Mo_inArguments 61 = .ok (.bipush 13, 2) := by decide +kernel
theorem d_Mo_inArguments_63 : decode cc_Mo_inArguments 63 = .ok (.invokevirtual 80, 3) := by decide +kernel
theorem d_Mo_inArguments_66 : decode cc_Mo_inArguments 66 = .ok (.goto 4, 3) := by decide +kernel
theorem d_Mo_inArguments_69 : decode cc_Mo_inArguments 69 = .ok (.iconst 0, 1) := by decide +kernel
theorem d_Mo_inArguments_70 : decode cc_Mo_inArguments 70 = .ok (.ireturn, 1) := by decide +kernel
theorem d_Mo_inArguments_71 : decode cc_Mo_inArguments 71 = .ok (.aload_n 0, 1) := by decide +kernel
theorem d_Mo_inArguments_72 : decode cc_Mo_inArguments 72 = .ok (.bipush 11, 2) := by decide +kernel
theorem d_Mo_inArguments_74 : decode cc_Mo_inArguments 74 = .ok (.iconst 2, 1) := by decide +kernel
theorem d_Mo_inArguments_75 : decode cc_Mo_inArguments 75 = .ok (.iload_n 2, 1) := by decide +kernel
theorem d_Mo_inArguments_76 : decode cc_Mo_inArguments 76 = .ok (.invokevirtual 91, 3) := by decide +kernel
theorem d_Mo_inArguments_79 : decode cc_Mo_inArguments 79 = .ok (.ireturn, 1) := by decide +kernel
theorem d_Mo_name_0 : decode cc_Mo_name 0 = .ok (.iload_n 0, 1) := by decide +kernel
theorem d_Mo_name_1 : decode cc_Mo_name 1 = .ok (.bipush 46, 2) := by decide +kernel
theorem d_Mo_name_3 : decode cc_Mo_name 3 = .ok (.if_icmp .eq 43, 3) := by decide +kernel
theorem d_Mo_name_6 : decode cc_Mo_name 6 = .ok (.iload_n 0, 1) := by decide +kernel
theorem d_Mo_name_7 : decode cc_Mo_name 7 = .ok (.bipush 59, 2) := by decide +kernel
theorem d_Mo_name_9 : decode cc_Mo_name 9 = .ok (.if_icmp .eq 37, 3) := by decide +kernel
theorem d_Mo_name_12 : decode cc_Mo_name 12 = .ok (.iload_n 0, 1) := by decide +kernel
theorem d_Mo_name_13 : decode cc_Mo_name 13 = .ok (.bipush 47, 2) := by decide +kernel
theorem d_Mo_name_15 : decode cc_Mo_name 15 = .ok (.if_icmp .eq 31, 3) := by decide +kernel
theorem d_Mo_name_18 : decode cc_Mo_name 18 = .ok (.iload_n 0, 1) := by decide +kernel
theorem d_Mo_name_19 : decode cc_Mo_name 19 = .ok (.bipush 58, 2) := by decide +kernel
theorem d_Mo_name_21 : decode cc_Mo_name 21 = .ok (.if_icmp .eq 25, 3) := by decide +kernel
theorem d_Mo_name_24 : decode cc_Mo_name 24 = .ok (.iload_n 0, 1) := by decide +kernel
theorem d_Mo_name_25 : decode cc_Mo_name 25 = .ok (.bipush 60, 2) := by decide +kernel
theorem d_Mo_name_27 : decode cc_Mo_name 27 = .ok (.if_icmp .eq 19, 3) := by decide +kernel
theorem d_Mo_name_30 : decode cc_Mo_name 30 = .ok (.iload_n 0, 1) := by decide +kernel
theorem d_Mo_name_31 : decode cc_Mo_name 31 = .ok (.bipush 62, 2) := by decide +kernel
theorem d_Mo_name_33 : decode cc_Mo_name 33 = .ok (.if_icmp .eq 13, 3) := by decide +kernel
theorem d_Mo_name_36 : decode cc_Mo_name 36 = .ok (.iload_n 0, 1) := by decide +kernel
theorem d_Mo_name_37 : decode cc_Mo_name 37 = .ok (.bipush 91, 2) := by decide +kernel
theorem d_Mo_name_39 : decode cc_Mo_name 39 = .ok (.if_icmp .eq 7, 3) := by decide +kernel
theorem d_Mo_name_42 : decode cc_Mo_name 42 = .ok (.iconst 1, 1) := by decide +kernel
theorem d_Mo_name_43 : decode cc_Mo_name 43 = .ok (.goto 4, 3) := by decide +kernel
theorem d_Mo_name_46 : decode cc_Mo_name 46 = .ok (.iconst 0, 1) := by decide +kernel
theorem d_Mo_name_47 : decode cc_Mo_name 47 = .ok (.ireturn, 1) := by decide +kernel
theorem d_Mo_inClass_0 : decode cc_Mo_inClass 0 = .ok (.iload_n 1, 1) := by decide +kernel
theorem d_Mo_inClass_1 : decode cc_Mo_inClass 1 = .ok (.bipush 6, 2) := by decide +kernel
theorem d_Mo_inClass_3 : decode cc_Mo_inClass 3 = .ok (.if_icmp .eq 9, 3) := by decide +kernel
theorem d_Mo_inClass_6 : decode cc_Mo_inClass 6 = .ok (.iload_n 1, 1) := by decide +kernel
theorem d_Mo_inClass_7 : decode cc_Mo_inClass 7 = .ok (.bipush 8, 2) := by decide +kernel
theorem d_Mo_inClass_9 : decode cc_Mo_inClass 9 = .ok (.if_icmp .ne 7, 3) := by decide +kernel
theorem d_Mo_inClass_12 : decode cc_Mo_inClass 12 = .ok (.iconst 1, 1) := by decide +kernel
theorem d_Mo_inClass_13 : decode cc_Mo_inClass 13 = .ok (.goto 4, 3) := by decide +kernel
theorem d_Mo_inClass_16 : decode cc_Mo_inClass 16 = .ok (.iconst 0, 1) := by decide +kernel
theorem d_Mo_inClass_17 : decode cc_Mo_inClass 17 = .ok (.istore_n 3, 1) := by decide +kernel
theorem d_Mo_inClass_18 : decode cc_Mo_inClass 18 = .ok (.iload_n 2, 1) := by decide +kernel
theorem d_Mo_inClass_19 : decode cc_Mo_inClass 19 = .ok (.invokestatic 73, 3) := by decide +kernel
theorem d_Mo_inClass_22 : decode cc_Mo_inClass 22 = .ok (.ifCond .eq 32, 3) := by decide +kernel
theorem d_Mo_inClass_25 : decode cc_Mo_inClass 25 = .ok (.iload_n 1, 1) := by decide +kernel
theorem d_Mo_inClass_26 : decode cc_Mo_inClass 26 = .ok (.bipush 9, 2) := by decide +kernel
theorem d_Mo_inClass_28 : decode cc_Mo_inClass 28 = .ok (.if_icmp .ne 7, 3) := by decide +kernel
theorem d_Mo_inClass_31 : decode cc_Mo_inClass 31 = .ok (.iconst 0, 1) := by decide +kernel
theorem d_Mo_inClass_32 : decode cc_Mo_inClass 32 = .ok (.goto 21, 3) := by decide +kernel
theorem d_Mo_inClass_35 : decode cc_Mo_inClass 35 = .ok (.aload_n 0, 1) := by decide +kernel
theorem d_Mo_inClass_36 : decode cc_Mo_inClass 36 = .ok (.iload_n 1, 1) := by decide +kernel
theorem d_Mo_inClass_37 : decode cc_Mo_inClass 37 = .ok (.bipush 7, 2) := by decide +kernel
theorem d_Mo_inClass_39 : decode cc_Mo_inClass 39 = .ok (.if_icmp .ge 8, 3) := by decide +kernel
theorem d_Mo_inClass_42 : decode cc_Mo_inClass 42 = .ok (.bipush 6, 2) := by decide +kernel
theorem d_Mo_inClass_44 : decode cc_Mo_inClass 44 = .ok (.goto 5, 3) := by decide +kernel
theorem d_Mo_inClass_47 : decode cc_Mo_inClass 47 = .ok (.bipush 8, 2) := by decide +kernel
theorem d_Mo_inClass_49 : decode cc_Mo_inClass 49 = .ok (.iconst 5, 1) := by decide +kernel
theorem d_Mo_inClass_50 : decode cc_Mo_inClass 50 = .ok (.invokevirtual 77, 3) := by decide +kernel
theorem d_Mo_inClass_53 : decode cc_Mo_inClass 53 = .ok (.ireturn, 1) := by decide +kernel
theorem d_Mo_inClass_54 : decode cc_Mo_inClass 54 = .ok (.iload_n 2, 1) := by decide +kernel
theorem d_Mo_inClass_55 : decode cc_Mo_inClass 55 = .ok (.bipush 47, 2) := by decide +kernel
theorem d_Mo_inClass_57 : decode cc_Mo_inClass 57 = .ok (.if_icmp .ne 17, 3) := by decide +kernel
theorem d_Mo_inClass_60 : decode cc_Mo_inClass 60 = .ok (.iload_n 1, 1) := by decide +kernel
theorem d_Mo_inClass_61 : decode cc_Mo_inClass 61 = .ok (.bipush 6, 2) := by decide +kernel
theorem d_Mo_inClass_63 : decode cc_Mo_inClass 63 = .ok (.if_icmp .ne 11, 3) := by decide +kernel
theorem d_Mo_inClass_66 : decode cc_Mo_inClass 66 = .ok (.aload_n 0, 1) := by decide +kernel
theorem d_Mo_inClass_67 : decode cc_Mo_inClass 67 = .ok (.iconst 5, 1) := by decide +kernel
theorem d_Mo_inClass_68 : decode cc_Mo_inClass 68 = .ok (.bipush 6, 2) := by decide +kernel
theorem d_Mo_inClass_70 : decode cc_Mo_inClass 70 = .ok (.invokevirtual 77, 3) := by decide +kernel
theorem d_Mo_inClass_73 : decode cc_Mo_inClass 73 = .ok (.ireturn, 1) := by decide +kernel
theorem d_Mo_inClass_74 : decode cc_Mo_inClass 74 = .ok (.iload_n 2, 1) := by decide +kernel
theorem d_Mo_inClass_75 : decode cc_Mo_inClass 75 = .ok (.bipush 60, 2) := by decide +kernel
theorem d_Mo_inClass_77 : decode cc_Mo_inClass 77 = .ok (.if_icmp .ne 18, 3) := by decide +kernel
theorem d_Mo_inClass_80 : decode cc_Mo_inClass 80 = .ok (.iload_n 3, 1) := by decide +kernel
theorem d_Mo_inClass_81 : decode cc_Mo_inClass 81 = .ok (.ifCond .eq 14, 3) := by decide +kernel
theorem d_Mo_inClass_84 : decode cc_Mo_inClass 84 = .ok (.aload_n 0, 1) := by decide +kernel
theorem d_Mo_inClass_85 : decode cc_Mo_inClass 85 = .ok (.bipush 9, 2) := by decide +kernel
theorem d_Mo_inClass_87 : decode cc_Mo_inClass 87 = .ok (.bipush 10, 2) := by decide +kernel
theorem d_Mo_inClass_89 : decode cc_Mo_inClass 89 = .ok (.bipush 8, 2) := by decide +kernel
theorem d_Mo_inClass_91 : decode cc_Mo_inClass 91 = .ok (.invokevirtual 88, 3) := by decide +kernel
theorem d_Mo_inClass_94 : decode cc_Mo_inClass 94 = .ok (.ireturn, 1) := by decide +kernel
theorem d_Mo_inClass_95 : decode cc_Mo_inClass 95 = .ok (.iload_n 3, 1) := by decide +kernel
theorem d_Mo_inClass_96 : decode cc_Mo_inClass 96 = .ok (.ifCond .ne 11, 3) := by decide +kernel
theorem d_Mo_inClass_99 : decode cc_Mo_inClass 99 = .ok (.iload_n 1, 1) := by decide +kernel
theorem d_Mo_inClass_100 : decode cc_Mo_inClass 100 = .ok (.bipush 9, 2) := by decide +kernel
theorem d_Mo_inClass_102 : decode cc_Mo_inClass 102 = .ok (.if_icmp .eq 5, 3) := by decide +kernel
theorem d_Mo_inClass_105 : decode cc_Mo_inClass 105 = .ok (.iconst 0, 1) := by decide +kernel
theorem d_Mo_inClass_106 : decode cc_Mo_inClass 106 = .ok (.ireturn, 1) := by decide +kernel
theorem d_Mo_inClass_107 : decode cc_Mo_inClass 107 = .ok (.iload_n 2, 1) := by decide +kernel
theorem d_Mo_inClass_108 : decode cc_Mo_inClass 108 = .ok (.bipush 46, 2) := by decide +kernel
theorem d_Mo_inClass_110 : decode cc_Mo_inClass 110 = .ok (.if_icmp .ne 14, 3) := by decide +kernel
theorem d_Mo_inClass_113 : decode cc_Mo_inClass 113 = .ok (.aload_n 0, 1) := by decide +kernel
theorem d_Mo_inClass_114 : decode cc_Mo_inClass 114 = .ok (.bipush 7, 2) := by decide +kernel
theorem d_Mo_inClass_116 : decode cc_Mo_inClass 116 = .ok (.bipush 7, 2) := by decide +kernel
theorem d_Mo_inClass_118 : decode cc_Mo_inClass 118 = .ok (.invokevirtual 77, 3) := by decide +kernel
theorem d_Mo_inClass_121 : decode cc_Mo_inClass 121 = .ok (.goto 19, 3) := by decide +kernel
theorem d_Mo_inClass_124 : decode cc_Mo_inClass 124 = .ok (.iload_n 2, 1) := by decide +kernel
theorem d_Mo_inClass_125 : decode cc_Mo_inClass 125 = .ok (.bipush 59, 2) := by decide +kernel
theorem d_Mo_inClass_127 : decode cc_Mo_inClass 127 = .ok (.if_icmp .ne 12, 3) := by decide +kernel
theorem d_Mo_inClass_130 : decode cc_Mo_inClass 130 = .ok (.aload_n 0, 1) := by decide +kernel
theorem d_Mo_inClass_131 : decode cc_Mo_inClass 131 = .ok (.bipush 9, 2) := by decide +kernel
theorem d_Mo_inClass_133 : decode cc_Mo_inClass 133 = .ok (.invokevirtual 80, 3) := by decide +kernel
theorem d_Mo_inClass_136 : decode cc_Mo_inClass 136 = .ok (.goto 4, 3) := by decide +kernel
theorem d_Mo_inClass_139 : decode cc_Mo_inClass 139 = .ok (.iconst 0, 1) := by decide +kernel
theorem d_Mo_inClass_140 : decode cc_Mo_inClass 140 = .ok (.ireturn, 1) := by decide +kernel
theorem d_Mo_alikeNames_0 : decode cc_Mo_alikeNames 0 = .ok (.iload_n 3, 1) := by decide +kernel
theorem d_Mo_alikeNames_1 : decode cc_Mo_alikeNames 1 = .ok (.iload_n 2, 1) := by decide +kernel
theorem d_Mo_alikeNames_2 : decode cc_Mo_alikeNames 2 = .ok (.isub, 1) := by decide +kernel
theorem d_Mo_alikeNames_3 : decode cc_Mo_alikeNames 3 = .ok (.iload 6, 2) := by decide +kernel
theorem d_Mo_alikeNames_5 : decode cc_Mo_alikeNames 5 = .ok (.iload 5, 2) := by decide +kernel
theorem d_Mo_alikeNames_7 : decode cc_Mo_alikeNames 7 = .ok (.isub, 1) := by decide +kernel
theorem d_Mo_alikeNames_8 : decode cc_Mo_alikeNames 8 = .ok (.if_icmp .eq 5, 3) := by decide +kernel
theorem d_Mo_alikeNames_11 : decode cc_Mo_alikeNames 11 = .ok (.iconst 0, 1) := by decide +kernel
theorem d_Mo_alikeNames_12 : decode cc_Mo_alikeNames 12 = .ok (.ireturn, 1) := by decide +kernel
theorem d_Mo_alikeNames_13 : decode cc_Mo_alikeNames 13 = .ok (.iconst 0, 1) := by decide +kernel
theorem d_Mo_alikeNames_14 : decode cc_Mo_alikeNames 14 = .ok (.istore 7, 2) := by decide +kernel
theorem d_Mo_alikeNames_16 : decode cc_Mo_alikeNames 16 = .ok (.iload 7, 2) := by decide +kernel
theorem d_Mo_alikeNames_18 : decode cc_Mo_alikeNames 18 = .ok (.iload_n 3, 1) := by decide +kernel
theorem d_Mo_alikeNames_19 : decode cc_Mo_alikeNames 19 = .ok (.iload_n 2, 1) := by decide +kernel
theorem d_Mo_alikeNames_20 : decode cc_Mo_alikeNames 20 = .ok (.isub, 1) := by decide +kernel
theorem d_Mo_alikeNames_21 : decode cc_Mo_alikeNames 21 = .ok (.if_icmp .ge 34, 3) := by decide +kernel
theorem d_Mo_alikeNames_24 : decode cc_Mo_alikeNames 24 = .ok (.aload_n 0, 1) := by decide +kernel
theorem d_Mo_alikeNames_25 : decode cc_Mo_alikeNames 25 = .ok (.iload_n 1, 1) := by decide +kernel
theorem d_Mo_alikeNames_26 : decode cc_Mo_alikeNames 26 = .ok (.iload_n 2, 1) := by decide +kernel
theorem d_Mo_alikeNames_27 : decode cc_Mo_alikeNames 27 = .ok (.iload 7, 2) := by decide +kernel
theorem d_Mo_alikeNames_29 : decode cc_Mo_alikeNames 29 = .ok (.iadd, 1) := by decide +kernel
theorem d_Mo_alikeNames_30 : decode cc_Mo_alikeNames 30 = .ok (.invokevirtual 100, 3) := by decide +kernel
theorem d_Mo_alikeNames_33 : decode cc_Mo_alikeNames 33 = .ok (.aload_n 0, 1) := by decide +kernel
theorem d_Mo_alikeNames_34 : decode cc_Mo_alikeNames 34 = .ok (.iload 4, 2) := by decide +kernel
theorem d_Mo_alikeNames_36 : decode cc_Mo_alikeNames 36 = .ok (.iload 5, 2) := by decide +kernel
theorem d_Mo_alikeNames_38 : decode cc_Mo_alikeNames 38 = .ok (.iload 7, 2) := by decide +kernel
theorem d_Mo_alikeNames_40 : decode cc_Mo_alikeNames 40 = .ok (.iadd, 1) := by decide +kernel
theorem d_Mo_alikeNames_41 : decode cc_Mo_alikeNames 41 = .ok (.invokevirtual 100, 3) := by decide +kernel
theorem d_Mo_alikeNames_44 : decode cc_Mo_alikeNames 44 = .ok (.if_icmp .eq 5, 3) := by decide +kernel
theorem d_Mo_alikeNames_47 : decode cc_Mo_alikeNames 47 = .ok (.iconst 0, 1) := by decide +kernel
theorem d_Mo_alikeNames_48 : decode cc_Mo_alikeNames 48 = .ok (.ireturn, 1) := by decide +kernel
theorem d_Mo_alikeNames_49 : decode cc_Mo_alikeNames 49 = .ok (.iinc 7 1, 3) := by decide +kernel
theorem d_Mo_alikeNames_52 : decode cc_Mo_alikeNames 52 = .ok (.goto (-36), 3) := by decide +kernel
theorem d_Mo_alikeNames_55 : decode cc_Mo_alikeNames 55 = .ok (.iconst 1, 1) := by decide +kernel
theorem d_Mo_alikeNames_56 : decode cc_Mo_alikeNames 56 = .ok (.ireturn, 1) := by decide +kernel
theorem d_Mo_twice_0 : decode cc_Mo_twice 0 = .ok (.bipush 20, 2) := by decide +kernel
theorem d_Mo_twice_2 : decode cc_Mo_twice 2 = .ok (.iload_n 1, 1) := by decide +kernel
theorem d_Mo_twice_3 : decode cc_Mo_twice 3 = .ok (.imul, 1) := by decide +kernel
theorem d_Mo_twice_4 : decode cc_Mo_twice 4 = .ok (.aload_n 0, 1) := by decide +kernel
theorem d_Mo_twice_5 : decode cc_Mo_twice 5 = .ok (.getfield 40, 3) := by decide +kernel
theorem d_Mo_twice_8 : decode cc_Mo_twice 8 = .ok (.iload_n 1, 1) := by decide +kernel
theorem d_Mo_twice_9 : decode cc_Mo_twice 9 = .ok (.iaload, 1) := by decide +kernel
theorem d_Mo_twice_10 : decode cc_Mo_twice 10 = .ok (.iadd, 1) := by decide +kernel
theorem d_Mo_twice_11 : decode cc_Mo_twice 11 = .ok (.iconst 1, 1) := by decide +kernel
theorem d_Mo_twice_12 : decode cc_Mo_twice 12 = .ok (.isub, 1) := by decide +kernel
theorem d_Mo_twice_13 : decode cc_Mo_twice 13 = .ok (.istore_n 2, 1) := by decide +kernel
theorem d_Mo_twice_14 : decode cc_Mo_twice 14 = .ok (.bipush 20, 2) := by decide +kernel
theorem d_Mo_twice_16 : decode cc_Mo_twice 16 = .ok (.iload_n 1, 1) := by decide +kernel
theorem d_Mo_twice_17 : decode cc_Mo_twice 17 = .ok (.imul, 1) := by decide +kernel
theorem d_Mo_twice_18 : decode cc_Mo_twice 18 = .ok (.istore_n 3, 1) := by decide +kernel
theorem d_Mo_twice_19 : decode cc_Mo_twice 19 = .ok (.iload_n 3, 1) := by decide +kernel
theorem d_Mo_twice_20 : decode cc_Mo_twice 20 = .ok (.iload_n 2, 1) := by decide +kernel
theorem d_Mo_twice_21 : decode cc_Mo_twice 21 = .ok (.if_icmp .ge 44, 3) := by decide +kernel
theorem d_Mo_twice_24 : decode cc_Mo_twice 24 = .ok (.aload_n 0, 1) := by decide +kernel
theorem d_Mo_twice_25 : decode cc_Mo_twice 25 = .ok (.iload_n 1, 1) := by decide +kernel
theorem d_Mo_twice_26 : decode cc_Mo_twice 26 = .ok (.aload_n 0, 1) := by decide +kernel
theorem d_Mo_twice_27 : decode cc_Mo_twice 27 = .ok (.getfield 28, 3) := by decide +kernel
theorem d_Mo_twice_30 : decode cc_Mo_twice 30 = .ok (.iload_n 3, 1) := by decide +kernel
theorem d_Mo_twice_31 : decode cc_Mo_twice 31 = .ok (.iaload, 1) := by decide +kernel
theorem d_Mo_twice_32 : decode cc_Mo_twice 32 = .ok (.aload_n 0, 1) := by decide +kernel
theorem d_Mo_twice_33 : decode cc_Mo_twice 33 = .ok (.getfield 31, 3) := by decide +kernel
theorem d_Mo_twice_36 : decode cc_Mo_twice 36 = .ok (.iload_n 3, 1) := by decide +kernel
theorem d_Mo_twice_37 : decode cc_Mo_twice 37 = .ok (.iaload, 1) := by decide +kernel
theorem d_Mo_twice_38 : decode cc_Mo_twice 38 = .ok (.iload_n 1, 1) := by decide +kernel
theorem d_Mo_twice_39 : decode cc_Mo_twice 39 = .ok (.aload_n 0, 1) := by decide +kernel
theorem d_Mo_twice_40 : decode cc_Mo_twice 40 = .ok (.getfield 28, 3) := by decide +kernel
theorem d_Mo_twice_43 : decode cc_Mo_twice 43 = .ok (.iload_n 2, 1) := by decide +kernel
theorem d_Mo_twice_44 : decode cc_Mo_twice 44 = .ok (.iaload, 1) := by decide +kernel
theorem d_Mo_twice_45 : decode cc_Mo_twice 45 = .ok (.aload_n 0, 1) := by decide +kernel
theorem d_Mo_twice_46 : decode cc_Mo_twice 46 = .ok (.getfield 31, 3) := by decide +kernel
theorem d_Mo_twice_49 : decode cc_Mo_twice 49 = .ok (.iload_n 2, 1) := by decide +kernel
theorem d_Mo_twice_50 : decode cc_Mo_twice 50 = .ok (.iaload, 1) := by decide +kernel
theorem d_Mo_twice_51 : decode cc_Mo_twice 51 = .ok (.invokevirtual 103, 3) := by decide +kernel
theorem d_Mo_twice_54 : decode cc_Mo_twice 54 = .ok (.ifCond .eq 5, 3) := by decide +kernel
theorem d_Mo_twice_57 : decode cc_Mo_twice 57 = .ok (.iconst 1, 1) := by decide +kernel
theorem d_Mo_twice_58 : decode cc_Mo_twice 58 = .ok (.ireturn, 1) := by decide +kernel
theorem d_Mo_twice_59 : decode cc_Mo_twice 59 = .ok (.iinc 3 1, 3) := by decide +kernel
theorem d_Mo_twice_62 : decode cc_Mo_twice 62 = .ok (.goto (-43), 3) := by decide +kernel
theorem d_Mo_twice_65 : decode cc_Mo_twice 65 = .ok (.iconst 0, 1) := by decide +kernel
theorem d_Mo_twice_66 : decode cc_Mo_twice 66 = .ok (.ireturn, 1) := by decide +kernel
theorem d_Mo_inParameters_0 : decode cc_Mo_inParameters 0 = .ok (.iload_n 2, 1) := by decide +kernel
theorem d_Mo_inParameters_1 : decode cc_Mo_inParameters 1 = .ok (.bipush 15, 2) := by decide +kernel
theorem d_Mo_inParameters_3 : decode cc_Mo_inParameters 3 = .ok (.if_icmp .ne 40, 3) := by decide +kernel
theorem d_Mo_inParameters_6 : decode cc_Mo_inParameters 6 = .ok (.iload_n 3, 1) := by decide +kernel
theorem d_Mo_inParameters_7 : decode cc_Mo_inParameters 7 = .ok (.invokestatic 73, 3) := by decide +kernel
theorem d_Mo_inParameters_10 : decode cc_Mo_inParameters 10 = .ok (.ifCond .eq 6, 3) := by decide +kernel
theorem d_Mo_inParameters_13 : decode cc_Mo_inParameters 13 = .ok (.bipush 17, 2) := by decide +kernel
theorem d_Mo_inParameters_15 : decode cc_Mo_inParameters 15 = .ok (.ireturn, 1) := by decide +kernel
theorem d_Mo_inParameters_16 : decode cc_Mo_inParameters 16 = .ok (.iload_n 3, 1) := by decide +kernel
theorem d_Mo_inParameters_17 : decode cc_Mo_inParameters 17 = .ok (.bipush 58, 2) := by decide +kernel
theorem d_Mo_inParameters_19 : decode cc_Mo_inParameters 19 = .ok (.if_icmp .ne 22, 3) := by decide +kernel
theorem d_Mo_inParameters_22 : decode cc_Mo_inParameters 22 = .ok (.aload_n 0, 1) := by decide +kernel
theorem d_Mo_inParameters_23 : decode cc_Mo_inParameters 23 = .ok (.iload_n 1, 1) := by decide +kernel
theorem d_Mo_inParameters_24 : decode cc_Mo_inParameters 24 = .ok (.invokevirtual 97, 3) := by decide +kernel
theorem d_Mo_inParameters_27 : decode cc_Mo_inParameters 27 = .ok (.ifCond .ne 14, 3) := by decide +kernel
theorem d_Mo_inParameters_30 : decode cc_Mo_inParameters 30 = .ok (.aload_n 0, 1) := by decide +kernel
theorem d_Mo_inParameters_31 : decode cc_Mo_inParameters 31 = .ok (.bipush 16, 2) := by decide +kernel
theorem d_Mo_inParameters_33 : decode cc_Mo_inParameters 33 = .ok (.bipush 18, 2) := by decide +kernel
theorem d_Mo_inParameters_35 : decode cc_Mo_inParameters 35 = .ok (.invokevirtual 77, 3) := by decide +kernel
theorem d_Mo_inParameters_38 : decode cc_Mo_inParameters 38 = .ok (.goto 4, 3) := by decide +kernel
theorem d_Mo_inParameters_41 : decode cc_Mo_inParameters 41 = .ok (.iconst 0, 1) := by decide +kernel
theorem d_Mo_inParameters_42 : decode cc_Mo_inParameters 42 = .ok (.ireturn, 1) := by decide +kernel
theorem d_Mo_inParameters_43 : decode cc_Mo_inParameters 43 = .ok (.iload_n 2, 1) := by decide +kernel
theorem d_Mo_inParameters_44 : decode cc_Mo_inParameters 44 = .ok (.bipush 15, 2) := by decide +kernel
theorem d_Mo_inParameters_46 : decode cc_Mo_inParameters 46 = .ok (.if_icmp .le 16, 3) := by decide +kernel
theorem d_Mo_inParameters_49 : decode cc_Mo_inParameters 49 = .ok (.iload_n 3, 1) := by decide +kernel
theorem d_Mo_inParameters_50 : decode cc_Mo_inParameters 50 = .ok (.bipush 62, 2) := by decide +kernel
theorem d_Mo_inParameters_52 : decode cc_Mo_inParameters 52 = .ok (.if_icmp .ne 10, 3) := by decide +kernel
theorem d_Mo_inParameters_55 : decode cc_Mo_inParameters 55 = .ok (.aload_n 0, 1) := by decide +kernel
theorem d_Mo_inParameters_56 : decode cc_Mo_inParameters 56 = .ok (.bipush 20, 2) := by decide +kernel
theorem d_Mo_inParameters_58 : decode cc_Mo_inParameters 58 = .ok (.invokevirtual 80, 3) := by decide +kernel
theorem d_Mo_inParameters_61 : decode cc_Mo_inParameters 61 = .ok (.ireturn, 1) := by decide +kernel
theorem d_Mo_inParameters_62 : decode cc_Mo_inParameters 62 = .ok (.iload_n 2, 1) := by decide +kernel
theorem d_Mo_inParameters_63 : decode cc_Mo_inParameters 63 = .ok (.bipush 15, 2) := by decide +kernel
theorem d_Mo_inParameters_65 : decode cc_Mo_inParameters 65 = .ok (.if_icmp .le 19, 3) := by decide +kernel
theorem d_Mo_inParameters_68 : decode cc_Mo_inParameters 68 = .ok (.iload_n 3, 1) := by decide +kernel
theorem d_Mo_inParameters_69 : decode cc_Mo_inParameters 69 = .ok (.bipush 58, 2) := by decide +kernel
theorem d_Mo_inParameters_71 : decode cc_Mo_inParameters 71 = .ok (.if_icmp .ne 13, 3) := by decide +kernel
theorem d_Mo_inParameters_74 : decode cc_Mo_inParameters 74 = .ok (.aload_n 0, 1) := by decide +kernel
theorem d_Mo_inParameters_75 : decode cc_Mo_inParameters 75 = .ok (.bipush 17, 2) := by decide +kernel
theorem d_Mo_inParameters_77 : decode cc_Mo_inParameters 77 = .ok (.iconst 2, 1) := by decide +kernel
theorem d_Mo_inParameters_78 : decode cc_Mo_inParameters 78 = .ok (.bipush 19, 2) := by decide +kernel
theorem d_Mo_inParameters_80 : decode cc_Mo_inParameters 80 = .ok (.invokevirtual 88, 3) := by decide +kernel
theorem d_Mo_inParameters_83 : decode cc_Mo_inParameters 83 = .ok (.ireturn, 1) := by decide +kernel
theorem d_Mo_inParameters_84 : decode cc_Mo_inParameters 84 = .ok (.iload_n 2, 1) := by decide +kernel
theorem d_Mo_inParameters_85 : decode cc_Mo_inParameters 85 = .ok (.bipush 16, 2) := by decide +kernel
theorem d_Mo_inParameters_87 : decode cc_Mo_inParameters 87 = .ok (.if_icmp .ne 30, 3) := by decide +kernel
theorem d_Mo_inParameters_90 : decode cc_Mo_inParameters 90 = .ok (.iload_n 3, 1) := by decide +kernel
theorem d_Mo_inParameters_91 : decode cc_Mo_inParameters 91 = .ok (.bipush 76, 2) := by decide +kernel
theorem d_Mo_inParameters_93 : decode cc_Mo_inParameters 93 = .ok (.if_icmp .eq 15, 3) := by decide +kernel
theorem d_Mo_inParameters_96 : decode cc_Mo_inParameters 96 = .ok (.iload_n 3, 1) := by decide +kernel
theorem d_Mo_inParameters_97 : decode cc_Mo_inParameters 97 = .ok (.bipush 84, 2) := by decide +kernel
theorem d_Mo_inParameters_99 : decode cc_Mo_inParameters 99 = .ok (.if_icmp .eq 9, 3) := by decide +kernel
theorem d_Mo_inParameters_102 : decode cc_Mo_inParameters 102 = .ok (.iload_n 3, 1) := by decide +kernel
theorem d_Mo_inParameters_103 : decode cc_Mo_inParameters 103 = .ok (.bipush 91, 2) := by decide +kernel
theorem d_Mo_inParameters_105 : decode cc_Mo_inParameters 105 = .ok (.if_icmp .ne 12, 3) := by decide +kernel
theorem d_Mo_inParameters_108 : decode cc_Mo_inParameters 108 = .ok (.aload_n 0, 1) := by decide +kernel
theorem d_Mo_inParameters_109 : decode cc_Mo_inParameters 109 = .ok (.bipush 17, 2) := by decide +kernel
theorem d_Mo_inParameters_111 : decode cc_Mo_inParameters 111 = .ok (.iconst 2, 1) := by decide +kernel
theorem d_Mo_inParameters_112 : decode cc_Mo_inParameters 112 = .ok (.iload_n 3, 1) := by decide +kernel
theorem d_Mo_inParameters_113 : decode cc_Mo_inParameters 113 = .ok (.invokevirtual 91, 3) := by decide +kernel
theorem d_Mo_inParameters_116 : decode cc_Mo_inParameters 116 = .ok (.ireturn, 1) := by decide +kernel
theorem d_Mo_inParameters_117 : decode cc_Mo_inParameters 117 = .ok (.iload_n 3, 1) := by decide +kernel
theorem d_Mo_inParameters_118 : decode cc_Mo_inParameters 118 = .ok (.invokestatic 73, 3) := by decide +kernel
theorem d_Mo_inParameters_121 : decode cc_Mo_inParameters 121 = .ok (.ifCond .eq 14, 3) := by decide +kernel
theorem d_Mo_inParameters_124 : decode cc_Mo_inParameters 124 = .ok (.aload_n 0, 1) := by decide +kernel
theorem d_Mo_inParameters_125 : decode cc_Mo_inParameters 125 = .ok (.bipush 15, 2) := by decide +kernel
theorem d_Mo_inParameters_127 : decode cc_Mo_inParameters 127 = .ok (.bipush 17, 2) := by decide +kernel
theorem d_Mo_inParameters_129 : decode cc_Mo_inParameters 129 = .ok (.invokevirtual 77, 3) := by decide +kernel
theorem d_Mo_inParameters_132 : decode cc_Mo_inParameters 132 = .ok (.goto 4, 3) := by decide +kernel
theorem d_Mo_inParameters_135 : decode cc_Mo_inParameters 135 = .ok (.iconst 0, 1) := by decide +kernel
theorem d_Mo_inParameters_136 : decode cc_Mo_inParameters 136 = .ok (.ireturn, 1) := by decide +kernel
theorem d_Mo_step_0 : decode cc_Mo_step 0 = .ok (.aload_n 0, 1) := by decide +kernel
theorem d_Mo_step_1 : decode cc_Mo_step 1 = .ok (.getfield 43, 3) := by decide +kernel
theorem d_Mo_step_4 : decode cc_Mo_step 4 = .ok (.aload_n 0, 1) := by decide +kernel
theorem d_Mo_step_5 : decode cc_Mo_step 5 = .ok (.getfield 60, 3) := by decide +kernel
theorem d_Mo_step_8 : decode cc_Mo_step 8 = .ok (.iaload, 1) := by decide +kernel
theorem d_Mo_step_9 : decode cc_Mo_step 9 = .ok (.istore_n 3, 1) := by decide +kernel
theorem d_Mo_step_10 : decode cc_Mo_step 10 = .ok (.iload_n 3, 1) := by decide +kernel
theorem d_Mo_step_11 : decode cc_Mo_step 11 = .ok (.iconst 4, 1) := by decide +kernel
theorem d_Mo_step_12 : decode cc_Mo_step 12 = .ok (.if_icmp .gt 10, 3) := by decide +kernel
theorem d_Mo_step_15 : decode cc_Mo_step 15 = .ok (.aload_n 0, 1) := by decide +kernel
theorem d_Mo_step_16 : decode cc_Mo_step 16 = .ok (.iload_n 3, 1) := by decide +kernel
theorem d_Mo_step_17 : decode cc_Mo_step 17 = .ok (.iload_n 2, 1) := by decide +kernel
theorem d_Mo_step_18 : decode cc_Mo_step 18 = .ok (.invokevirtual 63, 3) := by decide +kernel
theorem d_Mo_step_21 : decode cc_Mo_step 21 = .ok (.ireturn, 1) := by decide +kernel
theorem d_Mo_step_22 : decode cc_Mo_step 22 = .ok (.iload_n 3, 1) := by decide +kernel
theorem d_Mo_step_23 : decode cc_Mo_step 23 = .ok (.bipush 9, 2) := by decide +kernel
theorem d_Mo_step_25 : decode cc_Mo_step 25 = .ok (.if_icmp .gt 10, 3) := by decide +kernel
theorem d_Mo_step_28 : decode cc_Mo_step 28 = .ok (.aload_n 0, 1) := by decide +kernel
theorem d_Mo_step_29 : decode cc_Mo_step 29 = .ok (.iload_n 3, 1) := by decide +kernel
theorem d_Mo_step_30 : decode cc_Mo_step 30 = .ok (.iload_n 2, 1) := by decide +kernel
theorem d_Mo_step_31 : decode cc_Mo_step 31 = .ok (.invokevirtual 67, 3) := by decide +kernel
theorem d_Mo_step_34 : decode cc_Mo_step 34 = .ok (.ireturn, 1) := by decide +kernel
theorem d_Mo_step_35 : decode cc_Mo_step 35 = .ok (.iload_n 3, 1) := by decide +kernel
theorem d_Mo_step_36 : decode cc_Mo_step 36 = .ok (.bipush 11, 2) := by decide +kernel
theorem d_Mo_step_38 : decode cc_Mo_step 38 = .ok (.if_icmp .gt 10, 3) := by decide +kernel
theorem d_Mo_step_41 : decode cc_Mo_step 41 = .ok (.aload_n 0, 1) := by decide +kernel
theorem d_Mo_step_42 : decode cc_Mo_step 42 = .ok (.iload_n 3, 1) := by decide +kernel
theorem d_Mo_step_43 : decode cc_Mo_step 43 = .ok (.iload_n 2, 1) := by decide +kernel
theorem d_Mo_step_44 : decode cc_Mo_step 44 = .ok (.invokevirtual 70, 3) := by decide +kernel
theorem d_Mo_step_47 : decode cc_Mo_step 47 = .ok (.ireturn, 1) := by decide +kernel
theorem d_Mo_step_48 : decode cc_Mo_step 48 = .ok (.iload_n 3, 1) := by decide +kernel
theorem d_Mo_step_49 : decode cc_Mo_step 49 = .ok (.bipush 13, 2) := by decide +kernel
theorem d_Mo_step_51 : decode cc_Mo_step 51 = .ok (.if_icmp .gt 44, 3) := by decide +kernel
theorem d_Mo_step_54 : decode cc_Mo_step 54 = .ok (.iload_n 2, 1) := by decide +kernel
theorem d_Mo_step_55 : decode cc_Mo_step 55 = .ok (.invokestatic 73, 3) := by decide +kernel
theorem d_Mo_step_58 : decode cc_Mo_step 58 = .ok (.ifCond .eq 14, 3) := by decide +kernel
theorem d_Mo_step_61 : decode cc_Mo_step 61 = .ok (.aload_n 0, 1) := by decide +kernel
theorem d_Mo_step_62 : decode cc_Mo_step 62 = .ok (.bipush 13, 2) := by decide +kernel
theorem d_Mo_step_64 : decode cc_Mo_step 64 = .ok (.bipush 14, 2) := by decide +kernel
theorem d_Mo_step_66 : decode cc_Mo_step 66 = .ok (.invokevirtual 77, 3) := by decide +kernel
theorem d_Mo_step_69 : decode cc_Mo_step 69 = .ok (.goto 25, 3) := by decide +kernel
theorem d_Mo_step_72 : decode cc_Mo_step 72 = .ok (.iload_n 3, 1) := by decide +kernel
theorem d_Mo_step_73 : decode cc_Mo_step 73 = .ok (.bipush 13, 2) := by decide +kernel
theorem d_Mo_step_75 : decode cc_Mo_step 75 = .ok (.if_icmp .ne 18, 3) := by decide +kernel
theorem d_Mo_step_78 : decode cc_Mo_step 78 = .ok (.iload_n 2, 1) := by decide +kernel
theorem d_Mo_step_79 : decode cc_Mo_step 79 = .ok (.bipush 59, 2) := by decide +kernel
theorem d_Mo_step_81 : decode cc_Mo_step 81 = .ok (.if_icmp .ne 12, 3) := by decide +kernel
theorem d_Mo_step_84 : decode cc_Mo_step 84 = .ok (.aload_n 0, 1) := by decide +kernel
theorem d_Mo_step_85 : decode cc_Mo_step 85 = .ok (.bipush 15, 2) := by decide +kernel
theorem d_Mo_step_87 : decode cc_Mo_step 87 = .ok (.invokevirtual 80, 3) := by decide +kernel
theorem d_Mo_step_90 : decode cc_Mo_step 90 = .ok (.goto 4, 3) := by decide +kernel
theorem d_Mo_step_93 : decode cc_Mo_step 93 = .ok (.iconst 0, 1) := by decide +kernel
theorem d_Mo_step_94 : decode cc_Mo_step 94 = .ok (.ireturn, 1) := by decide +kernel
theorem d_Mo_step_95 : decode cc_Mo_step 95 = .ok (.iload_n 3, 1) := by decide +kernel
theorem d_Mo_step_96 : decode cc_Mo_step 96 = .ok (.bipush 17, 2) := by decide +kernel
theorem d_Mo_step_98 : decode cc_Mo_step 98 = .ok (.if_icmp .gt 11, 3) := by decide +kernel
theorem d_Mo_step_101 : decode cc_Mo_step 101 = .ok (.aload_n 0, 1) := by decide +kernel
theorem d_Mo_step_102 : decode cc_Mo_step 102 = .ok (.iload_n 1, 1) := by decide +kernel
theorem d_Mo_step_103 : decode cc_Mo_step 103 = .ok (.iload_n 3, 1) := by decide +kernel
theorem d_Mo_step_104 : decode cc_Mo_step 104 = .ok (.iload_n 2, 1) := by decide +kernel
theorem d_Mo_step_105 : decode cc_Mo_step 105 = .ok (.invokevirtual 84, 3) := by decide +kernel
theorem d_Mo_step_108 : decode cc_Mo_step 108 = .ok (.ireturn, 1) := by decide +kernel
theorem d_Mo_step_109 : decode cc_Mo_step 109 = .ok (.iload_n 3, 1) := by decide +kernel
theorem d_Mo_step_110 : decode cc_Mo_step 110 = .ok (.tableswitch 245 20 28 #[50, 88, 88, 107, 145, 164, 190, 216, 236], 50) := by decide +kernel
theorem d_Mo_step_160 : decode cc_Mo_step 160 = .ok (.iload_n 2, 1) := by decide +kernel
theorem d_Mo_step_161 : decode cc_Mo_step 161 = .ok (.bipush 60, 2) := by decide +kernel
theorem d_Mo_step_163 : decode cc_Mo_step 163 = .ok (.if_icmp .ne 16, 3) := by decide +kernel
theorem d_Mo_step_166 : decode cc_Mo_step 166 = .ok (.aload_n 0, 1) := by decide +kernel
theorem d_Mo_step_167 : decode cc_Mo_step 167 = .ok (.bipush 21, 2) := by decide +kernel
theorem d_Mo_step_169 : decode cc_Mo_step 169 = .ok (.bipush 14, 2) := by decide +kernel
theorem d_Mo_step_171 : decode cc_Mo_step 171 = .ok (.bipush 16, 2) := by decide +kernel
theorem d_Mo_step_173 : decode cc_Mo_step 173 = .ok (.invokevirtual 88, 3) := by decide +kernel
theorem d_Mo_step_176 : decode cc_Mo_step 176 = .ok (.goto 21, 3) := by decide +kernel
theorem d_Mo_step_179 : decode cc_Mo_step 179 = .ok (.iload_n 2, 1) := by decide +kernel
theorem d_Mo_step_180 : decode cc_Mo_step 180 = .ok (.bipush 76, 2) := by decide +kernel
theorem d_Mo_step_182 : decode cc_Mo_step 182 = .ok (.if_icmp .ne 14, 3) := by decide +kernel
theorem d_Mo_step_185 : decode cc_Mo_step 185 = .ok (.aload_n 0, 1) := by decide +kernel
theorem d_Mo_step_186 : decode cc_Mo_step 186 = .ok (.bipush 22, 2) := by decide +kernel
theorem d_Mo_step_188 : decode cc_Mo_step 188 = .ok (.iconst 5, 1) := by decide +kernel
