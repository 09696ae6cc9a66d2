theorem d_Fo_scope_31 : decode cc_Fo_scope 31 = .ok (.iload_n 1, 1) := by decide +kernel
theorem d_Fo_scope_32 : decode cc_Fo_scope 32 = .ok (.if_icmp .eq 11, 3) := by decide +kernel
theorem d_Fo_scope_35 : decode cc_Fo_scope 35 = .ok (.aload 4, 2) := by decide +kernel
theorem d_Fo_scope_37 : decode cc_Fo_scope 37 = .ok (.getfield 77, 3) := by decide +kernel
theorem d_Fo_scope_40 : decode cc_Fo_scope 40 = .ok (.ifCond .eq 6, 3) := by decide +kernel
theorem d_Fo_scope_43 : decode cc_Fo_scope 43 = .ok (.bipush (-100), 2) := by decide +kernel
theorem d_Fo_scope_45 : decode cc_Fo_scope 45 = .ok (.ireturn, 1) := by decide +kernel
theorem d_Fo_scope_46 : decode cc_Fo_scope 46 = .ok (.aload_n 3, 1) := by decide +kernel
theorem d_Fo_scope_47 : decode cc_Fo_scope 47 = .ok (.getfield 80, 3) := by decide +kernel
theorem d_Fo_scope_50 : decode cc_Fo_scope 50 = .ok (.istore 4, 2) := by decide +kernel
theorem d_Fo_scope_52 : decode cc_Fo_scope 52 = .ok (.aload_n 3, 1) := by decide +kernel
theorem d_Fo_scope_53 : decode cc_Fo_scope 53 = .ok (.iload_n 2, 1) := by decide +kernel
theorem d_Fo_scope_54 : decode cc_Fo_scope 54 = .ok (.putfield 80, 3) := by decide +kernel
theorem d_Fo_scope_57 : decode cc_Fo_scope 57 = .ok (.iload 4, 2) := by decide +kernel
theorem d_Fo_scope_59 : decode cc_Fo_scope 59 = .ok (.ireturn, 1) := by decide +kernel
theorem d_Fo_writeFilled_0 : decode cc_Fo_writeFilled 0 = .ok (.aload_n 1, 1) := by decide +kernel
theorem d_Fo_writeFilled_1 : decode cc_Fo_writeFilled 1 = .ok (.getfield 93, 3) := by decide +kernel
theorem d_Fo_writeFilled_4 : decode cc_Fo_writeFilled 4 = .ok (.arraylength, 1) := by decide +kernel
theorem d_Fo_writeFilled_5 : decode cc_Fo_writeFilled 5 = .ok (.iconst 1, 1) := by decide +kernel
theorem d_Fo_writeFilled_6 : decode cc_Fo_writeFilled 6 = .ok (.if_icmp .ne 7, 3) := by decide +kernel
theorem d_Fo_writeFilled_9 : decode cc_Fo_writeFilled 9 = .ok (.iconst 1, 1) := by decide +kernel
theorem d_Fo_writeFilled_10 : decode cc_Fo_writeFilled 10 = .ok (.goto 4, 3) := by decide +kernel
theorem d_Fo_writeFilled_13 : decode cc_Fo_writeFilled 13 = .ok (.iconst 0, 1) := by decide +kernel
theorem d_Fo_writeFilled_14 : decode cc_Fo_writeFilled 14 = .ok (.istore 4, 2) := by decide +kernel
theorem d_Fo_writeFilled_16 : decode cc_Fo_writeFilled 16 = .ok (.iload 4, 2) := by decide +kernel
theorem d_Fo_writeFilled_18 : decode cc_Fo_writeFilled 18 = .ok (.ifCond .eq 7, 3) := by decide +kernel
theorem d_Fo_writeFilled_21 : decode cc_Fo_writeFilled 21 = .ok (.iconst 0, 1) := by decide +kernel
theorem d_Fo_writeFilled_22 : decode cc_Fo_writeFilled 22 = .ok (.goto 9, 3) := by decide +kernel
theorem d_Fo_writeFilled_25 : decode cc_Fo_writeFilled 25 = .ok (.aload_n 1, 1) := by decide +kernel
theorem d_Fo_writeFilled_26 : decode cc_Fo_writeFilled 26 = .ok (.getfield 93, 3) := by decide +kernel
theorem d_Fo_writeFilled_29 : decode cc_Fo_writeFilled 29 = .ok (.iload_n 2, 1) := by decide +kernel
theorem d_Fo_writeFilled_30 : decode cc_Fo_writeFilled 30 = .ok (.iaload, 1) := by decide +kernel
theorem d_Fo_writeFilled_31 : decode cc_Fo_writeFilled 31 = .ok (.istore 5, 2) := by decide +kernel
theorem d_Fo_writeFilled_33 : decode cc_Fo_writeFilled 33 = .ok (.iload 4, 2) := by decide +kernel
theorem d_Fo_writeFilled_35 : decode cc_Fo_writeFilled 35 = .ok (.ifCond .eq 10, 3) := by decide +kernel
theorem d_Fo_writeFilled_38 : decode cc_Fo_writeFilled 38 = .ok (.aload_n 1, 1) := by decide +kernel
theorem d_Fo_writeFilled_39 : decode cc_Fo_writeFilled 39 = .ok (.getfield 155, 3) := by decide +kernel
theorem d_Fo_writeFilled_42 : decode cc_Fo_writeFilled 42 = .ok (.goto 8, 3) := by decide +kernel
theorem d_Fo_writeFilled_45 : decode cc_Fo_writeFilled 45 = .ok (.aload_n 1, 1) := by decide +kernel
theorem d_Fo_writeFilled_46 : decode cc_Fo_writeFilled 46 = .ok (.iload_n 2, 1) := by decide +kernel
theorem d_Fo_writeFilled_47 : decode cc_Fo_writeFilled 47 = .ok (.invokevirtual 200, 3) := by decide +kernel
theorem d_Fo_writeFilled_50 : decode cc_Fo_writeFilled 50 = .ok (.istore 6, 2) := by decide +kernel
theorem d_Fo_writeFilled_52 : decode cc_Fo_writeFilled 52 = .ok (.iconst 0, 1) := by decide +kernel
theorem d_Fo_writeFilled_53 : decode cc_Fo_writeFilled 53 = .ok (.istore 7, 2) := by decide +kernel
theorem d_Fo_writeFilled_55 : decode cc_Fo_writeFilled 55 = .ok (.aload_n 0, 1) := by decide +kernel
theorem d_Fo_writeFilled_56 : decode cc_Fo_writeFilled 56 = .ok (.getfield 18, 3) := by decide +kernel
theorem d_Fo_writeFilled_59 : decode cc_Fo_writeFilled 59 = .ok (.iconst 0, 1) := by decide +kernel
theorem d_Fo_writeFilled_60 : decode cc_Fo_writeFilled 60 = .ok (.putfield 62, 3) := by decide +kernel
theorem d_Fo_writeFilled_63 : decode cc_Fo_writeFilled 63 = .ok (.iconst 0, 1) := by decide +kernel
theorem d_Fo_writeFilled_64 : decode cc_Fo_writeFilled 64 = .ok (.istore 8, 2) := by decide +kernel
theorem d_Fo_writeFilled_66 : decode cc_Fo_writeFilled 66 = .ok (.iload 8, 2) := by decide +kernel
theorem d_Fo_writeFilled_68 : decode cc_Fo_writeFilled 68 = .ok (.aload_n 1, 1) := by decide +kernel
theorem d_Fo_writeFilled_69 : decode cc_Fo_writeFilled 69 = .ok (.getfield 139, 3) := by decide +kernel
theorem d_Fo_writeFilled_72 : decode cc_Fo_writeFilled 72 = .ok (.arraylength, 1) := by decide +kernel
theorem d_Fo_writeFilled_73 : decode cc_Fo_writeFilled 73 = .ok (.if_icmp .ge 89, 3) := by decide +kernel
theorem d_Fo_writeFilled_76 : decode cc_Fo_writeFilled 76 = .ok (.iload 8, 2) := by decide +kernel
theorem d_Fo_writeFilled_78 : decode cc_Fo_writeFilled 78 = .ok (.iload 7, 2) := by decide +kernel
theorem d_Fo_writeFilled_80 : decode cc_Fo_writeFilled 80 = .ok (.if_icmp .lt 76, 3) := by decide +kernel
theorem d_Fo_writeFilled_83 : decode cc_Fo_writeFilled 83 = .ok (.iload 8, 2) := by decide +kernel
theorem d_Fo_writeFilled_85 : decode cc_Fo_writeFilled 85 = .ok (.iload 5, 2) := by decide +kernel
theorem d_Fo_writeFilled_87 : decode cc_Fo_writeFilled 87 = .ok (.if_icmp .lt 13, 3) := by decide +kernel
theorem d_Fo_writeFilled_90 : decode cc_Fo_writeFilled 90 = .ok (.iload 8, 2) := by decide +kernel
theorem d_Fo_writeFilled_92 : decode cc_Fo_writeFilled 92 = .ok (.iload 6, 2) := by decide +kernel
theorem d_Fo_writeFilled_94 : decode cc_Fo_writeFilled 94 = .ok (.if_icmp .ge 6, 3) := by decide +kernel
theorem d_Fo_writeFilled_97 : decode cc_Fo_writeFilled 97 = .ok (.goto 59, 3) := by decide +kernel
theorem d_Fo_writeFilled_100 : decode cc_Fo_writeFilled 100 = .ok (.aload_n 1, 1) := by decide +kernel
theorem d_Fo_writeFilled_101 : decode cc_Fo_writeFilled 101 = .ok (.iload 8, 2) := by decide +kernel
theorem d_Fo_writeFilled_103 : decode cc_Fo_writeFilled 103 = .ok (.invokevirtual 193, 3) := by decide +kernel
theorem d_Fo_writeFilled_106 : decode cc_Fo_writeFilled 106 = .ok (.iload_n 2, 1) := by decide +kernel
theorem d_Fo_writeFilled_107 : decode cc_Fo_writeFilled 107 = .ok (.if_icmp .ne 27, 3) := by decide +kernel
theorem d_Fo_writeFilled_110 : decode cc_Fo_writeFilled 110 = .ok (.aload_n 0, 1) := by decide +kernel
theorem d_Fo_writeFilled_111 : decode cc_Fo_writeFilled 111 = .ok (.getfield 18, 3) := by decide +kernel
theorem d_Fo_writeFilled_114 : decode cc_Fo_writeFilled 114 = .ok (.aload_n 3, 1) := by decide +kernel
theorem d_Fo_writeFilled_115 : decode cc_Fo_writeFilled 115 = .ok (.getfield 139, 3) := by decide +kernel
theorem d_Fo_writeFilled_118 : decode cc_Fo_writeFilled 118 = .ok (.invokevirtual 203, 3) := by decide +kernel
theorem d_Fo_writeFilled_121 : decode cc_Fo_writeFilled 121 = .ok (.istore 9, 2) := by decide +kernel
theorem d_Fo_writeFilled_123 : decode cc_Fo_writeFilled 123 = .ok (.aload_n 1, 1) := by decide +kernel
theorem d_Fo_writeFilled_124 : decode cc_Fo_writeFilled 124 = .ok (.iload 8, 2) := by decide +kernel
theorem d_Fo_writeFilled_126 : decode cc_Fo_writeFilled 126 = .ok (.invokevirtual 177, 3) := by decide +kernel
theorem d_Fo_writeFilled_129 : decode cc_Fo_writeFilled 129 = .ok (.istore 7, 2) := by decide +kernel
theorem d_Fo_writeFilled_131 : decode cc_Fo_writeFilled 131 = .ok (.goto 18, 3) := by decide +kernel
theorem d_Fo_writeFilled_134 : decode cc_Fo_writeFilled 134 = .ok (.aload_n 0, 1) := by decide +kernel
theorem d_Fo_writeFilled_135 : decode cc_Fo_writeFilled 135 = .ok (.getfield 18, 3) := by decide +kernel
theorem d_Fo_writeFilled_138 : decode cc_Fo_writeFilled 138 = .ok (.aload_n 1, 1) := by decide +kernel
theorem d_Fo_writeFilled_139 : decode cc_Fo_writeFilled 139 = .ok (.iload 8, 2) := by decide +kernel
theorem d_Fo_writeFilled_141 : decode cc_Fo_writeFilled 141 = .ok (.invokevirtual 161, 3) := by decide +kernel
theorem d_Fo_writeFilled_144 : decode cc_Fo_writeFilled 144 = .ok (.invokevirtual 58, 3) := by decide +kernel
theorem d_Fo_writeFilled_147 : decode cc_Fo_writeFilled 147 = .ok (.istore 9, 2) := by decide +kernel
theorem d_Fo_writeFilled_149 : decode cc_Fo_writeFilled 149 = .ok (.iload 9, 2) := by decide +kernel
theorem d_Fo_writeFilled_151 : decode cc_Fo_writeFilled 151 = .ok (.ifCond .ne 5, 3) := by decide +kernel
theorem d_Fo_writeFilled_154 : decode cc_Fo_writeFilled 154 = .ok (.iconst 0, 1) := by decide +kernel
theorem d_Fo_writeFilled_155 : decode cc_Fo_writeFilled 155 = .ok (.ireturn, 1) := by decide +kernel
theorem d_Fo_writeFilled_156 : decode cc_Fo_writeFilled 156 = .ok (.iinc 8 1, 3) := by decide +kernel
theorem d_Fo_writeFilled_159 : decode cc_Fo_writeFilled 159 = .ok (.goto (-93), 3) := by decide +kernel
theorem d_Fo_writeFilled_162 : decode cc_Fo_writeFilled 162 = .ok (.iconst 1, 1) := by decide +kernel
theorem d_Fo_writeFilled_163 : decode cc_Fo_writeFilled 163 = .ok (.ireturn, 1) := by decide +kernel
theorem d_Fo_keep_0 : decode cc_Fo_keep 0 = .ok (.aload_n 0, 1) := by decide +kernel
theorem d_Fo_keep_1 : decode cc_Fo_keep 1 = .ok (.getfield 130, 3) := by decide +kernel
theorem d_Fo_keep_4 : decode cc_Fo_keep 4 = .ok (.bipush 24, 2) := by decide +kernel
theorem d_Fo_keep_6 : decode cc_Fo_keep 6 = .ok (.if_icmp .lt 6, 3) := by decide +kernel
theorem d_Fo_keep_9 : decode cc_Fo_keep 9 = .ok (.bipush (-100), 2) := by decide +kernel
theorem d_Fo_keep_11 : decode cc_Fo_keep 11 = .ok (.ireturn, 1) := by decide +kernel
theorem d_Fo_keep_12 : decode cc_Fo_keep 12 = .ok (.aload_n 0, 1) := by decide +kernel
theorem d_Fo_keep_13 : decode cc_Fo_keep 13 = .ok (.getfield 54, 3) := by decide +kernel
theorem d_Fo_keep_16 : decode cc_Fo_keep 16 = .ok (.aload_n 0, 1) := by decide +kernel
theorem d_Fo_keep_17 : decode cc_Fo_keep 17 = .ok (.getfield 130, 3) := by decide +kernel
theorem d_Fo_keep_20 : decode cc_Fo_keep 20 = .ok (.new 52, 3) := by decide +kernel
theorem d_Fo_keep_23 : decode cc_Fo_keep 23 = .ok (.dup, 1) := by decide +kernel
theorem d_Fo_keep_24 : decode cc_Fo_keep 24 = .ok (.aload_n 1, 1) := by decide +kernel
theorem d_Fo_keep_25 : decode cc_Fo_keep 25 = .ok (.aload_n 0, 1) := by decide +kernel
theorem d_Fo_keep_26 : decode cc_Fo_keep 26 = .ok (.getfield 24, 3) := by decide +kernel
theorem d_Fo_keep_29 : decode cc_Fo_keep 29 = .ok (.iload_n 2, 1) := by decide +kernel
theorem d_Fo_keep_30 : decode cc_Fo_keep 30 = .ok (.invokespecial 133, 3) := by decide +kernel
theorem d_Fo_keep_33 : decode cc_Fo_keep 33 = .ok (.aastore, 1) := by decide +kernel
theorem d_Fo_keep_34 : decode cc_Fo_keep 34 = .ok (.aload_n 0, 1) := by decide +kernel
theorem d_Fo_keep_35 : decode cc_Fo_keep 35 = .ok (.dup, 1) := by decide +kernel
theorem d_Fo_keep_36 : decode cc_Fo_keep 36 = .ok (.getfield 130, 3) := by decide +kernel
theorem d_Fo_keep_39 : decode cc_Fo_keep 39 = .ok (.iconst 1, 1) := by decide +kernel
theorem d_Fo_keep_40 : decode cc_Fo_keep 40 = .ok (.iadd, 1) := by decide +kernel
theorem d_Fo_keep_41 : decode cc_Fo_keep 41 = .ok (.putfield 130, 3) := by decide +kernel
theorem d_Fo_keep_44 : decode cc_Fo_keep 44 = .ok (.aload_n 0, 1) := by decide +kernel
theorem d_Fo_keep_45 : decode cc_Fo_keep 45 = .ok (.getfield 130, 3) := by decide +kernel
theorem d_Fo_keep_48 : decode cc_Fo_keep 48 = .ok (.iconst 1, 1) := by decide +kernel
theorem d_Fo_keep_49 : decode cc_Fo_keep 49 = .ok (.isub, 1) := by decide +kernel
theorem d_Fo_keep_50 : decode cc_Fo_keep 50 = .ok (.ireturn, 1) := by decide +kernel
theorem d_Fo_read_0 : decode cc_Fo_read 0 = .ok (.iload_n 1, 1) := by decide +kernel
theorem d_Fo_read_1 : decode cc_Fo_read 1 = .ok (.ifCond .lt 8, 3) := by decide +kernel
theorem d_Fo_read_4 : decode cc_Fo_read 4 = .ok (.iload_n 1, 1) := by decide +kernel
theorem d_Fo_read_5 : decode cc_Fo_read 5 = .ok (.iconst 2, 1) := by decide +kernel
theorem d_Fo_read_6 : decode cc_Fo_read 6 = .ok (.if_icmp .le 6, 3) := by decide +kernel
theorem d_Fo_read_9 : decode cc_Fo_read 9 = .ok (.bipush (-100), 2) := by decide +kernel
theorem d_Fo_read_11 : decode cc_Fo_read 11 = .ok (.ireturn, 1) := by decide +kernel
theorem d_Fo_read_12 : decode cc_Fo_read 12 = .ok (.aload_n 0, 1) := by decide +kernel
theorem d_Fo_read_13 : decode cc_Fo_read 13 = .ok (.getfield 24, 3) := by decide +kernel
theorem d_Fo_read_16 : decode cc_Fo_read 16 = .ok (.aload_n 0, 1) := by decide +kernel
theorem d_Fo_read_17 : decode cc_Fo_read 17 = .ok (.getfield 14, 3) := by decide +kernel
theorem d_Fo_read_20 : decode cc_Fo_read 20 = .ok (.iload_n 1, 1) := by decide +kernel
theorem d_Fo_read_21 : decode cc_Fo_read 21 = .ok (.invokevirtual 66, 3) := by decide +kernel
theorem d_Fo_read_24 : decode cc_Fo_read 24 = .ok (.istore_n 2, 1) := by decide +kernel
theorem d_Fo_read_25 : decode cc_Fo_read 25 = .ok (.iload_n 2, 1) := by decide +kernel
theorem d_Fo_read_26 : decode cc_Fo_read 26 = .ok (.iconst (-1), 1) := by decide +kernel
theorem d_Fo_read_27 : decode cc_Fo_read 27 = .ok (.if_icmp .eq 7, 3) := by decide +kernel
theorem d_Fo_read_30 : decode cc_Fo_read 30 = .ok (.iconst (-1), 1) := by decide +kernel
theorem d_Fo_read_31 : decode cc_Fo_read 31 = .ok (.iload_n 2, 1) := by decide +kernel
theorem d_Fo_read_32 : decode cc_Fo_read 32 = .ok (.isub, 1) := by decide +kernel
theorem d_Fo_read_33 : decode cc_Fo_read 33 = .ok (.ireturn, 1) := by decide +kernel
theorem d_Fo_read_34 : decode cc_Fo_read 34 = .ok (.aload_n 0, 1) := by decide +kernel
theorem d_Fo_read_35 : decode cc_Fo_read 35 = .ok (.aload_n 0, 1) := by decide +kernel
theorem d_Fo_read_36 : decode cc_Fo_read 36 = .ok (.getfield 14, 3) := by decide +kernel
theorem d_Fo_read_39 : decode cc_Fo_read 39 = .ok (.iconst (-1), 1) := by decide +kernel
theorem d_Fo_read_40 : decode cc_Fo_read 40 = .ok (.invokevirtual 70, 3) := by decide +kernel
theorem d_Fo_read_43 : decode cc_Fo_read 43 = .ok (.istore_n 3, 1) := by decide +kernel
theorem d_Fo_read_44 : decode cc_Fo_read 44 = .ok (.iload_n 3, 1) := by decide +kernel
theorem d_Fo_read_45 : decode cc_Fo_read 45 = .ok (.bipush (-100), 2) := by decide +kernel
theorem d_Fo_read_47 : decode cc_Fo_read 47 = .ok (.if_icmp .eq 11, 3) := by decide +kernel
theorem d_Fo_read_50 : decode cc_Fo_read 50 = .ok (.aload_n 0, 1) := by decide +kernel
theorem d_Fo_read_51 : decode cc_Fo_read 51 = .ok (.getfield 14, 3) := by decide +kernel
theorem d_Fo_read_54 : decode cc_Fo_read 54 = .ok (.iconst 0, 1) := by decide +kernel
theorem d_Fo_read_55 : decode cc_Fo_read 55 = .ok (.putfield 62, 3) := by decide +kernel
theorem d_Fo_read_58 : decode cc_Fo_read 58 = .ok (.iload_n 3, 1) := by decide +kernel
theorem d_Fo_read_59 : decode cc_Fo_read 59 = .ok (.ireturn, 1) := by decide +kernel
theorem d_Fo_fill_0 : decode cc_Fo_fill 0 = .ok (.aload_n 0, 1) := by decide +kernel
theorem d_Fo_fill_1 : decode cc_Fo_fill 1 = .ok (.iload_n 1, 1) := by decide +kernel
theorem d_Fo_fill_2 : decode cc_Fo_fill 2 = .ok (.invokevirtual 73, 3) := by decide +kernel
theorem d_Fo_fill_5 : decode cc_Fo_fill 5 = .ok (.astore 4, 2) := by decide +kernel
theorem d_Fo_fill_7 : decode cc_Fo_fill 7 = .ok (.aload_n 0, 1) := by decide +kernel
theorem d_Fo_fill_8 : decode cc_Fo_fill 8 = .ok (.iload_n 3, 1) := by decide +kernel
theorem d_Fo_fill_9 : decode cc_Fo_fill 9 = .ok (.invokevirtual 73, 3) := by decide +kernel
theorem d_Fo_fill_12 : decode cc_Fo_fill 12 = .ok (.astore 5, 2) := by decide +kernel
theorem d_Fo_fill_14 : decode cc_Fo_fill 14 = .ok (.aload 4, 2) := by decide +kernel
theorem d_Fo_fill_16 : decode cc_Fo_fill 16 = .ok (.ifnull 8, 3) := by decide +kernel
theorem d_Fo_fill_19 : decode cc_Fo_fill 19 = .ok (.aload 5, 2) := by decide +kernel
theorem d_Fo_fill_21 : decode cc_Fo_fill 21 = .ok (.ifnonnull 6, 3) := by decide +kernel
theorem d_Fo_fill_24 : decode cc_Fo_fill 24 = .ok (.bipush (-100), 2) := by decide +kernel
theorem d_Fo_fill_26 : decode cc_Fo_fill 26 = .ok (.ireturn, 1) := by decide +kernel
theorem d_Fo_fill_27 : decode cc_Fo_fill 27 = .ok (.aload 4, 2) := by decide +kernel
theorem d_Fo_fill_29 : decode cc_Fo_fill 29 = .ok (.iload_n 2, 1) := by decide +kernel
theorem d_Fo_fill_30 : decode cc_Fo_fill 30 = .ok (.invokevirtual 104, 3) := by decide +kernel
theorem d_Fo_fill_33 : decode cc_Fo_fill 33 = .ok (.ifCond .eq 24, 3) := by decide +kernel
theorem d_Fo_fill_36 : decode cc_Fo_fill 36 = .ok (.aload 5, 2) := by decide +kernel
theorem d_Fo_fill_38 : decode cc_Fo_fill 38 = .ok (.getfield 77, 3) := by decide +kernel
theorem d_Fo_fill_41 : decode cc_Fo_fill 41 = .ok (.iconst 2, 1) := by decide +kernel
theorem d_Fo_fill_42 : decode cc_Fo_fill 42 = .ok (.if_icmp .ne 15, 3) := by decide +kernel
theorem d_Fo_fill_45 : decode cc_Fo_fill 45 = .ok (.aload_n 0, 1) := by decide +kernel
theorem d_Fo_fill_46 : decode cc_Fo_fill 46 = .ok (.aload 4, 2) := by decide +kernel
theorem d_Fo_fill_48 : decode cc_Fo_fill 48 = .ok (.iload_n 2, 1) := by decide +kernel
theorem d_Fo_fill_49 : decode cc_Fo_fill 49 = .ok (.aload 5, 2) := by decide +kernel
theorem d_Fo_fill_51 : decode cc_Fo_fill 51 = .ok (.invokevirtual 108, 3) := by decide +kernel
theorem d_Fo_fill_54 : decode cc_Fo_fill 54 = .ok (.ifCond .ne 6, 3) := by decide +kernel
theorem d_Fo_fill_57 : decode cc_Fo_fill 57 = .ok (.bipush (-100), 2) := by decide +kernel
theorem d_Fo_fill_59 : decode cc_Fo_fill 59 = .ok (.ireturn, 1) := by decide +kernel
theorem d_Fo_fill_60 : decode cc_Fo_fill 60 = .ok (.aload_n 0, 1) := by decide +kernel
theorem d_Fo_fill_61 : decode cc_Fo_fill 61 = .ok (.getfield 24, 3) := by decide +kernel
theorem d_Fo_fill_64 : decode cc_Fo_fill 64 = .ok (.aload_n 0, 1) := by decide +kernel
theorem d_Fo_fill_65 : decode cc_Fo_fill 65 = .ok (.getfield 18, 3) := by decide +kernel
theorem d_Fo_fill_68 : decode cc_Fo_fill 68 = .ok (.aload 4, 2) := by decide +kernel
theorem d_Fo_fill_70 : decode cc_Fo_fill 70 = .ok (.getfield 77, 3) := by decide +kernel
theorem d_Fo_fill_73 : decode cc_Fo_fill 73 = .ok (.invokevirtual 66, 3) := by decide +kernel
theorem d_Fo_fill_76 : decode cc_Fo_fill 76 = .ok (.iconst (-1), 1) := by decide +kernel
theorem d_Fo_fill_77 : decode cc_Fo_fill 77 = .ok (.if_icmp .eq 6, 3) := by decide +kernel
theorem d_Fo_fill_80 : decode cc_Fo_fill 80 = .ok (.bipush (-100), 2) := by decide +kernel
theorem d_Fo_fill_82 : decode cc_Fo_fill 82 = .ok (.ireturn, 1) := by decide +kernel
theorem d_Fo_fill_83 : decode cc_Fo_fill 83 = .ok (.aload_n 0, 1) := by decide +kernel
theorem d_Fo_fill_84 : decode cc_Fo_fill 84 = .ok (.aload_n 0, 1) := by decide +kernel
theorem d_Fo_fill_85 : decode cc_Fo_fill 85 = .ok (.getfield 18, 3) := by decide +kernel
theorem d_Fo_fill_88 : decode cc_Fo_fill 88 = .ok (.aload 4, 2) := by decide +kernel
theorem d_Fo_fill_90 : decode cc_Fo_fill 90 = .ok (.getfield 80, 3) := by decide +kernel
theorem d_Fo_fill_93 : decode cc_Fo_fill 93 = .ok (.invokevirtual 70, 3) := by decide +kernel
theorem d_Fo_fill_96 : decode cc_Fo_fill 96 = .ok (.ireturn, 1) := by decide +kernel
theorem d_Fo_init_0 : decode cc_Fo_init 0 = .ok (.aload_n 0, 1) := by decide +kernel
theorem d_Fo_init_1 : decode cc_Fo_init 1 = .ok (.invokespecial 1, 3) := by decide +kernel
theorem d_Fo_init_4 : decode cc_Fo_init 4 = .ok (.aload_n 0, 1) := by decide +kernel
theorem d_Fo_init_5 : decode cc_Fo_init 5 = .ok (.new 7, 3) := by decide +kernel
theorem d_Fo_init_8 : decode cc_Fo_init 8 = .ok (.dup, 1) := by decide +kernel
theorem d_Fo_init_9 : decode cc_Fo_init 9 = .ok (.bipush 40, 2) := by decide +kernel
theorem d_Fo_init_11 : decode cc_Fo_init 11 = .ok (.invokespecial 11, 3) := by decide +kernel
theorem d_Fo_init_14 : decode cc_Fo_init 14 = .ok (.putfield 14, 3) := by decide +kernel
theorem d_Fo_init_17 : decode cc_Fo_init 17 = .ok (.aload_n 0, 1) := by decide +kernel
theorem d_Fo_init_18 : decode cc_Fo_init 18 = .ok (.new 7, 3) := by decide +kernel
theorem d_Fo_init_21 : decode cc_Fo_init 21 = .ok (.dup, 1) := by decide +kernel
theorem d_Fo_init_22 : decode cc_Fo_init 22 = .ok (.bipush 120, 2) := by decide +kernel
theorem d_Fo_init_24 : decode cc_Fo_init 24 = .ok (.invokespecial 11, 3) := by decide +kernel
theorem d_Fo_init_27 : decode cc_Fo_init 27 = .ok (.putfield 18, 3) := by decide +kernel
theorem d_Fo_init_30 : decode cc_Fo_init 30 = .ok (.aload_n 0, 1) := by decide +kernel
theorem d_Fo_init_31 : decode cc_Fo_init 31 = .ok (.new 21, 3) := by decide +kernel
theorem d_Fo_init_34 : decode cc_Fo_init 34 = .ok (.dup, 1) := by decide +kernel
theorem d_Fo_init_35 : decode cc_Fo_init 35 = .ok (.invokespecial 23, 3) := by decide +kernel
theorem d_Fo_init_38 : decode cc_Fo_init 38 = .ok (.putfield 24, 3) := by decide +kernel
theorem d_Fo_init_41 : decode cc_Fo_init 41 = .ok (.aload_n 0, 1) := by decide +kernel
theorem d_Fo_init_42 : decode cc_Fo_init 42 = .ok (.new 28, 3) := by decide +kernel
theorem d_Fo_init_45 : decode cc_Fo_init 45 = .ok (.dup, 1) := by decide +kernel
theorem d_Fo_init_46 : decode cc_Fo_init 46 = .ok (.invokespecial 30, 3) := by decide +kernel
theorem d_Fo_init_49 : decode cc_Fo_init 49 = .ok (.putfield 31, 3) := by decide +kernel
theorem d_Fo_init_52 : decode cc_Fo_init 52 = .ok (.aload_n 0, 1) := by decide +kernel
theorem d_Fo_init_53 : decode cc_Fo_init 53 = .ok (.new 35, 3) := by decide +kernel
theorem d_Fo_init_56 : decode cc_Fo_init 56 = .ok (.dup, 1) := by decide +kernel
theorem d_Fo_init_57 : decode cc_Fo_init 57 = .ok (.invokespecial 37, 3) := by decide +kernel
theorem d_Fo_init_60 : decode cc_Fo_init 60 = .ok (.putfield 38, 3) := by decide +kernel
theorem d_Fo_init_63 : decode cc_Fo_init 63 = .ok (.aload_n 0, 1) := by decide +kernel
theorem d_Fo_init_64 : decode cc_Fo_init 64 = .ok (.new 42, 3) := by decide +kernel
theorem d_Fo_init_67 : decode cc_Fo_init 67 = .ok (.dup, 1) := by decide +kernel
theorem d_Fo_init_68 : decode cc_Fo_init 68 = .ok (.invokespecial 44, 3) := by decide +kernel
theorem d_Fo_init_71 : decode cc_Fo_init 71 = .ok (.putfield 45, 3) := by decide +kernel
theorem d_Fo_init_74 : decode cc_Fo_init 74 = .ok (.aload_n 0, 1) := by decide +kernel
theorem d_Fo_init_75 : decode cc_Fo_init 75 = .ok (.new 42, 3) := by decide +kernel
theorem d_Fo_init_78 : decode cc_Fo_init 78 = .ok (.dup, 1) := by decide +kernel
theorem d_Fo_init_79 : decode cc_Fo_init 79 = .ok (.invokespecial 44, 3) := by decide +kernel
theorem d_Fo_init_82 : decode cc_Fo_init 82 = .ok (.putfield 49, 3) := by decide +kernel
theorem d_Fo_init_85 : decode cc_Fo_init 85 = .ok (.aload_n 0, 1) := by decide +kernel
theorem d_Fo_init_86 : decode cc_Fo_init 86 = .ok (.bipush 24, 2) := by decide +kernel
theorem d_Fo_init_88 : decode cc_Fo_init 88 = .ok (.anewarray 52, 3) := by decide +kernel
theorem d_Fo_init_91 : decode cc_Fo_init 91 = .ok (.putfield 54, 3) := by decide +kernel
theorem d_Fo_init_94 : decode cc_Fo_init 94 = .ok (.return_, 1) := by decide +kernel
