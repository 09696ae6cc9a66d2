theorem d_JP_checkIndex_0 : decode cc_JP_checkIndex 0 = .ok (.iload_n 0, 1) := by decide +kernel
theorem d_JP_checkIndex_1 : decode cc_JP_checkIndex 1 = .ok (.ifCond .lt 8, 3) := by decide +kernel
theorem d_JP_checkIndex_4 : decode cc_JP_checkIndex 4 = .ok (.iload_n 0, 1) := by decide +kernel
theorem d_JP_checkIndex_5 : decode cc_JP_checkIndex 5 = .ok (.iload_n 1, 1) := by decide +kernel
theorem d_JP_checkIndex_6 : decode cc_JP_checkIndex 6 = .ok (.if_icmp .lt 10, 3) := by decide +kernel
theorem d_JP_checkIndex_9 : decode cc_JP_checkIndex 9 = .ok (.aload_n 2, 1) := by decide +kernel
theorem d_JP_checkIndex_10 : decode cc_JP_checkIndex 10 = .ok (.iload_n 0, 1) := by decide +kernel
theorem d_JP_checkIndex_11 : decode cc_JP_checkIndex 11 = .ok (.iload_n 1, 1) := by decide +kernel
theorem d_JP_checkIndex_12 : decode cc_JP_checkIndex 12 = .ok (.invokestatic 95, 3) := by decide +kernel
theorem d_JP_checkIndex_15 : decode cc_JP_checkIndex 15 = .ok (.athrow, 1) := by decide +kernel
theorem d_JP_checkIndex_16 : decode cc_JP_checkIndex 16 = .ok (.iload_n 0, 1) := by decide +kernel
theorem d_JP_checkIndex_17 : decode cc_JP_checkIndex 17 = .ok (.ireturn, 1) := by decide +kernel
theorem d_JS_checkIndex_0 : decode cc_JS_checkIndex 0 = .ok (.iload_n 0, 1) := by decide +kernel
theorem d_JS_checkIndex_1 : decode cc_JS_checkIndex 1 = .ok (.iload_n 1, 1) := by decide +kernel
theorem d_JS_checkIndex_2 : decode cc_JS_checkIndex 2 = .ok (.getstatic 1053, 3) := by decide +kernel
theorem d_JS_checkIndex_5 : decode cc_JS_checkIndex 5 = .ok (.invokestatic 1059, 3) := by decide +kernel
theorem d_JS_checkIndex_8 : decode cc_JS_checkIndex 8 = .ok (.pop, 1) := by decide +kernel
theorem d_JS_checkIndex_9 : decode cc_JS_checkIndex 9 = .ok (.return_, 1) := by decide +kernel
theorem d_JS_isLatin1_0 : decode cc_JS_isLatin1 0 = .ok (.getstatic 38, 3) := by decide +kernel
theorem d_JS_isLatin1_3 : decode cc_JS_isLatin1 3 = .ok (.ifCond .eq 14, 3) := by decide +kernel
theorem d_JS_isLatin1_6 : decode cc_JS_isLatin1 6 = .ok (.aload_n 0, 1) := by decide +kernel
theorem d_JS_isLatin1_7 : decode cc_JS_isLatin1 7 = .ok (.getfield 15, 3) := by decide +kernel
theorem d_JS_isLatin1_10 : decode cc_JS_isLatin1 10 = .ok (.ifCond .ne 7, 3) := by decide +kernel
theorem d_JS_isLatin1_13 : decode cc_JS_isLatin1 13 = .ok (.iconst 1, 1) := by decide +kernel
theorem d_JS_isLatin1_14 : decode cc_JS_isLatin1 14 = .ok (.goto 4, 3) := by decide +kernel
theorem d_JS_isLatin1_17 : decode cc_JS_isLatin1 17 = .ok (.iconst 0, 1) := by decide +kernel
theorem d_JS_isLatin1_18 : decode cc_JS_isLatin1 18 = .ok (.ireturn, 1) := by decide +kernel
theorem d_JS_coder_0 : decode cc_JS_coder 0 = .ok (.getstatic 38, 3) := by decide +kernel
theorem d_JS_coder_3 : decode cc_JS_coder 3 = .ok (.ifCond .eq 10, 3) := by decide +kernel
theorem d_JS_coder_6 : decode cc_JS_coder 6 = .ok (.aload_n 0, 1) := by decide +kernel
theorem d_JS_coder_7 : decode cc_JS_coder 7 = .ok (.getfield 15, 3) := by decide +kernel
theorem d_JS_coder_10 : decode cc_JS_coder 10 = .ok (.goto 4, 3) := by decide +kernel
theorem d_JS_coder_13 : decode cc_JS_coder 13 = .ok (.iconst 1, 1) := by decide +kernel
theorem d_JS_coder_14 : decode cc_JS_coder 14 = .ok (.ireturn, 1) := by decide +kernel
theorem d_JS_length_0 : decode cc_JS_length 0 = .ok (.aload_n 0, 1) := by decide +kernel
theorem d_JS_length_1 : decode cc_JS_length 1 = .ok (.getfield 9, 3) := by decide +kernel
theorem d_JS_length_4 : decode cc_JS_length 4 = .ok (.arraylength, 1) := by decide +kernel
theorem d_JS_length_5 : decode cc_JS_length 5 = .ok (.aload_n 0, 1) := by decide +kernel
theorem d_JS_length_6 : decode cc_JS_length 6 = .ok (.invokevirtual 335, 3) := by decide +kernel
theorem d_JS_length_9 : decode cc_JS_length 9 = .ok (.ishr, 1) := by decide +kernel
theorem d_JS_length_10 : decode cc_JS_length 10 = .ok (.ireturn, 1) := by decide +kernel
theorem d_JL_charAt_0 : decode cc_JL_charAt 0 = .ok (.iload_n 1, 1) := by decide +kernel
theorem d_JL_charAt_1 : decode cc_JL_charAt 1 = .ok (.aload_n 0, 1) := by decide +kernel
theorem d_JL_charAt_2 : decode cc_JL_charAt 2 = .ok (.arraylength, 1) := by decide +kernel
theorem d_JL_charAt_3 : decode cc_JL_charAt 3 = .ok (.invokestatic 9, 3) := by decide +kernel
theorem d_JL_charAt_6 : decode cc_JL_charAt 6 = .ok (.aload_n 0, 1) := by decide +kernel
theorem d_JL_charAt_7 : decode cc_JL_charAt 7 = .ok (.iload_n 1, 1) := by decide +kernel
theorem d_JL_charAt_8 : decode cc_JL_charAt 8 = .ok (.baload, 1) := by decide +kernel
theorem d_JL_charAt_9 : decode cc_JL_charAt 9 = .ok (.sipush 255, 3) := by decide +kernel
theorem d_JL_charAt_12 : decode cc_JL_charAt 12 = .ok (.iand, 1) := by decide +kernel
theorem d_JL_charAt_13 : decode cc_JL_charAt 13 = .ok (.i2c, 1) := by decide +kernel
theorem d_JL_charAt_14 : decode cc_JL_charAt 14 = .ok (.ireturn, 1) := by decide +kernel
theorem d_JS_charAt_0 : decode cc_JS_charAt 0 = .ok (.aload_n 0, 1) := by decide +kernel
theorem d_JS_charAt_1 : decode cc_JS_charAt 1 = .ok (.invokevirtual 492, 3) := by decide +kernel
theorem d_JS_charAt_4 : decode cc_JS_charAt 4 = .ok (.ifCond .eq 12, 3) := by decide +kernel
theorem d_JS_charAt_7 : decode cc_JS_charAt 7 = .ok (.aload_n 0, 1) := by decide +kernel
theorem d_JS_charAt_8 : decode cc_JS_charAt 8 = .ok (.getfield 9, 3) := by decide +kernel
theorem d_JS_charAt_11 : decode cc_JS_charAt 11 = .ok (.iload_n 1, 1) := by decide +kernel
theorem d_JS_charAt_12 : decode cc_JS_charAt 12 = .ok (.invokestatic 495, 3) := by decide +kernel
theorem d_JS_charAt_15 : decode cc_JS_charAt 15 = .ok (.ireturn, 1) := by decide +kernel
theorem d_JS_charAt_16 : decode cc_JS_charAt 16 = .ok (.aload_n 0, 1) := by decide +kernel
theorem d_JS_charAt_17 : decode cc_JS_charAt 17 = .ok (.getfield 9, 3) := by decide +kernel
theorem d_JS_charAt_20 : decode cc_JS_charAt 20 = .ok (.iload_n 1, 1) := by decide +kernel
theorem d_JS_charAt_21 : decode cc_JS_charAt 21 = .ok (.invokestatic 498, 3) := by decide +kernel
theorem d_JS_charAt_24 : decode cc_JS_charAt 24 = .ok (.ireturn, 1) := by decide +kernel
theorem d_JL_canEncode_0 : decode cc_JL_canEncode 0 = .ok (.iload_n 0, 1) := by decide +kernel
theorem d_JL_canEncode_1 : decode cc_JL_canEncode 1 = .ok (.ifCond .lt 14, 3) := by decide +kernel
theorem d_JL_canEncode_4 : decode cc_JL_canEncode 4 = .ok (.iload_n 0, 1) := by decide +kernel
theorem d_JL_canEncode_5 : decode cc_JL_canEncode 5 = .ok (.sipush 255, 3) := by decide +kernel
theorem d_JL_canEncode_8 : decode cc_JL_canEncode 8 = .ok (.if_icmp .gt 7, 3) := by decide +kernel
theorem d_JL_canEncode_11 : decode cc_JL_canEncode 11 = .ok (.iconst 1, 1) := by decide +kernel
theorem d_JL_canEncode_12 : decode cc_JL_canEncode 12 = .ok (.goto 4, 3) := by decide +kernel
theorem d_JL_canEncode_15 : decode cc_JL_canEncode 15 = .ok (.iconst 0, 1) := by decide +kernel
theorem d_JL_canEncode_16 : decode cc_JL_canEncode 16 = .ok (.ireturn, 1) := by decide +kernel
theorem d_JL_indexOfChar_0 : decode cc_JL_indexOfChar 0 = .ok (.iload_n 1, 1) := by decide +kernel
theorem d_JL_indexOfChar_1 : decode cc_JL_indexOfChar 1 = .ok (.i2b, 1) := by decide +kernel
theorem d_JL_indexOfChar_2 : decode cc_JL_indexOfChar 2 = .ok (.istore 4, 2) := by decide +kernel
theorem d_JL_indexOfChar_4 : decode cc_JL_indexOfChar 4 = .ok (.iload_n 2, 1) := by decide +kernel
theorem d_JL_indexOfChar_5 : decode cc_JL_indexOfChar 5 = .ok (.istore 5, 2) := by decide +kernel
theorem d_JL_indexOfChar_7 : decode cc_JL_indexOfChar 7 = .ok (.iload 5, 2) := by decide +kernel
theorem d_JL_indexOfChar_9 : decode cc_JL_indexOfChar 9 = .ok (.iload_n 3, 1) := by decide +kernel
theorem d_JL_indexOfChar_10 : decode cc_JL_indexOfChar 10 = .ok (.if_icmp .ge 21, 3) := by decide +kernel
theorem d_JL_indexOfChar_13 : decode cc_JL_indexOfChar 13 = .ok (.aload_n 0, 1) := by decide +kernel
theorem d_JL_indexOfChar_14 : decode cc_JL_indexOfChar 14 = .ok (.iload 5, 2) := by decide +kernel
theorem d_JL_indexOfChar_16 : decode cc_JL_indexOfChar 16 = .ok (.baload, 1) := by decide +kernel
theorem d_JL_indexOfChar_17 : decode cc_JL_indexOfChar 17 = .ok (.iload 4, 2) := by decide +kernel
theorem d_JL_indexOfChar_19 : decode cc_JL_indexOfChar 19 = .ok (.if_icmp .ne 6, 3) := by decide +kernel
theorem d_JL_indexOfChar_22 : decode cc_JL_indexOfChar 22 = .ok (.iload 5, 2) := by decide +kernel
theorem d_JL_indexOfChar_24 : decode cc_JL_indexOfChar 24 = .ok (.ireturn, 1) := by decide +kernel
theorem d_JL_indexOfChar_25 : decode cc_JL_indexOfChar 25 = .ok (.iinc 5 1, 3) := by decide +kernel
theorem d_JL_indexOfChar_28 : decode cc_JL_indexOfChar 28 = .ok (.goto (-21), 3) := by decide +kernel
theorem d_JL_indexOfChar_31 : decode cc_JL_indexOfChar 31 = .ok (.iconst (-1), 1) := by decide +kernel
theorem d_JL_indexOfChar_32 : decode cc_JL_indexOfChar 32 = .ok (.ireturn, 1) := by decide +kernel
theorem d_JL_indexOf_0 : decode cc_JL_indexOf 0 = .ok (.iload_n 1, 1) := by decide +kernel
theorem d_JL_indexOf_1 : decode cc_JL_indexOf 1 = .ok (.invokestatic 88, 3) := by decide +kernel
theorem d_JL_indexOf_4 : decode cc_JL_indexOf 4 = .ok (.ifCond .ne 5, 3) := by decide +kernel
theorem d_JL_indexOf_7 : decode cc_JL_indexOf 7 = .ok (.iconst (-1), 1) := by decide +kernel
theorem d_JL_indexOf_8 : decode cc_JL_indexOf 8 = .ok (.ireturn, 1) := by decide +kernel
theorem d_JL_indexOf_9 : decode cc_JL_indexOf 9 = .ok (.iload_n 2, 1) := by decide +kernel
theorem d_JL_indexOf_10 : decode cc_JL_indexOf 10 = .ok (.iconst 0, 1) := by decide +kernel
theorem d_JL_indexOf_11 : decode cc_JL_indexOf 11 = .ok (.invokestatic 92, 3) := by decide +kernel
theorem d_JL_indexOf_14 : decode cc_JL_indexOf 14 = .ok (.istore_n 2, 1) := by decide +kernel
theorem d_JL_indexOf_15 : decode cc_JL_indexOf 15 = .ok (.iload_n 3, 1) := by decide +kernel
theorem d_JL_indexOf_16 : decode cc_JL_indexOf 16 = .ok (.aload_n 0, 1) := by decide +kernel
theorem d_JL_indexOf_17 : decode cc_JL_indexOf 17 = .ok (.arraylength, 1) := by decide +kernel
theorem d_JL_indexOf_18 : decode cc_JL_indexOf 18 = .ok (.invokestatic 38, 3) := by decide +kernel
theorem d_JL_indexOf_21 : decode cc_JL_indexOf 21 = .ok (.istore_n 3, 1) := by decide +kernel
theorem d_JL_indexOf_22 : decode cc_JL_indexOf 22 = .ok (.iload_n 2, 1) := by decide +kernel
theorem d_JL_indexOf_23 : decode cc_JL_indexOf 23 = .ok (.iload_n 3, 1) := by decide +kernel
theorem d_JL_indexOf_24 : decode cc_JL_indexOf 24 = .ok (.if_icmp .lt 5, 3) := by decide +kernel
theorem d_JL_indexOf_27 : decode cc_JL_indexOf 27 = .ok (.iconst (-1), 1) := by decide +kernel
theorem d_JL_indexOf_28 : decode cc_JL_indexOf 28 = .ok (.ireturn, 1) := by decide +kernel
theorem d_JL_indexOf_29 : decode cc_JL_indexOf 29 = .ok (.aload_n 0, 1) := by decide +kernel
theorem d_JL_indexOf_30 : decode cc_JL_indexOf 30 = .ok (.iload_n 1, 1) := by decide +kernel
theorem d_JL_indexOf_31 : decode cc_JL_indexOf 31 = .ok (.iload_n 2, 1) := by decide +kernel
theorem d_JL_indexOf_32 : decode cc_JL_indexOf 32 = .ok (.iload_n 3, 1) := by decide +kernel
theorem d_JL_indexOf_33 : decode cc_JL_indexOf 33 = .ok (.invokestatic 95, 3) := by decide +kernel
theorem d_JL_indexOf_36 : decode cc_JL_indexOf 36 = .ok (.ireturn, 1) := by decide +kernel
theorem d_JM_max_0 : decode cc_JM_max 0 = .ok (.iload_n 0, 1) := by decide +kernel
theorem d_JM_max_1 : decode cc_JM_max 1 = .ok (.iload_n 1, 1) := by decide +kernel
theorem d_JM_max_2 : decode cc_JM_max 2 = .ok (.if_icmp .lt 7, 3) := by decide +kernel
theorem d_JM_max_5 : decode cc_JM_max 5 = .ok (.iload_n 0, 1) := by decide +kernel
theorem d_JM_max_6 : decode cc_JM_max 6 = .ok (.goto 4, 3) := by decide +kernel
theorem d_JM_max_9 : decode cc_JM_max 9 = .ok (.iload_n 1, 1) := by decide +kernel
theorem d_JM_max_10 : decode cc_JM_max 10 = .ok (.ireturn, 1) := by decide +kernel
theorem d_JM_min_0 : decode cc_JM_min 0 = .ok (.iload_n 0, 1) := by decide +kernel
theorem d_JM_min_1 : decode cc_JM_min 1 = .ok (.iload_n 1, 1) := by decide +kernel
theorem d_JM_min_2 : decode cc_JM_min 2 = .ok (.if_icmp .gt 7, 3) := by decide +kernel
theorem d_JM_min_5 : decode cc_JM_min 5 = .ok (.iload_n 0, 1) := by decide +kernel
theorem d_JM_min_6 : decode cc_JM_min 6 = .ok (.goto 4, 3) := by decide +kernel
theorem d_JM_min_9 : decode cc_JM_min 9 = .ok (.iload_n 1, 1) := by decide +kernel
theorem d_JM_min_10 : decode cc_JM_min 10 = .ok (.ireturn, 1) := by decide +kernel
theorem d_JS_indexOf2_0 : decode cc_JS_indexOf2 0 = .ok (.aload_n 0, 1) := by decide +kernel
theorem d_JS_indexOf2_1 : decode cc_JS_indexOf2 1 = .ok (.invokevirtual 492, 3) := by decide +kernel
theorem d_JS_indexOf2_4 : decode cc_JS_indexOf2 4 = .ok (.ifCond .eq 19, 3) := by decide +kernel
theorem d_JS_indexOf2_7 : decode cc_JS_indexOf2 7 = .ok (.aload_n 0, 1) := by decide +kernel
theorem d_JS_indexOf2_8 : decode cc_JS_indexOf2 8 = .ok (.getfield 9, 3) := by decide +kernel
theorem d_JS_indexOf2_11 : decode cc_JS_indexOf2 11 = .ok (.iload_n 1, 1) := by decide +kernel
theorem d_JS_indexOf2_12 : decode cc_JS_indexOf2 12 = .ok (.iload_n 2, 1) := by decide +kernel
theorem d_JS_indexOf2_13 : decode cc_JS_indexOf2 13 = .ok (.aload_n 0, 1) := by decide +kernel
theorem d_JS_indexOf2_14 : decode cc_JS_indexOf2 14 = .ok (.invokevirtual 505, 3) := by decide +kernel
theorem d_JS_indexOf2_17 : decode cc_JS_indexOf2 17 = .ok (.invokestatic 637, 3) := by decide +kernel
theorem d_JS_indexOf2_20 : decode cc_JS_indexOf2 20 = .ok (.goto 16, 3) := by decide +kernel
theorem d_JS_indexOf2_23 : decode cc_JS_indexOf2 23 = .ok (.aload_n 0, 1) := by decide +kernel
theorem d_JS_indexOf2_24 : decode cc_JS_indexOf2 24 = .ok (.getfield 9, 3) := by decide +kernel
theorem d_JS_indexOf2_27 : decode cc_JS_indexOf2 27 = .ok (.iload_n 1, 1) := by decide +kernel
theorem d_JS_indexOf2_28 : decode cc_JS_indexOf2 28 = .ok (.iload_n 2, 1) := by decide +kernel
theorem d_JS_indexOf2_29 : decode cc_JS_indexOf2 29 = .ok (.aload_n 0, 1) := by decide +kernel
theorem d_JS_indexOf2_30 : decode cc_JS_indexOf2 30 = .ok (.invokevirtual 505, 3) := by decide +kernel
theorem d_JS_indexOf2_33 : decode cc_JS_indexOf2 33 = .ok (.invokestatic 640, 3) := by decide +kernel
theorem d_JS_indexOf2_36 : decode cc_JS_indexOf2 36 = .ok (.ireturn, 1) := by decide +kernel
theorem d_JS_indexOf_0 : decode cc_JS_indexOf 0 = .ok (.aload_n 0, 1) := by decide +kernel
theorem d_JS_indexOf_1 : decode cc_JS_indexOf 1 = .ok (.iload_n 1, 1) := by decide +kernel
theorem d_JS_indexOf_2 : decode cc_JS_indexOf 2 = .ok (.iconst 0, 1) := by decide +kernel
theorem d_JS_indexOf_3 : decode cc_JS_indexOf 3 = .ok (.invokevirtual 633, 3) := by decide +kernel
theorem d_JS_indexOf_6 : decode cc_JS_indexOf 6 = .ok (.ireturn, 1) := by decide +kernel
theorem d_Fo_beginsReference_0 : decode cc_Fo_beginsReference 0 = .ok (.iload_n 0, 1) := by decide +kernel
theorem d_Fo_beginsReference_1 : decode cc_Fo_beginsReference 1 = .ok (.bipush 9, 2) := by decide +kernel
theorem d_Fo_beginsReference_3 : decode cc_Fo_beginsReference 3 = .ok (.if_icmp .eq 15, 3) := by decide +kernel
theorem d_Fo_beginsReference_6 : decode cc_Fo_beginsReference 6 = .ok (.iload_n 0, 1) := by decide +kernel
theorem d_Fo_beginsReference_7 : decode cc_Fo_beginsReference 7 = .ok (.bipush 6, 2) := by decide +kernel
theorem d_Fo_beginsReference_9 : decode cc_Fo_beginsReference 9 = .ok (.if_icmp .eq 9, 3) := by decide +kernel
theorem d_Fo_beginsReference_12 : decode cc_Fo_beginsReference 12 = .ok (.iload_n 0, 1) := by decide +kernel
theorem d_Fo_beginsReference_13 : decode cc_Fo_beginsReference 13 = .ok (.bipush 19, 2) := by decide +kernel
theorem d_Fo_beginsReference_15 : decode cc_Fo_beginsReference 15 = .ok (.if_icmp .ne 7, 3) := by decide +kernel
theorem d_Fo_beginsReference_18 : decode cc_Fo_beginsReference 18 = .ok (.iconst 1, 1) := by decide +kernel
theorem d_Fo_beginsReference_19 : decode cc_Fo_beginsReference 19 = .ok (.goto 4, 3) := by decide +kernel
theorem d_Fo_beginsReference_22 : decode cc_Fo_beginsReference 22 = .ok (.iconst 0, 1) := by decide +kernel
theorem d_Fo_beginsReference_23 : decode cc_Fo_beginsReference 23 = .ok (.ireturn, 1) := by decide +kernel
theorem d_Fo_beginsItem_0 : decode cc_Fo_beginsItem 0 = .ok (.iload_n 0, 1) := by decide +kernel
theorem d_Fo_beginsItem_1 : decode cc_Fo_beginsItem 1 = .ok (.invokestatic 210, 3) := by decide +kernel
theorem d_Fo_beginsItem_4 : decode cc_Fo_beginsItem 4 = .ok (.ifCond .ne 21, 3) := by decide +kernel
theorem d_Fo_beginsItem_7 : decode cc_Fo_beginsItem 7 = .ok (.iload_n 0, 1) := by decide +kernel
theorem d_Fo_beginsItem_8 : decode cc_Fo_beginsItem 8 = .ok (.bipush 20, 2) := by decide +kernel
theorem d_Fo_beginsItem_10 : decode cc_Fo_beginsItem 10 = .ok (.if_icmp .eq 15, 3) := by decide +kernel
theorem d_Fo_beginsItem_13 : decode cc_Fo_beginsItem 13 = .ok (.iload_n 0, 1) := by decide +kernel
theorem d_Fo_beginsItem_14 : decode cc_Fo_beginsItem 14 = .ok (.bipush 17, 2) := by decide +kernel
theorem d_Fo_beginsItem_16 : decode cc_Fo_beginsItem 16 = .ok (.if_icmp .eq 9, 3) := by decide +kernel
theorem d_Fo_beginsItem_19 : decode cc_Fo_beginsItem 19 = .ok (.iload_n 0, 1) := by decide +kernel
theorem d_Fo_beginsItem_20 : decode cc_Fo_beginsItem 20 = .ok (.bipush 18, 2) := by decide +kernel
theorem d_Fo_beginsItem_22 : decode cc_Fo_beginsItem 22 = .ok (.if_icmp .ne 7, 3) := by decide +kernel
theorem d_Fo_beginsItem_25 : decode cc_Fo_beginsItem 25 = .ok (.iconst 1, 1) := by decide +kernel
theorem d_Fo_beginsItem_26 : decode cc_Fo_beginsItem 26 = .ok (.goto 4, 3) := by decide +kernel
theorem d_Fo_beginsItem_29 : decode cc_Fo_beginsItem 29 = .ok (.iconst 0, 1) := by decide +kernel
theorem d_Fo_beginsItem_30 : decode cc_Fo_beginsItem 30 = .ok (.ireturn, 1) := by decide +kernel
theorem d_Fo_endsItem_0 : decode cc_Fo_endsItem 0 = .ok (.iload_n 0, 1) := by decide +kernel
theorem d_Fo_endsItem_1 : decode cc_Fo_endsItem 1 = .ok (.bipush 14, 2) := by decide +kernel
theorem d_Fo_endsItem_3 : decode cc_Fo_endsItem 3 = .ok (.if_icmp .eq 27, 3) := by decide +kernel
theorem d_Fo_endsItem_6 : decode cc_Fo_endsItem 6 = .ok (.iload_n 0, 1) := by decide +kernel
theorem d_Fo_endsItem_7 : decode cc_Fo_endsItem 7 = .ok (.bipush 8, 2) := by decide +kernel
theorem d_Fo_endsItem_9 : decode cc_Fo_endsItem 9 = .ok (.if_icmp .eq 21, 3) := by decide +kernel
theorem d_Fo_endsItem_12 : decode cc_Fo_endsItem 12 = .ok (.iload_n 0, 1) := by decide +kernel
theorem d_Fo_endsItem_13 : decode cc_Fo_endsItem 13 = .ok (.bipush 20, 2) := by decide +kernel
theorem d_Fo_endsItem_15 : decode cc_Fo_endsItem 15 = .ok (.if_icmp .eq 15, 3) := by decide +kernel
theorem d_Fo_endsItem_18 : decode cc_Fo_endsItem 18 = .ok (.iload_n 0, 1) := by decide +kernel
theorem d_Fo_endsItem_19 : decode cc_Fo_endsItem 19 = .ok (.bipush 21, 2) := by decide +kernel
theorem d_Fo_endsItem_21 : decode cc_Fo_endsItem 21 = .ok (.if_icmp .eq 9, 3) := by decide +kernel
theorem d_Fo_endsItem_24 : decode cc_Fo_endsItem 24 = .ok (.iload_n 0, 1) := by decide +kernel
theorem d_Fo_endsItem_25 : decode cc_Fo_endsItem 25 = .ok (.bipush 17, 2) := by decide +kernel
theorem d_Fo_endsItem_27 : decode cc_Fo_endsItem 27 = .ok (.if_icmp .ne 7, 3) := by decide +kernel
theorem d_Fo_endsItem_30 : decode cc_Fo_endsItem 30 = .ok (.iconst 1, 1) := by decide +kernel
theorem d_Fo_endsItem_31 : decode cc_Fo_endsItem 31 = .ok (.goto 4, 3) := by decide +kernel
theorem d_Fo_endsItem_34 : decode cc_Fo_endsItem 34 = .ok (.iconst 0, 1) := by decide +kernel
theorem d_Fo_endsItem_35 : decode cc_Fo_endsItem 35 = .ok (.ireturn, 1) := by decide +kernel
theorem d_Rw_add_0 : decode cc_Rw_add 0 = .ok (.aload_n 0, 1) := by decide +kernel
theorem d_Rw_add_1 : decode cc_Rw_add 1 = .ok (.getfield 13, 3) := by decide +kernel
theorem d_Rw_add_4 : decode cc_Rw_add 4 = .ok (.aload_n 0, 1) := by decide +kernel
theorem d_Rw_add_5 : decode cc_Rw_add 5 = .ok (.getfield 7, 3) := by decide +kernel
theorem d_Rw_add_8 : decode cc_Rw_add 8 = .ok (.arraylength, 1) := by decide +kernel
theorem d_Rw_add_9 : decode cc_Rw_add 9 = .ok (.if_icmp .lt 5, 3) := by decide +kernel
theorem d_Rw_add_12 : decode cc_Rw_add 12 = .ok (.iconst 0, 1) := by decide +kernel
theorem d_Rw_add_13 : decode cc_Rw_add 13 = .ok (.ireturn, 1) := by decide +kernel
theorem d_Rw_add_14 : decode cc_Rw_add 14 = .ok (.aload_n 0, 1) := by decide +kernel
theorem d_Rw_add_15 : decode cc_Rw_add 15 = .ok (.getfield 7, 3) := by decide +kernel
theorem d_Rw_add_18 : decode cc_Rw_add 18 = .ok (.aload_n 0, 1) := by decide +kernel
theorem d_Rw_add_19 : decode cc_Rw_add 19 = .ok (.getfield 13, 3) := by decide +kernel
theorem d_Rw_add_22 : decode cc_Rw_add 22 = .ok (.iload_n 1, 1) := by decide +kernel
theorem d_Rw_add_23 : decode cc_Rw_add 23 = .ok (.castore, 1) := by decide +kernel
theorem d_Rw_add_24 : decode cc_Rw_add 24 = .ok (.aload_n 0, 1) := by decide +kernel
theorem d_Rw_add_25 : decode cc_Rw_add 25 = .ok (.dup, 1) := by decide +kernel
theorem d_Rw_add_26 : decode cc_Rw_add 26 = .ok (.getfield 13, 3) := by decide +kernel
theorem d_Rw_add_29 : decode cc_Rw_add 29 = .ok (.iconst 1, 1) := by decide +kernel
theorem d_Rw_add_30 : decode cc_Rw_add 30 = .ok (.iadd, 1) := by decide +kernel
theorem d_Rw_add_31 : decode cc_Rw_add 31 = .ok (.putfield 13, 3) := by decide +kernel
theorem d_Rw_add_34 : decode cc_Rw_add 34 = .ok (.iconst 1, 1) := by decide +kernel
theorem d_Rw_add_35 : decode cc_Rw_add 35 = .ok (.ireturn, 1) := by decide +kernel
theorem d_Rw_addText_0 : decode cc_Rw_addText 0 = .ok (.iconst 0, 1) := by decide +kernel
theorem d_Rw_addText_1 : decode cc_Rw_addText 1 = .ok (.istore_n 2, 1) := by decide +kernel
theorem d_Rw_addText_2 : decode cc_Rw_addText 2 = .ok (.iload_n 2, 1) := by decide +kernel
theorem d_Rw_addText_3 : decode cc_Rw_addText 3 = .ok (.aload_n 1, 1) := by decide +kernel
theorem d_Rw_addText_4 : decode cc_Rw_addText 4 = .ok (.invokevirtual 23, 3) := by decide +kernel
theorem d_Rw_addText_7 : decode cc_Rw_addText 7 = .ok (.if_icmp .ge 19, 3) := by decide +kernel
theorem d_Rw_addText_10 : decode cc_Rw_addText 10 = .ok (.aload_n 0, 1) := by decide +kernel
theorem d_Rw_addText_11 : decode cc_Rw_addText 11 = .ok (.aload_n 1, 1) := by decide +kernel
theorem d_Rw_addText_12 : decode cc_Rw_addText 12 = .ok (.iload_n 2, 1) := by decide +kernel
theorem d_Rw_addText_13 : decode cc_Rw_addText 13 = .ok (.invokevirtual 29, 3) := by decide +kernel
theorem d_Rw_addText_16 : decode cc_Rw_addText 16 = .ok (.invokevirtual 33, 3) := by decide +kernel
theorem d_Rw_addText_19 : decode cc_Rw_addText 19 = .ok (.pop, 1) := by decide +kernel
theorem d_Rw_addText_20 : decode cc_Rw_addText 20 = .ok (.iinc 2 1, 3) := by decide +kernel
theorem d_Rw_addText_23 : decode cc_Rw_addText 23 = .ok (.goto (-21), 3) := by decide +kernel
theorem d_Rw_addText_26 : decode cc_Rw_addText 26 = .ok (.return_, 1) := by decide +kernel
theorem d_Rw_holdsSameAs_0 : decode cc_Rw_holdsSameAs 0 = .ok (.aload_n 0, 1) := by decide +kernel
theorem d_Rw_holdsSameAs_1 : decode cc_Rw_holdsSameAs 1 = .ok (.getfield 13, 3) := by decide +kernel
theorem d_Rw_holdsSameAs_4 : decode cc_Rw_holdsSameAs 4 = .ok (.aload_n 1, 1) := by decide +kernel
theorem d_Rw_holdsSameAs_5 : decode cc_Rw_holdsSameAs 5 = .ok (.getfield 13, 3) := by decide +kernel
theorem d_Rw_holdsSameAs_8 : decode cc_Rw_holdsSameAs 8 = .ok (.if_icmp .eq 5, 3) := by decide +kernel
theorem d_Rw_holdsSameAs_11 : decode cc_Rw_holdsSameAs 11 = .ok (.iconst 0, 1) := by decide +kernel
theorem d_Rw_holdsSameAs_12 : decode cc_Rw_holdsSameAs 12 = .ok (.ireturn, 1) := by decide +kernel
theorem d_Rw_holdsSameAs_13 : decode cc_Rw_holdsSameAs 13 = .ok (.iconst 0, 1) := by decide +kernel
theorem d_Rw_holdsSameAs_14 : decode cc_Rw_holdsSameAs 14 = .ok (.istore_n 2, 1) := by decide +kernel
theorem d_Rw_holdsSameAs_15 : decode cc_Rw_holdsSameAs 15 = .ok (.iload_n 2, 1) := by decide +kernel
theorem d_Rw_holdsSameAs_16 : decode cc_Rw_holdsSameAs 16 = .ok (.aload_n 0, 1) := by decide +kernel
theorem d_Rw_holdsSameAs_17 : decode cc_Rw_holdsSameAs 17 = .ok (.getfield 13, 3) := by decide +kernel
theorem d_Rw_holdsSameAs_20 : decode cc_Rw_holdsSameAs 20 = .ok (.if_icmp .ge 44, 3) := by decide +kernel
theorem d_Rw_holdsSameAs_23 : decode cc_Rw_holdsSameAs 23 = .ok (.iload_n 2, 1) := by decide +kernel
theorem d_Rw_holdsSameAs_24 : decode cc_Rw_holdsSameAs 24 = .ok (.aload_n 0, 1) := by decide +kernel
theorem d_Rw_holdsSameAs_25 : decode cc_Rw_holdsSameAs 25 = .ok (.getfield 7, 3) := by decide +kernel
theorem d_Rw_holdsSameAs_28 : decode cc_Rw_holdsSameAs 28 = .ok (.arraylength, 1) := by decide +kernel
theorem d_Rw_holdsSameAs_29 : decode cc_Rw_holdsSameAs 29 = .ok (.if_icmp .ge 35, 3) := by decide +kernel
theorem d_Rw_holdsSameAs_32 : decode cc_Rw_holdsSameAs 32 = .ok (.iload_n 2, 1) := by decide +kernel
theorem d_Rw_holdsSameAs_33 : decode cc_Rw_holdsSameAs 33 = .ok (.aload_n 1, 1) := by decide +kernel
theorem d_Rw_holdsSameAs_34 : decode cc_Rw_holdsSameAs 34 = .ok (.getfield 7, 3) := by decide +kernel
theorem d_Rw_holdsSameAs_37 : decode cc_Rw_holdsSameAs 37 = .ok (.arraylength, 1) := by decide +kernel
theorem d_Rw_holdsSameAs_38 : decode cc_Rw_holdsSameAs 38 = .ok (.if_icmp .ge 26, 3) := by decide +kernel
theorem d_Rw_holdsSameAs_41 : decode cc_Rw_holdsSameAs 41 = .ok (.aload_n 0, 1) := by decide +kernel
theorem d_Rw_holdsSameAs_42 : decode cc_Rw_holdsSameAs 42 = .ok (.getfield 7, 3) := by decide +kernel
theorem d_Rw_holdsSameAs_45 : decode cc_Rw_holdsSameAs 45 = .ok (.iload_n 2, 1) := by decide +kernel
theorem d_Rw_holdsSameAs_46 : decode cc_Rw_holdsSameAs 46 = .ok (.caload, 1) := by decide +kernel
theorem d_Rw_holdsSameAs_47 : decode cc_Rw_holdsSameAs 47 = .ok (.aload_n 1, 1) := by decide +kernel
theorem d_Rw_holdsSameAs_48 : decode cc_Rw_holdsSameAs 48 = .ok (.getfield 7, 3) := by decide +kernel
theorem d_Rw_holdsSameAs_51 : decode cc_Rw_holdsSameAs 51 = .ok (.iload_n 2, 1) := by decide +kernel
theorem d_Rw_holdsSameAs_52 : decode cc_Rw_holdsSameAs 52 = .ok (.caload, 1) := by decide +kernel
theorem d_Rw_holdsSameAs_53 : decode cc_Rw_holdsSameAs 53 = .ok (.if_icmp .eq 5, 3) := by decide +kernel
theorem d_Rw_holdsSameAs_56 : decode cc_Rw_holdsSameAs 56 = .ok (.iconst 0, 1) := by decide +kernel
theorem d_Rw_holdsSameAs_57 : decode cc_Rw_holdsSameAs 57 = .ok (.ireturn, 1) := by decide +kernel
theorem d_Rw_holdsSameAs_58 : decode cc_Rw_holdsSameAs 58 = .ok (.iinc 2 1, 3) := by decide +kernel
theorem d_Rw_holdsSameAs_61 : decode cc_Rw_holdsSameAs 61 = .ok (.goto (-46), 3) := by decide +kernel
theorem d_Rw_holdsSameAs_64 : decode cc_Rw_holdsSameAs 64 = .ok (.iconst 1, 1) := by decide +kernel
theorem d_Rw_holdsSameAs_65 : decode cc_Rw_holdsSameAs 65 = .ok (.ireturn, 1) := by decide +kernel
theorem d_Rw_addAll_0 : decode cc_Rw_addAll 0 = .ok (.aload_n 1, 1) := by decide +kernel
theorem d_Rw_addAll_1 : decode cc_Rw_addAll 1 = .ok (.arraylength, 1) := by decide +kernel
theorem d_Rw_addAll_2 : decode cc_Rw_addAll 2 = .ok (.aload_n 0, 1) := by decide +kernel
theorem d_Rw_addAll_3 : decode cc_Rw_addAll 3 = .ok (.getfield 7, 3) := by decide +kernel
theorem d_Rw_addAll_6 : decode cc_Rw_addAll 6 = .ok (.arraylength, 1) := by decide +kernel
theorem d_Rw_addAll_7 : decode cc_Rw_addAll 7 = .ok (.aload_n 0, 1) := by decide +kernel
theorem d_Rw_addAll_8 : decode cc_Rw_addAll 8 = .ok (.getfield 13, 3) := by decide +kernel
theorem d_Rw_addAll_11 : decode cc_Rw_addAll 11 = .ok (.isub, 1) := by decide +kernel
theorem d_Rw_addAll_12 : decode cc_Rw_addAll 12 = .ok (.if_icmp .le 5, 3) := by decide +kernel
theorem d_Rw_addAll_15 : decode cc_Rw_addAll 15 = .ok (.iconst 0, 1) := by decide +kernel
theorem d_Rw_addAll_16 : decode cc_Rw_addAll 16 = .ok (.ireturn, 1) := by decide +kernel
theorem d_Rw_addAll_17 : decode cc_Rw_addAll 17 = .ok (.aload_n 1, 1) := by decide +kernel
theorem d_Rw_addAll_18 : decode cc_Rw_addAll 18 = .ok (.iconst 0, 1) := by decide +kernel
theorem d_Rw_addAll_19 : decode cc_Rw_addAll 19 = .ok (.aload_n 0, 1) := by decide +kernel
theorem d_Rw_addAll_20 : decode cc_Rw_addAll 20 = .ok (.getfield 7, 3) := by decide +kernel
theorem d_Rw_addAll_23 : decode cc_Rw_addAll 23 = .ok (.aload_n 0, 1) := by decide +kernel
theorem d_Rw_addAll_24 : decode cc_Rw_addAll 24 = .ok (.getfield 13, 3) := by decide +kernel
theorem d_Rw_addAll_27 : decode cc_Rw_addAll 27 = .ok (.aload_n 1, 1) := by decide +kernel
theorem d_Rw_addAll_28 : decode cc_Rw_addAll 28 = .ok (.arraylength, 1) := by decide +kernel
theorem d_Rw_addAll_29 : decode cc_Rw_addAll 29 = .ok (.invokestatic 17, 3) := by decide +kernel
theorem d_Rw_addAll_32 : decode cc_Rw_addAll 32 = .ok (.aload_n 0, 1) := by decide +kernel
theorem d_Rw_addAll_33 : decode cc_Rw_addAll 33 = .ok (.dup, 1) := by decide +kernel
theorem d_Rw_addAll_34 : decode cc_Rw_addAll 34 = .ok (.getfield 13, 3) := by decide +kernel
theorem d_Rw_addAll_37 : decode cc_Rw_addAll 37 = .ok (.aload_n 1, 1) := by decide +kernel
theorem d_Rw_addAll_38 : decode cc_Rw_addAll 38 = .ok (.arraylength, 1) := by decide +kernel
theorem d_Rw_addAll_39 : decode cc_Rw_addAll 39 = .ok (.iadd, 1) := by decide +kernel
theorem d_Rw_addAll_40 : decode cc_Rw_addAll 40 = .ok (.putfield 13, 3) := by decide +kernel
theorem d_Rw_addAll_43 : decode cc_Rw_addAll 43 = .ok (.iconst 1, 1) := by decide +kernel
theorem d_Rw_addAll_44 : decode cc_Rw_addAll 44 = .ok (.ireturn, 1) := by decide +kernel
theorem d_Rw_init_0 : decode cc_Rw_init 0 = .ok (.aload_n 0, 1) := by decide +kernel
theorem d_Rw_init_1 : decode cc_Rw_init 1 = .ok (.invokespecial 1, 3) := by decide +kernel
theorem d_Rw_init_4 : decode cc_Rw_init 4 = .ok (.aload_n 0, 1) := by decide +kernel
theorem d_Rw_init_5 : decode cc_Rw_init 5 = .ok (.iload_n 1, 1) := by decide +kernel
theorem d_Rw_init_6 : decode cc_Rw_init 6 = .ok (.newarray .char, 2) := by decide +kernel
theorem d_Rw_init_8 : decode cc_Rw_init 8 = .ok (.putfield 7, 3) := by decide +kernel
theorem d_Rw_init_11 : decode cc_Rw_init 11 = .ok (.return_, 1) := by decide +kernel
theorem d_Sk_start_0 : decode cc_Sk_start 0 = .ok (.aload_n 0, 1) := by decide +kernel
theorem d_Sk_start_1 : decode cc_Sk_start 1 = .ok (.iload_n 1, 1) := by decide +kernel
theorem d_Sk_start_2 : decode cc_Sk_start 2 = .ok (.putfield 9, 3) := by decide +kernel
theorem d_Sk_start_5 : decode cc_Sk_start 5 = .ok (.aload_n 0, 1) := by decide +kernel
theorem d_Sk_start_6 : decode cc_Sk_start 6 = .ok (.iconst 0, 1) := by decide +kernel
theorem d_Sk_start_7 : decode cc_Sk_start 7 = .ok (.putfield 15, 3) := by decide +kernel
theorem d_Sk_start_10 : decode cc_Sk_start 10 = .ok (.aload_n 0, 1) := by decide +kernel
theorem d_Sk_start_11 : decode cc_Sk_start 11 = .ok (.iconst (-1), 1) := by decide +kernel
theorem d_Sk_start_12 : decode cc_Sk_start 12 = .ok (.putfield 18, 3) := by decide +kernel
theorem d_Sk_start_15 : decode cc_Sk_start 15 = .ok (.return_, 1) := by decide +kernel
theorem d_Sk_pass_0 : decode cc_Sk_pass 0 = .ok (.aload_n 0, 1) := by decide +kernel
theorem d_Sk_pass_1 : decode cc_Sk_pass 1 = .ok (.getfield 15, 3) := by decide +kernel
theorem d_Sk_pass_4 : decode cc_Sk_pass 4 = .ok (.aload_n 0, 1) := by decide +kernel
theorem d_Sk_pass_5 : decode cc_Sk_pass 5 = .ok (.getfield 9, 3) := by decide +kernel
theorem d_Sk_pass_8 : decode cc_Sk_pass 8 = .ok (.if_icmp .ne 8, 3) := by decide +kernel
theorem d_Sk_pass_11 : decode cc_Sk_pass 11 = .ok (.aload_n 0, 1) := by decide +kernel
theorem d_Sk_pass_12 : decode cc_Sk_pass 12 = .ok (.iload_n 1, 1) := by decide +kernel
theorem d_Sk_pass_13 : decode cc_Sk_pass 13 = .ok (.putfield 18, 3) := by decide +kernel
theorem d_Sk_pass_16 : decode cc_Sk_pass 16 = .ok (.aload_n 0, 1) := by decide +kernel
theorem d_Sk_pass_17 : decode cc_Sk_pass 17 = .ok (.dup, 1) := by decide +kernel
theorem d_Sk_pass_18 : decode cc_Sk_pass 18 = .ok (.getfield 15, 3) := by decide +kernel
theorem d_Sk_pass_21 : decode cc_Sk_pass 21 = .ok (.iconst 1, 1) := by decide +kernel
theorem d_Sk_pass_22 : decode cc_Sk_pass 22 = .ok (.iadd, 1) := by decide +kernel
theorem d_Sk_pass_23 : decode cc_Sk_pass 23 = .ok (.putfield 15, 3) := by decide +kernel
theorem d_Sk_pass_26 : decode cc_Sk_pass 26 = .ok (.return_, 1) := by decide +kernel
theorem d_Sk_passText_0 : decode cc_Sk_passText 0 = .ok (.iconst 0, 1) := by decide +kernel
theorem d_Sk_passText_1 : decode cc_Sk_passText 1 = .ok (.istore_n 2, 1) := by decide +kernel
theorem d_Sk_passText_2 : decode cc_Sk_passText 2 = .ok (.iload_n 2, 1) := by decide +kernel
theorem d_Sk_passText_3 : decode cc_Sk_passText 3 = .ok (.aload_n 1, 1) := by decide +kernel
theorem d_Sk_passText_4 : decode cc_Sk_passText 4 = .ok (.invokevirtual 21, 3) := by decide +kernel
theorem d_Sk_passText_7 : decode cc_Sk_passText 7 = .ok (.if_icmp .ge 18, 3) := by decide +kernel
theorem d_Sk_passText_10 : decode cc_Sk_passText 10 = .ok (.aload_n 0, 1) := by decide +kernel
theorem d_Sk_passText_11 : decode cc_Sk_passText 11 = .ok (.aload_n 1, 1) := by decide +kernel
theorem d_Sk_passText_12 : decode cc_Sk_passText 12 = .ok (.iload_n 2, 1) := by decide +kernel
theorem d_Sk_passText_13 : decode cc_Sk_passText 13 = .ok (.invokevirtual 27, 3) := by decide +kernel
theorem d_Sk_passText_16 : decode cc_Sk_passText 16 = .ok (.invokevirtual 31, 3) := by decide +kernel
theorem d_Sk_passText_19 : decode cc_Sk_passText 19 = .ok (.iinc 2 1, 3) := by decide +kernel
theorem d_Sk_passText_22 : decode cc_Sk_passText 22 = .ok (.goto (-20), 3) := by decide +kernel
theorem d_Sk_passText_25 : decode cc_Sk_passText 25 = .ok (.return_, 1) := by decide +kernel
theorem d_Sk_passRow_0 : decode cc_Sk_passRow 0 = .ok (.aload_n 0, 1) := by decide +kernel
theorem d_Sk_passRow_1 : decode cc_Sk_passRow 1 = .ok (.getfield 9, 3) := by decide +kernel
theorem d_Sk_passRow_4 : decode cc_Sk_passRow 4 = .ok (.aload_n 0, 1) := by decide +kernel
theorem d_Sk_passRow_5 : decode cc_Sk_passRow 5 = .ok (.getfield 15, 3) := by decide +kernel
theorem d_Sk_passRow_8 : decode cc_Sk_passRow 8 = .ok (.isub, 1) := by decide +kernel
theorem d_Sk_passRow_9 : decode cc_Sk_passRow 9 = .ok (.istore_n 3, 1) := by decide +kernel
theorem d_Sk_passRow_10 : decode cc_Sk_passRow 10 = .ok (.iload_n 3, 1) := by decide +kernel
theorem d_Sk_passRow_11 : decode cc_Sk_passRow 11 = .ok (.ifCond .lt 21, 3) := by decide +kernel
theorem d_Sk_passRow_14 : decode cc_Sk_passRow 14 = .ok (.iload_n 3, 1) := by decide +kernel
theorem d_Sk_passRow_15 : decode cc_Sk_passRow 15 = .ok (.iload_n 2, 1) := by decide +kernel
theorem d_Sk_passRow_16 : decode cc_Sk_passRow 16 = .ok (.if_icmp .ge 16, 3) := by decide +kernel
theorem d_Sk_passRow_19 : decode cc_Sk_passRow 19 = .ok (.iload_n 3, 1) := by decide +kernel
theorem d_Sk_passRow_20 : decode cc_Sk_passRow 20 = .ok (.aload_n 1, 1) := by decide +kernel
theorem d_Sk_passRow_21 : decode cc_Sk_passRow 21 = .ok (.arraylength, 1) := by decide +kernel
theorem d_Sk_passRow_22 : decode cc_Sk_passRow 22 = .ok (.if_icmp .ge 10, 3) := by decide +kernel
theorem d_Sk_passRow_25 : decode cc_Sk_passRow 25 = .ok (.aload_n 0, 1) := by decide +kernel
theorem d_Sk_passRow_26 : decode cc_Sk_passRow 26 = .ok (.aload_n 1, 1) := by decide +kernel
theorem d_Sk_passRow_27 : decode cc_Sk_passRow 27 = .ok (.iload_n 3, 1) := by decide +kernel
theorem d_Sk_passRow_28 : decode cc_Sk_passRow 28 = .ok (.caload, 1) := by decide +kernel
theorem d_Sk_passRow_29 : decode cc_Sk_passRow 29 = .ok (.putfield 18, 3) := by decide +kernel
theorem d_Sk_passRow_32 : decode cc_Sk_passRow 32 = .ok (.aload_n 0, 1) := by decide +kernel
theorem d_Sk_passRow_33 : decode cc_Sk_passRow 33 = .ok (.dup, 1) := by decide +kernel
theorem d_Sk_passRow_34 : decode cc_Sk_passRow 34 = .ok (.getfield 15, 3) := by decide +kernel
theorem d_Sk_passRow_37 : decode cc_Sk_passRow 37 = .ok (.iload_n 2, 1) := by decide +kernel
theorem d_Sk_passRow_38 : decode cc_Sk_passRow 38 = .ok (.iadd, 1) := by decide +kernel
theorem d_Sk_passRow_39 : decode cc_Sk_passRow 39 = .ok (.putfield 15, 3) := by decide +kernel
theorem d_Sk_passRow_42 : decode cc_Sk_passRow 42 = .ok (.return_, 1) := by decide +kernel
theorem d_Sk_init_0 : decode cc_Sk_init 0 = .ok (.aload_n 0, 1) := by decide +kernel
theorem d_Sk_init_1 : decode cc_Sk_init 1 = .ok (.invokespecial 3, 3) := by decide +kernel
theorem d_Sk_init_4 : decode cc_Sk_init 4 = .ok (.return_, 1) := by decide +kernel
theorem d_Rd_reference_0 : decode cc_Rd_reference 0 = .ok (.iload_n 0, 1) := by decide +kernel
theorem d_Rd_reference_1 : decode cc_Rd_reference 1 = .ok (.lookupswitch 44 #[(76, 35), (84, 38), (91, 41)], 35) := by decide +kernel
theorem d_Rd_reference_36 : decode cc_Rd_reference 36 = .ok (.bipush 9, 2) := by decide +kernel
theorem d_Rd_reference_38 : decode cc_Rd_reference 38 = .ok (.ireturn, 1) := by decide +kernel
theorem d_Rd_reference_39 : decode cc_Rd_reference 39 = .ok (.bipush 6, 2) := by decide +kernel
theorem d_Rd_reference_41 : decode cc_Rd_reference 41 = .ok (.ireturn, 1) := by decide +kernel
theorem d_Rd_reference_42 : decode cc_Rd_reference 42 = .ok (.bipush 19, 2) := by decide +kernel
theorem d_Rd_reference_44 : decode cc_Rd_reference 44 = .ok (.ireturn, 1) := by decide +kernel
theorem d_Rd_reference_45 : decode cc_Rd_reference 45 = .ok (.iconst 0, 1) := by decide +kernel
theorem d_Rd_reference_46 : decode cc_Rd_reference 46 = .ok (.ireturn, 1) := by decide +kernel
theorem d_Rd_nameOnly_0 : decode cc_Rd_nameOnly 0 = .ok (.ldc 122, 2) := by decide +kernel
theorem d_Rd_nameOnly_2 : decode cc_Rd_nameOnly 2 = .ok (.iload_n 0, 1) := by decide +kernel
theorem d_Rd_nameOnly_3 : decode cc_Rd_nameOnly 3 = .ok (.invokevirtual 116, 3) := by decide +kernel
theorem d_Rd_nameOnly_6 : decode cc_Rd_nameOnly 6 = .ok (.ifCond .lt 7, 3) := by decide +kernel
theorem d_Rd_nameOnly_9 : decode cc_Rd_nameOnly 9 = .ok (.iconst 0, 1) := by decide +kernel
theorem d_Rd_nameOnly_10 : decode cc_Rd_nameOnly 10 = .ok (.goto 4, 3) := by decide +kernel
theorem d_Rd_nameOnly_13 : decode cc_Rd_nameOnly 13 = .ok (.iload_n 1, 1) := by decide +kernel
theorem d_Rd_nameOnly_14 : decode cc_Rd_nameOnly 14 = .ok (.ireturn, 1) := by decide +kernel
theorem d_Rd_typeOnly_0 : decode cc_Rd_typeOnly 0 = .ok (.ldc 114, 2) := by decide +kernel
theorem d_Rd_typeOnly_2 : decode cc_Rd_typeOnly 2 = .ok (.iload_n 0, 1) := by decide +kernel
theorem d_Rd_typeOnly_3 : decode cc_Rd_typeOnly 3 = .ok (.invokevirtual 116, 3) := by decide +kernel
theorem d_Rd_typeOnly_6 : decode cc_Rd_typeOnly 6 = .ok (.ifCond .lt 8, 3) := by decide +kernel
theorem d_Rd_typeOnly_9 : decode cc_Rd_typeOnly 9 = .ok (.bipush 20, 2) := by decide +kernel
theorem d_Rd_typeOnly_11 : decode cc_Rd_typeOnly 11 = .ok (.goto 7, 3) := by decide +kernel
theorem d_Rd_typeOnly_14 : decode cc_Rd_typeOnly 14 = .ok (.iload_n 0, 1) := by decide +kernel
theorem d_Rd_typeOnly_15 : decode cc_Rd_typeOnly 15 = .ok (.invokestatic 87, 3) := by decide +kernel
theorem d_Rd_typeOnly_18 : decode cc_Rd_typeOnly 18 = .ok (.ireturn, 1) := by decide +kernel
theorem d_Rd_argument_0 : decode cc_Rd_argument 0 = .ok (.iload_n 0, 1) := by decide +kernel
theorem d_Rd_argument_1 : decode cc_Rd_argument 1 = .ok (.bipush 42, 2) := by decide +kernel
theorem d_Rd_argument_3 : decode cc_Rd_argument 3 = .ok (.if_icmp .ne 6, 3) := by decide +kernel
theorem d_Rd_argument_6 : decode cc_Rd_argument 6 = .ok (.bipush 17, 2) := by decide +kernel
theorem d_Rd_argument_8 : decode cc_Rd_argument 8 = .ok (.ireturn, 1) := by decide +kernel
theorem d_Rd_argument_9 : decode cc_Rd_argument 9 = .ok (.iload_n 0, 1) := by decide +kernel
theorem d_Rd_argument_10 : decode cc_Rd_argument 10 = .ok (.bipush 43, 2) := by decide +kernel
theorem d_Rd_argument_12 : decode cc_Rd_argument 12 = .ok (.if_icmp .eq 9, 3) := by decide +kernel
theorem d_Rd_argument_15 : decode cc_Rd_argument 15 = .ok (.iload_n 0, 1) := by decide +kernel
theorem d_Rd_argument_16 : decode cc_Rd_argument 16 = .ok (.bipush 45, 2) := by decide +kernel
theorem d_Rd_argument_18 : decode cc_Rd_argument 18 = .ok (.if_icmp .ne 8, 3) := by decide +kernel
theorem d_Rd_argument_21 : decode cc_Rd_argument 21 = .ok (.bipush 18, 2) := by decide +kernel
theorem d_Rd_argument_23 : decode cc_Rd_argument 23 = .ok (.goto 7, 3) := by decide +kernel
theorem d_Rd_argument_26 : decode cc_Rd_argument 26 = .ok (.iload_n 0, 1) := by decide +kernel
theorem d_Rd_argument_27 : decode cc_Rd_argument 27 = .ok (.invokestatic 87, 3) := by decide +kernel
theorem d_Rd_argument_30 : decode cc_Rd_argument 30 = .ok (.ireturn, 1) := by decide +kernel
theorem d_Rd_closingOr_0 : decode cc_Rd_closingOr 0 = .ok (.iload_n 0, 1) := by decide +kernel
theorem d_Rd_closingOr_1 : decode cc_Rd_closingOr 1 = .ok (.bipush 46, 2) := by decide +kernel
theorem d_Rd_closingOr_3 : decode cc_Rd_closingOr 3 = .ok (.if_icmp .ne 6, 3) := by decide +kernel
theorem d_Rd_closingOr_6 : decode cc_Rd_closingOr 6 = .ok (.bipush 12, 2) := by decide +kernel
theorem d_Rd_closingOr_8 : decode cc_Rd_closingOr 8 = .ok (.ireturn, 1) := by decide +kernel
theorem d_Rd_closingOr_9 : decode cc_Rd_closingOr 9 = .ok (.iload_n 0, 1) := by decide +kernel
theorem d_Rd_closingOr_10 : decode cc_Rd_closingOr 10 = .ok (.bipush 59, 2) := by decide +kernel
theorem d_Rd_closingOr_12 : decode cc_Rd_closingOr 12 = .ok (.if_icmp .ne 8, 3) := by decide +kernel
theorem d_Rd_closingOr_15 : decode cc_Rd_closingOr 15 = .ok (.bipush 14, 2) := by decide +kernel
theorem d_Rd_closingOr_17 : decode cc_Rd_closingOr 17 = .ok (.goto 4, 3) := by decide +kernel
theorem d_Rd_closingOr_20 : decode cc_Rd_closingOr 20 = .ok (.iload_n 1, 1) := by decide +kernel
theorem d_Rd_closingOr_21 : decode cc_Rd_closingOr 21 = .ok (.ireturn, 1) := by decide +kernel
theorem d_Rd_behindArguments_0 : decode cc_Rd_behindArguments 0 = .ok (.iload_n 0, 1) := by decide +kernel
theorem d_Rd_behindArguments_1 : decode cc_Rd_behindArguments 1 = .ok (.iconst 0, 1) := by decide +kernel
theorem d_Rd_behindArguments_2 : decode cc_Rd_behindArguments 2 = .ok (.invokestatic 111, 3) := by decide +kernel
theorem d_Rd_behindArguments_5 : decode cc_Rd_behindArguments 5 = .ok (.ireturn, 1) := by decide +kernel
theorem d_Rd_inSegment_0 : decode cc_Rd_inSegment 0 = .ok (.iload_n 0, 1) := by decide +kernel
theorem d_Rd_inSegment_1 : decode cc_Rd_inSegment 1 = .ok (.bipush 60, 2) := by decide +kernel
theorem d_Rd_inSegment_3 : decode cc_Rd_inSegment 3 = .ok (.if_icmp .ne 8, 3) := by decide +kernel
theorem d_Rd_inSegment_6 : decode cc_Rd_inSegment 6 = .ok (.bipush 15, 2) := by decide +kernel
theorem d_Rd_inSegment_8 : decode cc_Rd_inSegment 8 = .ok (.goto 12, 3) := by decide +kernel
theorem d_Rd_inSegment_11 : decode cc_Rd_inSegment 11 = .ok (.iload_n 0, 1) := by decide +kernel
theorem d_Rd_inSegment_12 : decode cc_Rd_inSegment 12 = .ok (.iload_n 0, 1) := by decide +kernel
theorem d_Rd_inSegment_13 : decode cc_Rd_inSegment 13 = .ok (.iload_n 1, 1) := by decide +kernel
theorem d_Rd_inSegment_14 : decode cc_Rd_inSegment 14 = .ok (.invokestatic 77, 3) := by decide +kernel
theorem d_Rd_inSegment_17 : decode cc_Rd_inSegment 17 = .ok (.invokestatic 111, 3) := by decide +kernel
theorem d_Rd_inSegment_20 : decode cc_Rd_inSegment 20 = .ok (.ireturn, 1) := by decide +kernel
theorem d_Rd_inTypes_0 : decode cc_Rd_inTypes 0 = .ok (.iload_n 0, 1) := by decide +kernel
theorem d_Rd_inTypes_1 : decode cc_Rd_inTypes 1 = .ok (.bipush 41, 2) := by decide +kernel
theorem d_Rd_inTypes_3 : decode cc_Rd_inTypes 3 = .ok (.if_icmp .ne 8, 3) := by decide +kernel
theorem d_Rd_inTypes_6 : decode cc_Rd_inTypes 6 = .ok (.bipush 23, 2) := by decide +kernel
theorem d_Rd_inTypes_8 : decode cc_Rd_inTypes 8 = .ok (.goto 7, 3) := by decide +kernel
theorem d_Rd_inTypes_11 : decode cc_Rd_inTypes 11 = .ok (.iload_n 0, 1) := by decide +kernel
theorem d_Rd_inTypes_12 : decode cc_Rd_inTypes 12 = .ok (.invokestatic 99, 3) := by decide +kernel
theorem d_Rd_inTypes_15 : decode cc_Rd_inTypes 15 = .ok (.ireturn, 1) := by decide +kernel
theorem d_Rd_behindBound_0 : decode cc_Rd_behindBound 0 = .ok (.iload_n 0, 1) := by decide +kernel
theorem d_Rd_behindBound_1 : decode cc_Rd_behindBound 1 = .ok (.bipush 58, 2) := by decide +kernel
theorem d_Rd_behindBound_3 : decode cc_Rd_behindBound 3 = .ok (.if_icmp .ne 5, 3) := by decide +kernel
theorem d_Rd_behindBound_6 : decode cc_Rd_behindBound 6 = .ok (.iconst 4, 1) := by decide +kernel
theorem d_Rd_behindBound_7 : decode cc_Rd_behindBound 7 = .ok (.ireturn, 1) := by decide +kernel
theorem d_Rd_behindBound_8 : decode cc_Rd_behindBound 8 = .ok (.iload_n 0, 1) := by decide +kernel
theorem d_Rd_behindBound_9 : decode cc_Rd_behindBound 9 = .ok (.bipush 62, 2) := by decide +kernel
theorem d_Rd_behindBound_11 : decode cc_Rd_behindBound 11 = .ok (.if_icmp .ne 7, 3) := by decide +kernel
theorem d_Rd_behindBound_14 : decode cc_Rd_behindBound 14 = .ok (.iconst 5, 1) := by decide +kernel
theorem d_Rd_behindBound_15 : decode cc_Rd_behindBound 15 = .ok (.goto 8, 3) := by decide +kernel
theorem d_Rd_behindBound_18 : decode cc_Rd_behindBound 18 = .ok (.iload_n 0, 1) := by decide +kernel
theorem d_Rd_behindBound_19 : decode cc_Rd_behindBound 19 = .ok (.iconst 2, 1) := by decide +kernel
theorem d_Rd_behindBound_20 : decode cc_Rd_behindBound 20 = .ok (.invokestatic 77, 3) := by decide +kernel
theorem d_Rd_behindBound_23 : decode cc_Rd_behindBound 23 = .ok (.ireturn, 1) := by decide +kernel
theorem d_Rd_behindFirstColon_0 : decode cc_Rd_behindFirstColon 0 = .ok (.iload_n 0, 1) := by decide +kernel
theorem d_Rd_behindFirstColon_1 : decode cc_Rd_behindFirstColon 1 = .ok (.invokestatic 87, 3) := by decide +kernel
theorem d_Rd_behindFirstColon_4 : decode cc_Rd_behindFirstColon 4 = .ok (.istore_n 1, 1) := by decide +kernel
theorem d_Rd_behindFirstColon_5 : decode cc_Rd_behindFirstColon 5 = .ok (.iload_n 1, 1) := by decide +kernel
theorem d_Rd_behindFirstColon_6 : decode cc_Rd_behindFirstColon 6 = .ok (.ifCond .ne 10, 3) := by decide +kernel
theorem d_Rd_behindFirstColon_9 : decode cc_Rd_behindFirstColon 9 = .ok (.iload_n 0, 1) := by decide +kernel
theorem d_Rd_behindFirstColon_10 : decode cc_Rd_behindFirstColon 10 = .ok (.invokestatic 108, 3) := by decide +kernel
theorem d_Rd_behindFirstColon_13 : decode cc_Rd_behindFirstColon 13 = .ok (.goto 4, 3) := by decide +kernel
theorem d_Rd_behindFirstColon_16 : decode cc_Rd_behindFirstColon 16 = .ok (.iload_n 1, 1) := by decide +kernel
theorem d_Rd_behindFirstColon_17 : decode cc_Rd_behindFirstColon 17 = .ok (.ireturn, 1) := by decide +kernel
theorem d_Rd_behindItem_0 : decode cc_Rd_behindItem 0 = .ok (.aload_n 0, 1) := by decide +kernel
theorem d_Rd_behindItem_1 : decode cc_Rd_behindItem 1 = .ok (.getfield 31, 3) := by decide +kernel
theorem d_Rd_behindItem_4 : decode cc_Rd_behindItem 4 = .ok (.ifCond .le 19, 3) := by decide +kernel
theorem d_Rd_behindItem_7 : decode cc_Rd_behindItem 7 = .ok (.iload_n 1, 1) := by decide +kernel
theorem d_Rd_behindItem_8 : decode cc_Rd_behindItem 8 = .ok (.bipush 62, 2) := by decide +kernel
theorem d_Rd_behindItem_10 : decode cc_Rd_behindItem 10 = .ok (.if_icmp .ne 8, 3) := by decide +kernel
theorem d_Rd_behindItem_13 : decode cc_Rd_behindItem 13 = .ok (.bipush 16, 2) := by decide +kernel
theorem d_Rd_behindItem_15 : decode cc_Rd_behindItem 15 = .ok (.goto 7, 3) := by decide +kernel
theorem d_Rd_behindItem_18 : decode cc_Rd_behindItem 18 = .ok (.iload_n 1, 1) := by decide +kernel
theorem d_Rd_behindItem_19 : decode cc_Rd_behindItem 19 = .ok (.invokestatic 93, 3) := by decide +kernel
theorem d_Rd_behindItem_22 : decode cc_Rd_behindItem 22 = .ok (.ireturn, 1) := by decide +kernel
theorem d_Rd_behindItem_23 : decode cc_Rd_behindItem 23 = .ok (.aload_n 0, 1) := by decide +kernel
theorem d_Rd_behindItem_24 : decode cc_Rd_behindItem 24 = .ok (.getfield 28, 3) := by decide +kernel
theorem d_Rd_behindItem_27 : decode cc_Rd_behindItem 27 = .ok (.tableswitch 52 0 3 #[29, 52, 34, 39], 29) := by decide +kernel
theorem d_Rd_behindItem_56 : decode cc_Rd_behindItem 56 = .ok (.iload_n 1, 1) := by decide +kernel
theorem d_Rd_behindItem_57 : decode cc_Rd_behindItem 57 = .ok (.invokestatic 108, 3) := by decide +kernel
theorem d_Rd_behindItem_60 : decode cc_Rd_behindItem 60 = .ok (.ireturn, 1) := by decide +kernel
theorem d_Rd_behindItem_61 : decode cc_Rd_behindItem 61 = .ok (.iload_n 1, 1) := by decide +kernel
theorem d_Rd_behindItem_62 : decode cc_Rd_behindItem 62 = .ok (.invokestatic 102, 3) := by decide +kernel
theorem d_Rd_behindItem_65 : decode cc_Rd_behindItem 65 = .ok (.ireturn, 1) := by decide +kernel
theorem d_Rd_behindItem_66 : decode cc_Rd_behindItem 66 = .ok (.iload_n 1, 1) := by decide +kernel
theorem d_Rd_behindItem_67 : decode cc_Rd_behindItem 67 = .ok (.bipush 94, 2) := by decide +kernel
theorem d_Rd_behindItem_69 : decode cc_Rd_behindItem 69 = .ok (.if_icmp .ne 8, 3) := by decide +kernel
theorem d_Rd_behindItem_72 : decode cc_Rd_behindItem 72 = .ok (.bipush 24, 2) := by decide +kernel
theorem d_Rd_behindItem_74 : decode cc_Rd_behindItem 74 = .ok (.goto 4, 3) := by decide +kernel
theorem d_Rd_behindItem_77 : decode cc_Rd_behindItem 77 = .ok (.iconst 0, 1) := by decide +kernel
theorem d_Rd_behindItem_78 : decode cc_Rd_behindItem 78 = .ok (.ireturn, 1) := by decide +kernel
theorem d_Rd_behindItem_79 : decode cc_Rd_behindItem 79 = .ok (.aload_n 0, 1) := by decide +kernel
theorem d_Rd_behindItem_80 : decode cc_Rd_behindItem 80 = .ok (.getfield 21, 3) := by decide +kernel
theorem d_Rd_behindItem_83 : decode cc_Rd_behindItem 83 = .ok (.ifCond .ne 14, 3) := by decide +kernel
theorem d_Rd_behindItem_86 : decode cc_Rd_behindItem 86 = .ok (.iload_n 1, 1) := by decide +kernel
theorem d_Rd_behindItem_87 : decode cc_Rd_behindItem 87 = .ok (.bipush 76, 2) := by decide +kernel
theorem d_Rd_behindItem_89 : decode cc_Rd_behindItem 89 = .ok (.if_icmp .ne 8, 3) := by decide +kernel
theorem d_Rd_behindItem_92 : decode cc_Rd_behindItem 92 = .ok (.bipush 9, 2) := by decide +kernel
theorem d_Rd_behindItem_94 : decode cc_Rd_behindItem 94 = .ok (.goto 4, 3) := by decide +kernel
theorem d_Rd_behindItem_97 : decode cc_Rd_behindItem 97 = .ok (.iconst 0, 1) := by decide +kernel
theorem d_Rd_behindItem_98 : decode cc_Rd_behindItem 98 = .ok (.ireturn, 1) := by decide +kernel
theorem d_Rd_atBody_0 : decode cc_Rd_atBody 0 = .ok (.aload_n 0, 1) := by decide +kernel
theorem d_Rd_atBody_1 : decode cc_Rd_atBody 1 = .ok (.getfield 21, 3) := by decide +kernel
theorem d_Rd_atBody_4 : decode cc_Rd_atBody 4 = .ok (.iconst 1, 1) := by decide +kernel
theorem d_Rd_atBody_5 : decode cc_Rd_atBody 5 = .ok (.if_icmp .ne 16, 3) := by decide +kernel
theorem d_Rd_atBody_8 : decode cc_Rd_atBody 8 = .ok (.iload_n 1, 1) := by decide +kernel
theorem d_Rd_atBody_9 : decode cc_Rd_atBody 9 = .ok (.bipush 40, 2) := by decide +kernel
theorem d_Rd_atBody_11 : decode cc_Rd_atBody 11 = .ok (.if_icmp .ne 8, 3) := by decide +kernel
theorem d_Rd_atBody_14 : decode cc_Rd_atBody 14 = .ok (.bipush 22, 2) := by decide +kernel
theorem d_Rd_atBody_16 : decode cc_Rd_atBody 16 = .ok (.goto 4, 3) := by decide +kernel
theorem d_Rd_atBody_19 : decode cc_Rd_atBody 19 = .ok (.iconst 0, 1) := by decide +kernel
theorem d_Rd_atBody_20 : decode cc_Rd_atBody 20 = .ok (.ireturn, 1) := by decide +kernel
theorem d_Rd_atBody_21 : decode cc_Rd_atBody 21 = .ok (.iload_n 1, 1) := by decide +kernel
theorem d_Rd_atBody_22 : decode cc_Rd_atBody 22 = .ok (.bipush 76, 2) := by decide +kernel
theorem d_Rd_atBody_24 : decode cc_Rd_atBody 24 = .ok (.if_icmp .ne 8, 3) := by decide +kernel
theorem d_Rd_atBody_27 : decode cc_Rd_atBody 27 = .ok (.bipush 9, 2) := by decide +kernel
theorem d_Rd_atBody_29 : decode cc_Rd_atBody 29 = .ok (.goto 4, 3) := by decide +kernel
theorem d_Rd_atBody_32 : decode cc_Rd_atBody 32 = .ok (.iconst 0, 1) := by decide +kernel
theorem d_Rd_atBody_33 : decode cc_Rd_atBody 33 = .ok (.ireturn, 1) := by decide +kernel
theorem d_Rd_atStart_0 : decode cc_Rd_atStart 0 = .ok (.aload_n 0, 1) := by decide +kernel
theorem d_Rd_atStart_1 : decode cc_Rd_atStart 1 = .ok (.getfield 21, 3) := by decide +kernel
theorem d_Rd_atStart_4 : decode cc_Rd_atStart 4 = .ok (.iconst 2, 1) := by decide +kernel
theorem d_Rd_atStart_5 : decode cc_Rd_atStart 5 = .ok (.if_icmp .ne 8, 3) := by decide +kernel
theorem d_Rd_atStart_8 : decode cc_Rd_atStart 8 = .ok (.iload_n 1, 1) := by decide +kernel
theorem d_Rd_atStart_9 : decode cc_Rd_atStart 9 = .ok (.invokestatic 87, 3) := by decide +kernel
theorem d_Rd_atStart_12 : decode cc_Rd_atStart 12 = .ok (.ireturn, 1) := by decide +kernel
theorem d_Rd_atStart_13 : decode cc_Rd_atStart 13 = .ok (.iload_n 1, 1) := by decide +kernel
theorem d_Rd_atStart_14 : decode cc_Rd_atStart 14 = .ok (.bipush 60, 2) := by decide +kernel
theorem d_Rd_atStart_16 : decode cc_Rd_atStart 16 = .ok (.if_icmp .ne 7, 3) := by decide +kernel
theorem d_Rd_atStart_19 : decode cc_Rd_atStart 19 = .ok (.iconst 1, 1) := by decide +kernel
theorem d_Rd_atStart_20 : decode cc_Rd_atStart 20 = .ok (.goto 8, 3) := by decide +kernel
theorem d_Rd_atStart_23 : decode cc_Rd_atStart 23 = .ok (.aload_n 0, 1) := by decide +kernel
theorem d_Rd_atStart_24 : decode cc_Rd_atStart 24 = .ok (.iload_n 1, 1) := by decide +kernel
theorem d_Rd_atStart_25 : decode cc_Rd_atStart 25 = .ok (.invokevirtual 84, 3) := by decide +kernel
theorem d_Rd_atStart_28 : decode cc_Rd_atStart 28 = .ok (.ireturn, 1) := by decide +kernel
theorem d_Rd_roleOf_0 : decode cc_Rd_roleOf 0 = .ok (.aload_n 0, 1) := by decide +kernel
theorem d_Rd_roleOf_1 : decode cc_Rd_roleOf 1 = .ok (.getfield 34, 3) := by decide +kernel
theorem d_Rd_roleOf_4 : decode cc_Rd_roleOf 4 = .ok (.tableswitch 275 0 24 #[116, 122, 128, 144, 155, 149, 160, 167, 275, 185, 192, 185, 210, 217, 275, 224, 229, 275, 155, 234, 275, 275, 239, 244, 260], 116) := by decide +kernel
theorem d_Rd_roleOf_120 : decode cc_Rd_roleOf 120 = .ok (.aload_n 0, 1) := by decide +kernel
theorem d_Rd_roleOf_121 : decode cc_Rd_roleOf 121 = .ok (.iload_n 1, 1) := by decide +kernel
theorem d_Rd_roleOf_122 : decode cc_Rd_roleOf 122 = .ok (.invokevirtual 74, 3) := by decide +kernel
theorem d_Rd_roleOf_125 : decode cc_Rd_roleOf 125 = .ok (.ireturn, 1) := by decide +kernel
theorem d_Rd_roleOf_126 : decode cc_Rd_roleOf 126 = .ok (.iload_n 1, 1) := by decide +kernel
theorem d_Rd_roleOf_127 : decode cc_Rd_roleOf 127 = .ok (.iconst 2, 1) := by decide +kernel
theorem d_Rd_roleOf_128 : decode cc_Rd_roleOf 128 = .ok (.invokestatic 77, 3) := by decide +kernel
theorem d_Rd_roleOf_131 : decode cc_Rd_roleOf 131 = .ok (.ireturn, 1) := by decide +kernel
theorem d_Rd_roleOf_132 : decode cc_Rd_roleOf 132 = .ok (.iload_n 1, 1) := by decide +kernel
theorem d_Rd_roleOf_133 : decode cc_Rd_roleOf 133 = .ok (.bipush 58, 2) := by decide +kernel
theorem d_Rd_roleOf_135 : decode cc_Rd_roleOf 135 = .ok (.if_icmp .ne 7, 3) := by decide +kernel
theorem d_Rd_roleOf_138 : decode cc_Rd_roleOf 138 = .ok (.iconst 3, 1) := by decide +kernel
theorem d_Rd_roleOf_139 : decode cc_Rd_roleOf 139 = .ok (.goto 8, 3) := by decide +kernel
theorem d_Rd_roleOf_142 : decode cc_Rd_roleOf 142 = .ok (.iload_n 1, 1) := by decide +kernel
theorem d_Rd_roleOf_143 : decode cc_Rd_roleOf 143 = .ok (.iconst 2, 1) := by decide +kernel
theorem d_Rd_roleOf_144 : decode cc_Rd_roleOf 144 = .ok (.invokestatic 77, 3) := by decide +kernel
theorem d_Rd_roleOf_147 : decode cc_Rd_roleOf 147 = .ok (.ireturn, 1) := by decide +kernel
theorem d_Rd_roleOf_148 : decode cc_Rd_roleOf 148 = .ok (.iload_n 1, 1) := by decide +kernel
theorem d_Rd_roleOf_149 : decode cc_Rd_roleOf 149 = .ok (.invokestatic 81, 3) := by decide +kernel
theorem d_Rd_roleOf_152 : decode cc_Rd_roleOf 152 = .ok (.ireturn, 1) := by decide +kernel
theorem d_Rd_roleOf_153 : decode cc_Rd_roleOf 153 = .ok (.aload_n 0, 1) := by decide +kernel
theorem d_Rd_roleOf_154 : decode cc_Rd_roleOf 154 = .ok (.iload_n 1, 1) := by decide +kernel
theorem d_Rd_roleOf_155 : decode cc_Rd_roleOf 155 = .ok (.invokevirtual 84, 3) := by decide +kernel
theorem d_Rd_roleOf_158 : decode cc_Rd_roleOf 158 = .ok (.ireturn, 1) := by decide +kernel
theorem d_Rd_roleOf_159 : decode cc_Rd_roleOf 159 = .ok (.iload_n 1, 1) := by decide +kernel
theorem d_Rd_roleOf_160 : decode cc_Rd_roleOf 160 = .ok (.invokestatic 87, 3) := by decide +kernel
theorem d_Rd_roleOf_163 : decode cc_Rd_roleOf 163 = .ok (.ireturn, 1) := by decide +kernel
theorem d_Rd_roleOf_164 : decode cc_Rd_roleOf 164 = .ok (.iload_n 1, 1) := by decide +kernel
theorem d_Rd_roleOf_165 : decode cc_Rd_roleOf 165 = .ok (.bipush 7, 2) := by decide +kernel
theorem d_Rd_roleOf_167 : decode cc_Rd_roleOf 167 = .ok (.invokestatic 77, 3) := by decide +kernel
theorem d_Rd_roleOf_170 : decode cc_Rd_roleOf 170 = .ok (.ireturn, 1) := by decide +kernel
theorem d_Rd_roleOf_171 : decode cc_Rd_roleOf 171 = .ok (.iload_n 1, 1) := by decide +kernel
theorem d_Rd_roleOf_172 : decode cc_Rd_roleOf 172 = .ok (.bipush 59, 2) := by decide +kernel
theorem d_Rd_roleOf_174 : decode cc_Rd_roleOf 174 = .ok (.if_icmp .ne 8, 3) := by decide +kernel
theorem d_Rd_roleOf_177 : decode cc_Rd_roleOf 177 = .ok (.bipush 8, 2) := by decide +kernel
theorem d_Rd_roleOf_179 : decode cc_Rd_roleOf 179 = .ok (.goto 9, 3) := by decide +kernel
theorem d_Rd_roleOf_182 : decode cc_Rd_roleOf 182 = .ok (.iload_n 1, 1) := by decide +kernel
theorem d_Rd_roleOf_183 : decode cc_Rd_roleOf 183 = .ok (.bipush 7, 2) := by decide +kernel
theorem d_Rd_roleOf_185 : decode cc_Rd_roleOf 185 = .ok (.invokestatic 77, 3) := by decide +kernel
theorem d_Rd_roleOf_188 : decode cc_Rd_roleOf 188 = .ok (.ireturn, 1) := by decide +kernel
theorem d_Rd_roleOf_189 : decode cc_Rd_roleOf 189 = .ok (.iload_n 1, 1) := by decide +kernel
theorem d_Rd_roleOf_190 : decode cc_Rd_roleOf 190 = .ok (.bipush 10, 2) := by decide +kernel
theorem d_Rd_roleOf_192 : decode cc_Rd_roleOf 192 = .ok (.invokestatic 77, 3) := by decide +kernel
theorem d_Rd_roleOf_195 : decode cc_Rd_roleOf 195 = .ok (.ireturn, 1) := by decide +kernel
theorem d_Rd_roleOf_196 : decode cc_Rd_roleOf 196 = .ok (.iload_n 1, 1) := by decide +kernel
theorem d_Rd_roleOf_197 : decode cc_Rd_roleOf 197 = .ok (.bipush 47, 2) := by decide +kernel
theorem d_Rd_roleOf_199 : decode cc_Rd_roleOf 199 = .ok (.if_icmp .ne 8, 3) := by decide +kernel
theorem d_Rd_roleOf_202 : decode cc_Rd_roleOf 202 = .ok (.bipush 11, 2) := by decide +kernel
theorem d_Rd_roleOf_204 : decode cc_Rd_roleOf 204 = .ok (.goto 9, 3) := by decide +kernel
theorem d_Rd_roleOf_207 : decode cc_Rd_roleOf 207 = .ok (.iload_n 1, 1) := by decide +kernel
theorem d_Rd_roleOf_208 : decode cc_Rd_roleOf 208 = .ok (.bipush 10, 2) := by decide +kernel
theorem d_Rd_roleOf_210 : decode cc_Rd_roleOf 210 = .ok (.invokestatic 90, 3) := by decide +kernel
theorem d_Rd_roleOf_213 : decode cc_Rd_roleOf 213 = .ok (.ireturn, 1) := by decide +kernel
theorem d_Rd_roleOf_214 : decode cc_Rd_roleOf 214 = .ok (.iload_n 1, 1) := by decide +kernel
theorem d_Rd_roleOf_215 : decode cc_Rd_roleOf 215 = .ok (.bipush 13, 2) := by decide +kernel
theorem d_Rd_roleOf_217 : decode cc_Rd_roleOf 217 = .ok (.invokestatic 77, 3) := by decide +kernel
theorem d_Rd_roleOf_220 : decode cc_Rd_roleOf 220 = .ok (.ireturn, 1) := by decide +kernel
theorem d_Rd_roleOf_221 : decode cc_Rd_roleOf 221 = .ok (.iload_n 1, 1) := by decide +kernel
theorem d_Rd_roleOf_222 : decode cc_Rd_roleOf 222 = .ok (.bipush 13, 2) := by decide +kernel
theorem d_Rd_roleOf_224 : decode cc_Rd_roleOf 224 = .ok (.invokestatic 90, 3) := by decide +kernel
theorem d_Rd_roleOf_227 : decode cc_Rd_roleOf 227 = .ok (.ireturn, 1) := by decide +kernel
theorem d_Rd_roleOf_228 : decode cc_Rd_roleOf 228 = .ok (.iload_n 1, 1) := by decide +kernel
theorem d_Rd_roleOf_229 : decode cc_Rd_roleOf 229 = .ok (.invokestatic 93, 3) := by decide +kernel
theorem d_Rd_roleOf_232 : decode cc_Rd_roleOf 232 = .ok (.ireturn, 1) := by decide +kernel
theorem d_Rd_roleOf_233 : decode cc_Rd_roleOf 233 = .ok (.iload_n 1, 1) := by decide +kernel
theorem d_Rd_roleOf_234 : decode cc_Rd_roleOf 234 = .ok (.invokestatic 96, 3) := by decide +kernel
theorem d_Rd_roleOf_237 : decode cc_Rd_roleOf 237 = .ok (.ireturn, 1) := by decide +kernel
theorem d_Rd_roleOf_238 : decode cc_Rd_roleOf 238 = .ok (.iload_n 1, 1) := by decide +kernel
theorem d_Rd_roleOf_239 : decode cc_Rd_roleOf 239 = .ok (.invokestatic 99, 3) := by decide +kernel
theorem d_Rd_roleOf_242 : decode cc_Rd_roleOf 242 = .ok (.ireturn, 1) := by decide +kernel
theorem d_Rd_roleOf_243 : decode cc_Rd_roleOf 243 = .ok (.iload_n 1, 1) := by decide +kernel
theorem d_Rd_roleOf_244 : decode cc_Rd_roleOf 244 = .ok (.invokestatic 102, 3) := by decide +kernel
theorem d_Rd_roleOf_247 : decode cc_Rd_roleOf 247 = .ok (.ireturn, 1) := by decide +kernel
theorem d_Rd_roleOf_248 : decode cc_Rd_roleOf 248 = .ok (.iload_n 1, 1) := by decide +kernel
theorem d_Rd_roleOf_249 : decode cc_Rd_roleOf 249 = .ok (.bipush 86, 2) := by decide +kernel
theorem d_Rd_roleOf_251 : decode cc_Rd_roleOf 251 = .ok (.if_icmp .ne 8, 3) := by decide +kernel
theorem d_Rd_roleOf_254 : decode cc_Rd_roleOf 254 = .ok (.bipush 21, 2) := by decide +kernel
theorem d_Rd_roleOf_256 : decode cc_Rd_roleOf 256 = .ok (.goto 7, 3) := by decide +kernel
theorem d_Rd_roleOf_259 : decode cc_Rd_roleOf 259 = .ok (.iload_n 1, 1) := by decide +kernel
theorem d_Rd_roleOf_260 : decode cc_Rd_roleOf 260 = .ok (.invokestatic 99, 3) := by decide +kernel
theorem d_Rd_roleOf_263 : decode cc_Rd_roleOf 263 = .ok (.ireturn, 1) := by decide +kernel
theorem d_Rd_roleOf_264 : decode cc_Rd_roleOf 264 = .ok (.iload_n 1, 1) := by decide +kernel
theorem d_Rd_roleOf_265 : decode cc_Rd_roleOf 265 = .ok (.bipush 91, 2) := by decide +kernel
theorem d_Rd_roleOf_267 : decode cc_Rd_roleOf 267 = .ok (.if_icmp .ne 7, 3) := by decide +kernel
theorem d_Rd_roleOf_270 : decode cc_Rd_roleOf 270 = .ok (.iconst 0, 1) := by decide +kernel
theorem d_Rd_roleOf_271 : decode cc_Rd_roleOf 271 = .ok (.goto 7, 3) := by decide +kernel
theorem d_Rd_roleOf_274 : decode cc_Rd_roleOf 274 = .ok (.iload_n 1, 1) := by decide +kernel
theorem d_Rd_roleOf_275 : decode cc_Rd_roleOf 275 = .ok (.invokestatic 87, 3) := by decide +kernel
theorem d_Rd_roleOf_278 : decode cc_Rd_roleOf 278 = .ok (.ireturn, 1) := by decide +kernel
theorem d_Rd_roleOf_279 : decode cc_Rd_roleOf 279 = .ok (.aload_n 0, 1) := by decide +kernel
theorem d_Rd_roleOf_280 : decode cc_Rd_roleOf 280 = .ok (.iload_n 1, 1) := by decide +kernel
theorem d_Rd_roleOf_281 : decode cc_Rd_roleOf 281 = .ok (.invokevirtual 105, 3) := by decide +kernel
theorem d_Rd_roleOf_284 : decode cc_Rd_roleOf 284 = .ok (.ireturn, 1) := by decide +kernel
theorem d_Rd_sameName_0 : decode cc_Rd_sameName 0 = .ok (.aload_n 0, 1) := by decide +kernel
theorem d_Rd_sameName_1 : decode cc_Rd_sameName 1 = .ok (.getfield 18, 3) := by decide +kernel
theorem d_Rd_sameName_4 : decode cc_Rd_sameName 4 = .ok (.iload_n 2, 1) := by decide +kernel
theorem d_Rd_sameName_5 : decode cc_Rd_sameName 5 = .ok (.iaload, 1) := by decide +kernel
theorem d_Rd_sameName_6 : decode cc_Rd_sameName 6 = .ok (.aload_n 0, 1) := by decide +kernel
theorem d_Rd_sameName_7 : decode cc_Rd_sameName 7 = .ok (.getfield 15, 3) := by decide +kernel
theorem d_Rd_sameName_10 : decode cc_Rd_sameName 10 = .ok (.iload_n 2, 1) := by decide +kernel
theorem d_Rd_sameName_11 : decode cc_Rd_sameName 11 = .ok (.iaload, 1) := by decide +kernel
theorem d_Rd_sameName_12 : decode cc_Rd_sameName 12 = .ok (.isub, 1) := by decide +kernel
theorem d_Rd_sameName_13 : decode cc_Rd_sameName 13 = .ok (.istore 4, 2) := by decide +kernel
theorem d_Rd_sameName_15 : decode cc_Rd_sameName 15 = .ok (.iload 4, 2) := by decide +kernel
theorem d_Rd_sameName_17 : decode cc_Rd_sameName 17 = .ok (.aload_n 0, 1) := by decide +kernel
theorem d_Rd_sameName_18 : decode cc_Rd_sameName 18 = .ok (.getfield 18, 3) := by decide +kernel
theorem d_Rd_sameName_21 : decode cc_Rd_sameName 21 = .ok (.iload_n 3, 1) := by decide +kernel
theorem d_Rd_sameName_22 : decode cc_Rd_sameName 22 = .ok (.iaload, 1) := by decide +kernel
theorem d_Rd_sameName_23 : decode cc_Rd_sameName 23 = .ok (.aload_n 0, 1) := by decide +kernel
theorem d_Rd_sameName_24 : decode cc_Rd_sameName 24 = .ok (.getfield 15, 3) := by decide +kernel
theorem d_Rd_sameName_27 : decode cc_Rd_sameName 27 = .ok (.iload_n 3, 1) := by decide +kernel
theorem d_Rd_sameName_28 : decode cc_Rd_sameName 28 = .ok (.iaload, 1) := by decide +kernel
theorem d_Rd_sameName_29 : decode cc_Rd_sameName 29 = .ok (.isub, 1) := by decide +kernel
theorem d_Rd_sameName_30 : decode cc_Rd_sameName 30 = .ok (.if_icmp .eq 5, 3) := by decide +kernel
theorem d_Rd_sameName_33 : decode cc_Rd_sameName 33 = .ok (.iconst 0, 1) := by decide +kernel
theorem d_Rd_sameName_34 : decode cc_Rd_sameName 34 = .ok (.ireturn, 1) := by decide +kernel
theorem d_Rd_sameName_35 : decode cc_Rd_sameName 35 = .ok (.iconst 0, 1) := by decide +kernel
theorem d_Rd_sameName_36 : decode cc_Rd_sameName 36 = .ok (.istore 5, 2) := by decide +kernel
theorem d_Rd_sameName_38 : decode cc_Rd_sameName 38 = .ok (.iload 5, 2) := by decide +kernel
theorem d_Rd_sameName_40 : decode cc_Rd_sameName 40 = .ok (.iload 4, 2) := by decide +kernel
theorem d_Rd_sameName_42 : decode cc_Rd_sameName 42 = .ok (.if_icmp .ge 42, 3) := by decide +kernel
theorem d_Rd_sameName_45 : decode cc_Rd_sameName 45 = .ok (.aload_n 1, 1) := by decide +kernel
theorem d_Rd_sameName_46 : decode cc_Rd_sameName 46 = .ok (.getfield 42, 3) := by decide +kernel
theorem d_Rd_sameName_49 : decode cc_Rd_sameName 49 = .ok (.aload_n 0, 1) := by decide +kernel
theorem d_Rd_sameName_50 : decode cc_Rd_sameName 50 = .ok (.getfield 15, 3) := by decide +kernel
theorem d_Rd_sameName_53 : decode cc_Rd_sameName 53 = .ok (.iload_n 2, 1) := by decide +kernel
theorem d_Rd_sameName_54 : decode cc_Rd_sameName 54 = .ok (.iaload, 1) := by decide +kernel
theorem d_Rd_sameName_55 : decode cc_Rd_sameName 55 = .ok (.iload 5, 2) := by decide +kernel
theorem d_Rd_sameName_57 : decode cc_Rd_sameName 57 = .ok (.iadd, 1) := by decide +kernel
theorem d_Rd_sameName_58 : decode cc_Rd_sameName 58 = .ok (.caload, 1) := by decide +kernel
theorem d_Rd_sameName_59 : decode cc_Rd_sameName 59 = .ok (.aload_n 1, 1) := by decide +kernel
theorem d_Rd_sameName_60 : decode cc_Rd_sameName 60 = .ok (.getfield 42, 3) := by decide +kernel
theorem d_Rd_sameName_63 : decode cc_Rd_sameName 63 = .ok (.aload_n 0, 1) := by decide +kernel
theorem d_Rd_sameName_64 : decode cc_Rd_sameName 64 = .ok (.getfield 15, 3) := by decide +kernel
theorem d_Rd_sameName_67 : decode cc_Rd_sameName 67 = .ok (.iload_n 3, 1) := by decide +kernel
theorem d_Rd_sameName_68 : decode cc_Rd_sameName 68 = .ok (.iaload, 1) := by decide +kernel
theorem d_Rd_sameName_69 : decode cc_Rd_sameName 69 = .ok (.iload 5, 2) := by decide +kernel
theorem d_Rd_sameName_71 : decode cc_Rd_sameName 71 = .ok (.iadd, 1) := by decide +kernel
theorem d_Rd_sameName_72 : decode cc_Rd_sameName 72 = .ok (.caload, 1) := by decide +kernel
theorem d_Rd_sameName_73 : decode cc_Rd_sameName 73 = .ok (.if_icmp .eq 5, 3) := by decide +kernel
theorem d_Rd_sameName_76 : decode cc_Rd_sameName 76 = .ok (.iconst 0, 1) := by decide +kernel
theorem d_Rd_sameName_77 : decode cc_Rd_sameName 77 = .ok (.ireturn, 1) := by decide +kernel
theorem d_Rd_sameName_78 : decode cc_Rd_sameName 78 = .ok (.iinc 5 1, 3) := by decide +kernel
theorem d_Rd_sameName_81 : decode cc_Rd_sameName 81 = .ok (.goto (-43), 3) := by decide +kernel
theorem d_Rd_sameName_84 : decode cc_Rd_sameName 84 = .ok (.iconst 1, 1) := by decide +kernel
theorem d_Rd_sameName_85 : decode cc_Rd_sameName 85 = .ok (.ireturn, 1) := by decide +kernel
theorem d_Rd_nameIsTaken_0 : decode cc_Rd_nameIsTaken 0 = .ok (.iconst 0, 1) := by decide +kernel
theorem d_Rd_nameIsTaken_1 : decode cc_Rd_nameIsTaken 1 = .ok (.istore_n 2, 1) := by decide +kernel
theorem d_Rd_nameIsTaken_2 : decode cc_Rd_nameIsTaken 2 = .ok (.iload_n 2, 1) := by decide +kernel
theorem d_Rd_nameIsTaken_3 : decode cc_Rd_nameIsTaken 3 = .ok (.aload_n 0, 1) := by decide +kernel
theorem d_Rd_nameIsTaken_4 : decode cc_Rd_nameIsTaken 4 = .ok (.getfield 25, 3) := by decide +kernel
theorem d_Rd_nameIsTaken_7 : decode cc_Rd_nameIsTaken 7 = .ok (.iconst 1, 1) := by decide +kernel
theorem d_Rd_nameIsTaken_8 : decode cc_Rd_nameIsTaken 8 = .ok (.isub, 1) := by decide +kernel
theorem d_Rd_nameIsTaken_9 : decode cc_Rd_nameIsTaken 9 = .ok (.if_icmp .ge 26, 3) := by decide +kernel
theorem d_Rd_nameIsTaken_12 : decode cc_Rd_nameIsTaken 12 = .ok (.aload_n 0, 1) := by decide +kernel
theorem d_Rd_nameIsTaken_13 : decode cc_Rd_nameIsTaken 13 = .ok (.aload_n 1, 1) := by decide +kernel
theorem d_Rd_nameIsTaken_14 : decode cc_Rd_nameIsTaken 14 = .ok (.iload_n 2, 1) := by decide +kernel
theorem d_Rd_nameIsTaken_15 : decode cc_Rd_nameIsTaken 15 = .ok (.aload_n 0, 1) := by decide +kernel
theorem d_Rd_nameIsTaken_16 : decode cc_Rd_nameIsTaken 16 = .ok (.getfield 25, 3) := by decide +kernel
theorem d_Rd_nameIsTaken_19 : decode cc_Rd_nameIsTaken 19 = .ok (.iconst 1, 1) := by decide +kernel
theorem d_Rd_nameIsTaken_20 : decode cc_Rd_nameIsTaken 20 = .ok (.isub, 1) := by decide +kernel
theorem d_Rd_nameIsTaken_21 : decode cc_Rd_nameIsTaken 21 = .ok (.invokevirtual 70, 3) := by decide +kernel
theorem d_Rd_nameIsTaken_24 : decode cc_Rd_nameIsTaken 24 = .ok (.ifCond .eq 5, 3) := by decide +kernel
theorem d_Rd_nameIsTaken_27 : decode cc_Rd_nameIsTaken 27 = .ok (.iconst 1, 1) := by decide +kernel
theorem d_Rd_nameIsTaken_28 : decode cc_Rd_nameIsTaken 28 = .ok (.ireturn, 1) := by decide +kernel
theorem d_Rd_nameIsTaken_29 : decode cc_Rd_nameIsTaken 29 = .ok (.iinc 2 1, 3) := by decide +kernel
theorem d_Rd_nameIsTaken_32 : decode cc_Rd_nameIsTaken 32 = .ok (.goto (-30), 3) := by decide +kernel
theorem d_Rd_nameIsTaken_35 : decode cc_Rd_nameIsTaken 35 = .ok (.iconst 0, 1) := by decide +kernel
theorem d_Rd_nameIsTaken_36 : decode cc_Rd_nameIsTaken 36 = .ok (.ireturn, 1) := by decide +kernel
theorem d_Rd_mayEnd_0 : decode cc_Rd_mayEnd 0 = .ok (.aload_n 0, 1) := by decide +kernel
theorem d_Rd_mayEnd_1 : decode cc_Rd_mayEnd 1 = .ok (.getfield 28, 3) := by decide +kernel
theorem d_Rd_mayEnd_4 : decode cc_Rd_mayEnd 4 = .ok (.iconst 3, 1) := by decide +kernel
theorem d_Rd_mayEnd_5 : decode cc_Rd_mayEnd 5 = .ok (.if_icmp .eq 19, 3) := by decide +kernel
theorem d_Rd_mayEnd_8 : decode cc_Rd_mayEnd 8 = .ok (.aload_n 0, 1) := by decide +kernel
theorem d_Rd_mayEnd_9 : decode cc_Rd_mayEnd 9 = .ok (.getfield 28, 3) := by decide +kernel
theorem d_Rd_mayEnd_12 : decode cc_Rd_mayEnd 12 = .ok (.iconst 1, 1) := by decide +kernel
theorem d_Rd_mayEnd_13 : decode cc_Rd_mayEnd 13 = .ok (.if_icmp .ne 15, 3) := by decide +kernel
theorem d_Rd_mayEnd_16 : decode cc_Rd_mayEnd 16 = .ok (.aload_n 0, 1) := by decide +kernel
theorem d_Rd_mayEnd_17 : decode cc_Rd_mayEnd 17 = .ok (.getfield 21, 3) := by decide +kernel
theorem d_Rd_mayEnd_20 : decode cc_Rd_mayEnd 20 = .ok (.iconst 1, 1) := by decide +kernel
theorem d_Rd_mayEnd_21 : decode cc_Rd_mayEnd 21 = .ok (.if_icmp .eq 7, 3) := by decide +kernel
theorem d_Rd_mayEnd_24 : decode cc_Rd_mayEnd 24 = .ok (.iconst 1, 1) := by decide +kernel
theorem d_Rd_mayEnd_25 : decode cc_Rd_mayEnd 25 = .ok (.goto 4, 3) := by decide +kernel
theorem d_Rd_mayEnd_28 : decode cc_Rd_mayEnd 28 = .ok (.iconst 0, 1) := by decide +kernel
theorem d_Rd_mayEnd_29 : decode cc_Rd_mayEnd 29 = .ok (.istore_n 1, 1) := by decide +kernel
theorem d_Rd_mayEnd_30 : decode cc_Rd_mayEnd 30 = .ok (.iload_n 1, 1) := by decide +kernel
theorem d_Rd_mayEnd_31 : decode cc_Rd_mayEnd 31 = .ok (.ifCond .eq 24, 3) := by decide +kernel
theorem d_Rd_mayEnd_34 : decode cc_Rd_mayEnd 34 = .ok (.aload_n 0, 1) := by decide +kernel
theorem d_Rd_mayEnd_35 : decode cc_Rd_mayEnd 35 = .ok (.getfield 31, 3) := by decide +kernel
theorem d_Rd_mayEnd_38 : decode cc_Rd_mayEnd 38 = .ok (.ifCond .ne 17, 3) := by decide +kernel
theorem d_Rd_mayEnd_41 : decode cc_Rd_mayEnd 41 = .ok (.aload_n 0, 1) := by decide +kernel
theorem d_Rd_mayEnd_42 : decode cc_Rd_mayEnd 42 = .ok (.getfield 34, 3) := by decide +kernel
theorem d_Rd_mayEnd_45 : decode cc_Rd_mayEnd 45 = .ok (.invokestatic 66, 3) := by decide +kernel
theorem d_Rd_mayEnd_48 : decode cc_Rd_mayEnd 48 = .ok (.ifCond .eq 7, 3) := by decide +kernel
theorem d_Rd_mayEnd_51 : decode cc_Rd_mayEnd 51 = .ok (.iconst 1, 1) := by decide +kernel
theorem d_Rd_mayEnd_52 : decode cc_Rd_mayEnd 52 = .ok (.goto 4, 3) := by decide +kernel
theorem d_Rd_mayEnd_55 : decode cc_Rd_mayEnd 55 = .ok (.iconst 0, 1) := by decide +kernel
theorem d_Rd_mayEnd_56 : decode cc_Rd_mayEnd 56 = .ok (.ireturn, 1) := by decide +kernel
theorem d_Rd_noteName_0 : decode cc_Rd_noteName 0 = .ok (.aload_n 0, 1) := by decide +kernel
theorem d_Rd_noteName_1 : decode cc_Rd_noteName 1 = .ok (.getfield 34, 3) := by decide +kernel
theorem d_Rd_noteName_4 : decode cc_Rd_noteName 4 = .ok (.iconst 2, 1) := by decide +kernel
theorem d_Rd_noteName_5 : decode cc_Rd_noteName 5 = .ok (.if_icmp .eq 35, 3) := by decide +kernel
theorem d_Rd_noteName_8 : decode cc_Rd_noteName 8 = .ok (.aload_n 0, 1) := by decide +kernel
theorem d_Rd_noteName_9 : decode cc_Rd_noteName 9 = .ok (.getfield 25, 3) := by decide +kernel
theorem d_Rd_noteName_12 : decode cc_Rd_noteName 12 = .ok (.aload_n 0, 1) := by decide +kernel
theorem d_Rd_noteName_13 : decode cc_Rd_noteName 13 = .ok (.getfield 15, 3) := by decide +kernel
theorem d_Rd_noteName_16 : decode cc_Rd_noteName 16 = .ok (.arraylength, 1) := by decide +kernel
theorem d_Rd_noteName_17 : decode cc_Rd_noteName 17 = .ok (.if_icmp .ge 23, 3) := by decide +kernel
theorem d_Rd_noteName_20 : decode cc_Rd_noteName 20 = .ok (.aload_n 0, 1) := by decide +kernel
theorem d_Rd_noteName_21 : decode cc_Rd_noteName 21 = .ok (.getfield 15, 3) := by decide +kernel
theorem d_Rd_noteName_24 : decode cc_Rd_noteName 24 = .ok (.aload_n 0, 1) := by decide +kernel
theorem d_Rd_noteName_25 : decode cc_Rd_noteName 25 = .ok (.getfield 25, 3) := by decide +kernel
theorem d_Rd_noteName_28 : decode cc_Rd_noteName 28 = .ok (.iload_n 1, 1) := by decide +kernel
theorem d_Rd_noteName_29 : decode cc_Rd_noteName 29 = .ok (.iastore, 1) := by decide +kernel
theorem d_Rd_noteName_30 : decode cc_Rd_noteName 30 = .ok (.aload_n 0, 1) := by decide +kernel
theorem d_Rd_noteName_31 : decode cc_Rd_noteName 31 = .ok (.dup, 1) := by decide +kernel
theorem d_Rd_noteName_32 : decode cc_Rd_noteName 32 = .ok (.getfield 25, 3) := by decide +kernel
theorem d_Rd_noteName_35 : decode cc_Rd_noteName 35 = .ok (.iconst 1, 1) := by decide +kernel
theorem d_Rd_noteName_36 : decode cc_Rd_noteName 36 = .ok (.iadd, 1) := by decide +kernel
theorem d_Rd_noteName_37 : decode cc_Rd_noteName 37 = .ok (.putfield 25, 3) := by decide +kernel
theorem d_Rd_noteName_40 : decode cc_Rd_noteName 40 = .ok (.aload_n 0, 1) := by decide +kernel
theorem d_Rd_noteName_41 : decode cc_Rd_noteName 41 = .ok (.getfield 25, 3) := by decide +kernel
theorem d_Rd_noteName_44 : decode cc_Rd_noteName 44 = .ok (.ifCond .le 17, 3) := by decide +kernel
theorem d_Rd_noteName_47 : decode cc_Rd_noteName 47 = .ok (.aload_n 0, 1) := by decide +kernel
theorem d_Rd_noteName_48 : decode cc_Rd_noteName 48 = .ok (.getfield 18, 3) := by decide +kernel
theorem d_Rd_noteName_51 : decode cc_Rd_noteName 51 = .ok (.aload_n 0, 1) := by decide +kernel
theorem d_Rd_noteName_52 : decode cc_Rd_noteName 52 = .ok (.getfield 25, 3) := by decide +kernel
theorem d_Rd_noteName_55 : decode cc_Rd_noteName 55 = .ok (.iconst 1, 1) := by decide +kernel
theorem d_Rd_noteName_56 : decode cc_Rd_noteName 56 = .ok (.isub, 1) := by decide +kernel
theorem d_Rd_noteName_57 : decode cc_Rd_noteName 57 = .ok (.iload_n 1, 1) := by decide +kernel
theorem d_Rd_noteName_58 : decode cc_Rd_noteName 58 = .ok (.iconst 1, 1) := by decide +kernel
theorem d_Rd_noteName_59 : decode cc_Rd_noteName 59 = .ok (.iadd, 1) := by decide +kernel
theorem d_Rd_noteName_60 : decode cc_Rd_noteName 60 = .ok (.iastore, 1) := by decide +kernel
theorem d_Rd_noteName_61 : decode cc_Rd_noteName 61 = .ok (.return_, 1) := by decide +kernel
theorem d_Rd_take_0 : decode cc_Rd_take 0 = .ok (.iload_n 1, 1) := by decide +kernel
theorem d_Rd_take_1 : decode cc_Rd_take 1 = .ok (.tableswitch 173 1 23 #[107, 165, 173, 173, 115, 173, 173, 173, 173, 173, 173, 173, 173, 173, 139, 152, 173, 173, 173, 173, 173, 123, 131], 107) := by decide +kernel
theorem d_Rd_take_108 : decode cc_Rd_take 108 = .ok (.aload_n 0, 1) := by decide +kernel
theorem d_Rd_take_109 : decode cc_Rd_take 109 = .ok (.iconst 0, 1) := by decide +kernel
theorem d_Rd_take_110 : decode cc_Rd_take 110 = .ok (.putfield 28, 3) := by decide +kernel
theorem d_Rd_take_113 : decode cc_Rd_take 113 = .ok (.goto 61, 3) := by decide +kernel
