theorem dJ0_coder_7d493_0 : decode cJ0_coder_7d493 0 = .ok (.getstatic 38, 3) := by decide +kernel
theorem dJ0_coder_7d493_10 : decode cJ0_coder_7d493 10 = .ok (.goto 4, 3) := by decide +kernel
theorem dJ0_coder_7d493_13 : decode cJ0_coder_7d493 13 = .ok (.iconst 1, 1) := by decide +kernel
theorem dJ0_coder_7d493_14 : decode cJ0_coder_7d493 14 = .ok (.ireturn, 1) := by decide +kernel
theorem dJ0_coder_7d493_3 : decode cJ0_coder_7d493 3 = .ok (.ifCond .eq 10, 3) := by decide +kernel
theorem dJ0_coder_7d493_6 : decode cJ0_coder_7d493 6 = .ok (.aload_n 0, 1) := by decide +kernel
theorem dJ0_coder_7d493_7 : decode cJ0_coder_7d493 7 = .ok (.getfield 15, 3) := by decide +kernel
theorem dJ0_indexOf_0f7a4_0 : decode cJ0_indexOf_0f7a4 0 = .ok (.aload_n 0, 1) := by decide +kernel
theorem dJ0_indexOf_0f7a4_1 : decode cJ0_indexOf_0f7a4 1 = .ok (.iload_n 1, 1) := by decide +kernel
theorem dJ0_indexOf_0f7a4_2 : decode cJ0_indexOf_0f7a4 2 = .ok (.iconst 0, 1) := by decide +kernel
theorem dJ0_indexOf_0f7a4_3 : decode cJ0_indexOf_0f7a4 3 = .ok (.invokevirtual 633, 3) := by decide +kernel
theorem dJ0_indexOf_0f7a4_6 : decode cJ0_indexOf_0f7a4 6 = .ok (.ireturn, 1) := by decide +kernel
theorem dJ0_indexOf_7cf53_0 : decode cJ0_indexOf_7cf53 0 = .ok (.aload_n 0, 1) := by decide +kernel
theorem dJ0_indexOf_7cf53_1 : decode cJ0_indexOf_7cf53 1 = .ok (.invokevirtual 492, 3) := by decide +kernel
theorem dJ0_indexOf_7cf53_11 : decode cJ0_indexOf_7cf53 11 = .ok (.iload_n 1, 1) := by decide +kernel
theorem dJ0_indexOf_7cf53_12 : decode cJ0_indexOf_7cf53 12 = .ok (.iload_n 2, 1) := by decide +kernel
theorem dJ0_indexOf_7cf53_13 : decode cJ0_indexOf_7cf53 13 = .ok (.aload_n 0, 1) := by decide +kernel
theorem dJ0_indexOf_7cf53_14 : decode cJ0_indexOf_7cf53 14 = .ok (.invokevirtual 505, 3) := by decide +kernel
theorem dJ0_indexOf_7cf53_17 : decode cJ0_indexOf_7cf53 17 = .ok (.invokestatic 637, 3) := by decide +kernel
theorem dJ0_indexOf_7cf53_20 : decode cJ0_indexOf_7cf53 20 = .ok (.goto 16, 3) := by decide +kernel
theorem dJ0_indexOf_7cf53_23 : decode cJ0_indexOf_7cf53 23 = .ok (.aload_n 0, 1) := by decide +kernel
theorem dJ0_indexOf_7cf53_24 : decode cJ0_indexOf_7cf53 24 = .ok (.getfield 9, 3) := by decide +kernel
theorem dJ0_indexOf_7cf53_27 : decode cJ0_indexOf_7cf53 27 = .ok (.iload_n 1, 1) := by decide +kernel
theorem dJ0_indexOf_7cf53_28 : decode cJ0_indexOf_7cf53 28 = .ok (.iload_n 2, 1) := by decide +kernel
theorem dJ0_indexOf_7cf53_29 : decode cJ0_indexOf_7cf53 29 = .ok (.aload_n 0, 1) := by decide +kernel
theorem dJ0_indexOf_7cf53_30 : decode cJ0_indexOf_7cf53 30 = .ok (.invokevirtual 505, 3) := by decide +kernel
theorem dJ0_indexOf_7cf53_33 : decode cJ0_indexOf_7cf53 33 = .ok (.invokestatic 640, 3) := by decide +kernel
theorem dJ0_indexOf_7cf53_36 : decode cJ0_indexOf_7cf53 36 = .ok (.ireturn, 1) := by decide +kernel
theorem dJ0_indexOf_7cf53_4 : decode cJ0_indexOf_7cf53 4 = .ok (.ifCond .eq 19, 3) := by decide +kernel
theorem dJ0_indexOf_7cf53_7 : decode cJ0_indexOf_7cf53 7 = .ok (.aload_n 0, 1) := by decide +kernel
theorem dJ0_indexOf_7cf53_8 : decode cJ0_indexOf_7cf53 8 = .ok (.getfield 9, 3) := by decide +kernel
theorem dJ0_isLatin1_aae02_0 : decode cJ0_isLatin1_aae02 0 = .ok (.getstatic 38, 3) := by decide +kernel
theorem dJ0_isLatin1_aae02_10 : decode cJ0_isLatin1_aae02 10 = .ok (.ifCond .ne 7, 3) := by decide +kernel
theorem dJ0_isLatin1_aae02_13 : decode cJ0_isLatin1_aae02 13 = .ok (.iconst 1, 1) := by decide +kernel
theorem dJ0_isLatin1_aae02_14 : decode cJ0_isLatin1_aae02 14 = .ok (.goto 4, 3) := by decide +kernel
theorem dJ0_isLatin1_aae02_17 : decode cJ0_isLatin1_aae02 17 = .ok (.iconst 0, 1) := by decide +kernel
theorem dJ0_isLatin1_aae02_18 : decode cJ0_isLatin1_aae02 18 = .ok (.ireturn, 1) := by decide +kernel
theorem dJ0_isLatin1_aae02_3 : decode cJ0_isLatin1_aae02 3 = .ok (.ifCond .eq 14, 3) := by decide +kernel
theorem dJ0_isLatin1_aae02_6 : decode cJ0_isLatin1_aae02 6 = .ok (.aload_n 0, 1) := by decide +kernel
theorem dJ0_isLatin1_aae02_7 : decode cJ0_isLatin1_aae02 7 = .ok (.getfield 15, 3) := by decide +kernel
theorem dJ0_length_8abf5_0 : decode cJ0_length_8abf5 0 = .ok (.aload_n 0, 1) := by decide +kernel
theorem dJ0_length_8abf5_1 : decode cJ0_length_8abf5 1 = .ok (.getfield 9, 3) := by decide +kernel
theorem dJ0_length_8abf5_10 : decode cJ0_length_8abf5 10 = .ok (.ireturn, 1) := by decide +kernel
theorem dJ0_length_8abf5_4 : decode cJ0_length_8abf5 4 = .ok (.arraylength, 1) := by decide +kernel
theorem dJ0_length_8abf5_5 : decode cJ0_length_8abf5 5 = .ok (.aload_n 0, 1) := by decide +kernel
theorem dJ0_length_8abf5_6 : decode cJ0_length_8abf5 6 = .ok (.invokevirtual 335, 3) := by decide +kernel
theorem dJ0_length_8abf5_9 : decode cJ0_length_8abf5 9 = .ok (.ishr, 1) := by decide +kernel
theorem dJ1_canEncode_9a6ad_0 : decode cJ1_canEncode_9a6ad 0 = .ok (.iload_n 0, 1) := by decide +kernel
theorem dJ1_canEncode_9a6ad_1 : decode cJ1_canEncode_9a6ad 1 = .ok (.ifCond .lt 14, 3) := by decide +kernel
theorem dJ1_canEncode_9a6ad_11 : decode cJ1_canEncode_9a6ad 11 = .ok (.iconst 1, 1) := by decide +kernel
theorem dJ1_canEncode_9a6ad_12 : decode cJ1_canEncode_9a6ad 12 = .ok (.goto 4, 3) := by decide +kernel
theorem dJ1_canEncode_9a6ad_15 : decode cJ1_canEncode_9a6ad 15 = .ok (.iconst 0, 1) := by decide +kernel
theorem dJ1_canEncode_9a6ad_16 : decode cJ1_canEncode_9a6ad 16 = .ok (.ireturn, 1) := by decide +kernel
theorem dJ1_canEncode_9a6ad_4 : decode cJ1_canEncode_9a6ad 4 = .ok (.iload_n 0, 1) := by decide +kernel
theorem dJ1_canEncode_9a6ad_5 : decode cJ1_canEncode_9a6ad 5 = .ok (.sipush 255, 3) := by decide +kernel
theorem dJ1_canEncode_9a6ad_8 : decode cJ1_canEncode_9a6ad 8 = .ok (.if_icmp .gt 7, 3) := by decide +kernel
theorem dJ1_indexOfChar_4cfef_0 : decode cJ1_indexOfChar_4cfef 0 = .ok (.iload_n 1, 1) := by decide +kernel
theorem dJ1_indexOfChar_4cfef_1 : decode cJ1_indexOfChar_4cfef 1 = .ok (.i2b, 1) := by decide +kernel
theorem dJ1_indexOfChar_4cfef_10 : decode cJ1_indexOfChar_4cfef 10 = .ok (.if_icmp .ge 21, 3) := by decide +kernel
theorem dJ1_indexOfChar_4cfef_13 : decode cJ1_indexOfChar_4cfef 13 = .ok (.aload_n 0, 1) := by decide +kernel
theorem dJ1_indexOfChar_4cfef_14 : decode cJ1_indexOfChar_4cfef 14 = .ok (.iload 5, 2) := by decide +kernel
theorem dJ1_indexOfChar_4cfef_16 : decode cJ1_indexOfChar_4cfef 16 = .ok (.baload, 1) := by decide +kernel
theorem dJ1_indexOfChar_4cfef_17 : decode cJ1_indexOfChar_4cfef 17 = .ok (.iload 4, 2) := by decide +kernel
theorem dJ1_indexOfChar_4cfef_19 : decode cJ1_indexOfChar_4cfef 19 = .ok (.if_icmp .ne 6, 3) := by decide +kernel
theorem dJ1_indexOfChar_4cfef_2 : decode cJ1_indexOfChar_4cfef 2 = .ok (.istore 4, 2) := by decide +kernel
theorem dJ1_indexOfChar_4cfef_22 : decode cJ1_indexOfChar_4cfef 22 = .ok (.iload 5, 2) := by decide +kernel
theorem dJ1_indexOfChar_4cfef_24 : decode cJ1_indexOfChar_4cfef 24 = .ok (.ireturn, 1) := by decide +kernel
theorem dJ1_indexOfChar_4cfef_25 : decode cJ1_indexOfChar_4cfef 25 = .ok (.iinc 5 1, 3) := by decide +kernel
theorem dJ1_indexOfChar_4cfef_28 : decode cJ1_indexOfChar_4cfef 28 = .ok (.goto (-21), 3) := by decide +kernel
theorem dJ1_indexOfChar_4cfef_31 : decode cJ1_indexOfChar_4cfef 31 = .ok (.iconst (-1), 1) := by decide +kernel
theorem dJ1_indexOfChar_4cfef_32 : decode cJ1_indexOfChar_4cfef 32 = .ok (.ireturn, 1) := by decide +kernel
theorem dJ1_indexOfChar_4cfef_4 : decode cJ1_indexOfChar_4cfef 4 = .ok (.iload_n 2, 1) := by decide +kernel
theorem dJ1_indexOfChar_4cfef_5 : decode cJ1_indexOfChar_4cfef 5 = .ok (.istore 5, 2) := by decide +kernel
theorem dJ1_indexOfChar_4cfef_7 : decode cJ1_indexOfChar_4cfef 7 = .ok (.iload 5, 2) := by decide +kernel
theorem dJ1_indexOfChar_4cfef_9 : decode cJ1_indexOfChar_4cfef 9 = .ok (.iload_n 3, 1) := by decide +kernel
theorem dJ1_indexOf_4cfef_0 : decode cJ1_indexOf_4cfef 0 = .ok (.iload_n 1, 1) := by decide +kernel
theorem dJ1_indexOf_4cfef_1 : decode cJ1_indexOf_4cfef 1 = .ok (.invokestatic 88, 3) := by decide +kernel
theorem dJ1_indexOf_4cfef_10 : decode cJ1_indexOf_4cfef 10 = .ok (.iconst 0, 1) := by decide +kernel
theorem dJ1_indexOf_4cfef_11 : decode cJ1_indexOf_4cfef 11 = .ok (.invokestatic 92, 3) := by decide +kernel
theorem dJ1_indexOf_4cfef_14 : decode cJ1_indexOf_4cfef 14 = .ok (.istore_n 2, 1) := by decide +kernel
theorem dJ1_indexOf_4cfef_15 : decode cJ1_indexOf_4cfef 15 = .ok (.iload_n 3, 1) := by decide +kernel
theorem dJ1_indexOf_4cfef_16 : decode cJ1_indexOf_4cfef 16 = .ok (.aload_n 0, 1) := by decide +kernel
theorem dJ1_indexOf_4cfef_17 : decode cJ1_indexOf_4cfef 17 = .ok (.arraylength, 1) := by decide +kernel
theorem dJ1_indexOf_4cfef_18 : decode cJ1_indexOf_4cfef 18 = .ok (.invokestatic 38, 3) := by decide +kernel
theorem dJ1_indexOf_4cfef_21 : decode cJ1_indexOf_4cfef 21 = .ok (.istore_n 3, 1) := by decide +kernel
theorem dJ1_indexOf_4cfef_22 : decode cJ1_indexOf_4cfef 22 = .ok (.iload_n 2, 1) := by decide +kernel
theorem dJ1_indexOf_4cfef_23 : decode cJ1_indexOf_4cfef 23 = .ok (.iload_n 3, 1) := by decide +kernel
theorem dJ1_indexOf_4cfef_24 : decode cJ1_indexOf_4cfef 24 = .ok (.if_icmp .lt 5, 3) := by decide +kernel
theorem dJ1_indexOf_4cfef_27 : decode cJ1_indexOf_4cfef 27 = .ok (.iconst (-1), 1) := by decide +kernel
theorem dJ1_indexOf_4cfef_28 : decode cJ1_indexOf_4cfef 28 = .ok (.ireturn, 1) := by decide +kernel
theorem dJ1_indexOf_4cfef_29 : decode cJ1_indexOf_4cfef 29 = .ok (.aload_n 0, 1) := by decide +kernel
theorem dJ1_indexOf_4cfef_30 : decode cJ1_indexOf_4cfef 30 = .ok (.iload_n 1, 1) := by decide +kernel
theorem dJ1_indexOf_4cfef_31 : decode cJ1_indexOf_4cfef 31 = .ok (.iload_n 2, 1) := by decide +kernel
theorem dJ1_indexOf_4cfef_32 : decode cJ1_indexOf_4cfef 32 = .ok (.iload_n 3, 1) := by decide +kernel
theorem dJ1_indexOf_4cfef_33 : decode cJ1_indexOf_4cfef 33 = .ok (.invokestatic 95, 3) := by decide +kernel
theorem dJ1_indexOf_4cfef_36 : decode cJ1_indexOf_4cfef 36 = .ok (.ireturn, 1) := by decide +kernel
theorem dJ1_indexOf_4cfef_4 : decode cJ1_indexOf_4cfef 4 = .ok (.ifCond .ne 5, 3) := by decide +kernel
theorem dJ1_indexOf_4cfef_7 : decode cJ1_indexOf_4cfef 7 = .ok (.iconst (-1), 1) := by decide +kernel
theorem dJ1_indexOf_4cfef_8 : decode cJ1_indexOf_4cfef 8 = .ok (.ireturn, 1) := by decide +kernel
theorem dJ1_indexOf_4cfef_9 : decode cJ1_indexOf_4cfef 9 = .ok (.iload_n 2, 1) := by decide +kernel
theorem dJ6_bitCount_0f7a4_0 : decode cJ6_bitCount_0f7a4 0 = .ok (.iload_n 0, 1) := by decide +kernel
theorem dJ6_bitCount_0f7a4_1 : decode cJ6_bitCount_0f7a4 1 = .ok (.iload_n 0, 1) := by decide +kernel
theorem dJ6_bitCount_0f7a4_10 : decode cJ6_bitCount_0f7a4 10 = .ok (.iload_n 0, 1) := by decide +kernel
theorem dJ6_bitCount_0f7a4_11 : decode cJ6_bitCount_0f7a4 11 = .ok (.ldc_w 266, 3) := by decide +kernel
theorem dJ6_bitCount_0f7a4_14 : decode cJ6_bitCount_0f7a4 14 = .ok (.iand, 1) := by decide +kernel
theorem dJ6_bitCount_0f7a4_15 : decode cJ6_bitCount_0f7a4 15 = .ok (.iload_n 0, 1) := by decide +kernel
theorem dJ6_bitCount_0f7a4_16 : decode cJ6_bitCount_0f7a4 16 = .ok (.iconst 2, 1) := by decide +kernel
theorem dJ6_bitCount_0f7a4_17 : decode cJ6_bitCount_0f7a4 17 = .ok (.iushr, 1) := by decide +kernel
theorem dJ6_bitCount_0f7a4_18 : decode cJ6_bitCount_0f7a4 18 = .ok (.ldc_w 266, 3) := by decide +kernel
theorem dJ6_bitCount_0f7a4_2 : decode cJ6_bitCount_0f7a4 2 = .ok (.iconst 1, 1) := by decide +kernel
theorem dJ6_bitCount_0f7a4_21 : decode cJ6_bitCount_0f7a4 21 = .ok (.iand, 1) := by decide +kernel
theorem dJ6_bitCount_0f7a4_22 : decode cJ6_bitCount_0f7a4 22 = .ok (.iadd, 1) := by decide +kernel
theorem dJ6_bitCount_0f7a4_23 : decode cJ6_bitCount_0f7a4 23 = .ok (.istore_n 0, 1) := by decide +kernel
theorem dJ6_bitCount_0f7a4_24 : decode cJ6_bitCount_0f7a4 24 = .ok (.iload_n 0, 1) := by decide +kernel
theorem dJ6_bitCount_0f7a4_25 : decode cJ6_bitCount_0f7a4 25 = .ok (.iload_n 0, 1) := by decide +kernel
theorem dJ6_bitCount_0f7a4_26 : decode cJ6_bitCount_0f7a4 26 = .ok (.iconst 4, 1) := by decide +kernel
theorem dJ6_bitCount_0f7a4_27 : decode cJ6_bitCount_0f7a4 27 = .ok (.iushr, 1) := by decide +kernel
theorem dJ6_bitCount_0f7a4_28 : decode cJ6_bitCount_0f7a4 28 = .ok (.iadd, 1) := by decide +kernel
theorem dJ6_bitCount_0f7a4_29 : decode cJ6_bitCount_0f7a4 29 = .ok (.ldc_w 267, 3) := by decide +kernel
theorem dJ6_bitCount_0f7a4_3 : decode cJ6_bitCount_0f7a4 3 = .ok (.iushr, 1) := by decide +kernel
theorem dJ6_bitCount_0f7a4_32 : decode cJ6_bitCount_0f7a4 32 = .ok (.iand, 1) := by decide +kernel
theorem dJ6_bitCount_0f7a4_33 : decode cJ6_bitCount_0f7a4 33 = .ok (.istore_n 0, 1) := by decide +kernel
theorem dJ6_bitCount_0f7a4_34 : decode cJ6_bitCount_0f7a4 34 = .ok (.iload_n 0, 1) := by decide +kernel
theorem dJ6_bitCount_0f7a4_35 : decode cJ6_bitCount_0f7a4 35 = .ok (.iload_n 0, 1) := by decide +kernel
theorem dJ6_bitCount_0f7a4_36 : decode cJ6_bitCount_0f7a4 36 = .ok (.bipush 8, 2) := by decide +kernel
theorem dJ6_bitCount_0f7a4_38 : decode cJ6_bitCount_0f7a4 38 = .ok (.iushr, 1) := by decide +kernel
theorem dJ6_bitCount_0f7a4_39 : decode cJ6_bitCount_0f7a4 39 = .ok (.iadd, 1) := by decide +kernel
theorem dJ6_bitCount_0f7a4_4 : decode cJ6_bitCount_0f7a4 4 = .ok (.ldc_w 265, 3) := by decide +kernel
theorem dJ6_bitCount_0f7a4_40 : decode cJ6_bitCount_0f7a4 40 = .ok (.istore_n 0, 1) := by decide +kernel
theorem dJ6_bitCount_0f7a4_41 : decode cJ6_bitCount_0f7a4 41 = .ok (.iload_n 0, 1) := by decide +kernel
theorem dJ6_bitCount_0f7a4_42 : decode cJ6_bitCount_0f7a4 42 = .ok (.iload_n 0, 1) := by decide +kernel
theorem dJ6_bitCount_0f7a4_43 : decode cJ6_bitCount_0f7a4 43 = .ok (.bipush 16, 2) := by decide +kernel
theorem dJ6_bitCount_0f7a4_45 : decode cJ6_bitCount_0f7a4 45 = .ok (.iushr, 1) := by decide +kernel
theorem dJ6_bitCount_0f7a4_46 : decode cJ6_bitCount_0f7a4 46 = .ok (.iadd, 1) := by decide +kernel
theorem dJ6_bitCount_0f7a4_47 : decode cJ6_bitCount_0f7a4 47 = .ok (.istore_n 0, 1) := by decide +kernel
theorem dJ6_bitCount_0f7a4_48 : decode cJ6_bitCount_0f7a4 48 = .ok (.iload_n 0, 1) := by decide +kernel
theorem dJ6_bitCount_0f7a4_49 : decode cJ6_bitCount_0f7a4 49 = .ok (.bipush 63, 2) := by decide +kernel
theorem dJ6_bitCount_0f7a4_51 : decode cJ6_bitCount_0f7a4 51 = .ok (.iand, 1) := by decide +kernel
theorem dJ6_bitCount_0f7a4_52 : decode cJ6_bitCount_0f7a4 52 = .ok (.ireturn, 1) := by decide +kernel
theorem dJ6_bitCount_0f7a4_7 : decode cJ6_bitCount_0f7a4 7 = .ok (.iand, 1) := by decide +kernel
theorem dJ6_bitCount_0f7a4_8 : decode cJ6_bitCount_0f7a4 8 = .ok (.isub, 1) := by decide +kernel
theorem dJ6_bitCount_0f7a4_9 : decode cJ6_bitCount_0f7a4 9 = .ok (.istore_n 0, 1) := by decide +kernel
theorem dJ7_fill_53178_0 : decode cJ7_fill_53178 0 = .ok (.iconst 0, 1) := by decide +kernel
theorem dJ7_fill_53178_1 : decode cJ7_fill_53178 1 = .ok (.istore_n 2, 1) := by decide +kernel
theorem dJ7_fill_53178_10 : decode cJ7_fill_53178 10 = .ok (.aload_n 0, 1) := by decide +kernel
theorem dJ7_fill_53178_11 : decode cJ7_fill_53178 11 = .ok (.iload_n 2, 1) := by decide +kernel
theorem dJ7_fill_53178_12 : decode cJ7_fill_53178 12 = .ok (.iload_n 1, 1) := by decide +kernel
theorem dJ7_fill_53178_13 : decode cJ7_fill_53178 13 = .ok (.iastore, 1) := by decide +kernel
theorem dJ7_fill_53178_14 : decode cJ7_fill_53178 14 = .ok (.iinc 2 1, 3) := by decide +kernel
theorem dJ7_fill_53178_17 : decode cJ7_fill_53178 17 = .ok (.goto (-12), 3) := by decide +kernel
theorem dJ7_fill_53178_2 : decode cJ7_fill_53178 2 = .ok (.aload_n 0, 1) := by decide +kernel
theorem dJ7_fill_53178_20 : decode cJ7_fill_53178 20 = .ok (.return_, 1) := by decide +kernel
theorem dJ7_fill_53178_3 : decode cJ7_fill_53178 3 = .ok (.arraylength, 1) := by decide +kernel
theorem dJ7_fill_53178_4 : decode cJ7_fill_53178 4 = .ok (.istore_n 3, 1) := by decide +kernel
theorem dJ7_fill_53178_5 : decode cJ7_fill_53178 5 = .ok (.iload_n 2, 1) := by decide +kernel
theorem dJ7_fill_53178_6 : decode cJ7_fill_53178 6 = .ok (.iload_n 3, 1) := by decide +kernel
theorem dJ7_fill_53178_7 : decode cJ7_fill_53178 7 = .ok (.if_icmp .ge 13, 3) := by decide +kernel
theorem dJ7_fill_d0a16_0 : decode cJ7_fill_d0a16 0 = .ok (.iconst 0, 1) := by decide +kernel
theorem dJ7_fill_d0a16_1 : decode cJ7_fill_d0a16 1 = .ok (.istore_n 3, 1) := by decide +kernel
theorem dJ7_fill_d0a16_12 : decode cJ7_fill_d0a16 12 = .ok (.aload_n 0, 1) := by decide +kernel
theorem dJ7_fill_d0a16_13 : decode cJ7_fill_d0a16 13 = .ok (.iload_n 3, 1) := by decide +kernel
theorem dJ7_fill_d0a16_14 : decode cJ7_fill_d0a16 14 = .ok (.lload_n 1, 1) := by decide +kernel
theorem dJ7_fill_d0a16_15 : decode cJ7_fill_d0a16 15 = .ok (.lastore, 1) := by decide +kernel
theorem dJ7_fill_d0a16_16 : decode cJ7_fill_d0a16 16 = .ok (.iinc 3 1, 3) := by decide +kernel
theorem dJ7_fill_d0a16_19 : decode cJ7_fill_d0a16 19 = .ok (.goto (-13), 3) := by decide +kernel
theorem dJ7_fill_d0a16_2 : decode cJ7_fill_d0a16 2 = .ok (.aload_n 0, 1) := by decide +kernel
theorem dJ7_fill_d0a16_22 : decode cJ7_fill_d0a16 22 = .ok (.return_, 1) := by decide +kernel
theorem dJ7_fill_d0a16_3 : decode cJ7_fill_d0a16 3 = .ok (.arraylength, 1) := by decide +kernel
theorem dJ7_fill_d0a16_4 : decode cJ7_fill_d0a16 4 = .ok (.istore 4, 2) := by decide +kernel
theorem dJ7_fill_d0a16_6 : decode cJ7_fill_d0a16 6 = .ok (.iload_n 3, 1) := by decide +kernel
theorem dJ7_fill_d0a16_7 : decode cJ7_fill_d0a16 7 = .ok (.iload 4, 2) := by decide +kernel
theorem dJ7_fill_d0a16_9 : decode cJ7_fill_d0a16 9 = .ok (.if_icmp .ge 13, 3) := by decide +kernel
theorem dL_law_0 : decode cL_law 0 = .ok (.new 8, 3) := by decide +kernel
theorem dL_law_1000 : decode cL_law 1000 = .ok (.iaload, 1) := by decide +kernel
theorem dL_law_1001 : decode cL_law 1001 = .ok (.aload_n 0, 1) := by decide +kernel
theorem dL_law_1002 : decode cL_law 1002 = .ok (.iload 4, 2) := by decide +kernel
theorem dL_law_1004 : decode cL_law 1004 = .ok (.iconst 3, 1) := by decide +kernel
theorem dL_law_1005 : decode cL_law 1005 = .ok (.iadd, 1) := by decide +kernel
theorem dL_law_1006 : decode cL_law 1006 = .ok (.iaload, 1) := by decide +kernel
theorem dL_law_1007 : decode cL_law 1007 = .ok (.invokevirtual 104, 3) := by decide +kernel
theorem dL_law_1010 : decode cL_law 1010 = .ok (.aload_n 2, 1) := by decide +kernel
theorem dL_law_1011 : decode cL_law 1011 = .ok (.aload_n 0, 1) := by decide +kernel
theorem dL_law_1012 : decode cL_law 1012 = .ok (.iload 4, 2) := by decide +kernel
theorem dL_law_1014 : decode cL_law 1014 = .ok (.iconst 1, 1) := by decide +kernel
theorem dL_law_1015 : decode cL_law 1015 = .ok (.iadd, 1) := by decide +kernel
theorem dL_law_1016 : decode cL_law 1016 = .ok (.iaload, 1) := by decide +kernel
theorem dL_law_1017 : decode cL_law 1017 = .ok (.aload_n 0, 1) := by decide +kernel
theorem dL_law_1018 : decode cL_law 1018 = .ok (.iload 4, 2) := by decide +kernel
theorem dL_law_1020 : decode cL_law 1020 = .ok (.iconst 2, 1) := by decide +kernel
theorem dL_law_1021 : decode cL_law 1021 = .ok (.iadd, 1) := by decide +kernel
theorem dL_law_1022 : decode cL_law 1022 = .ok (.iaload, 1) := by decide +kernel
theorem dL_law_1023 : decode cL_law 1023 = .ok (.aload_n 0, 1) := by decide +kernel
theorem dL_law_1024 : decode cL_law 1024 = .ok (.iload 4, 2) := by decide +kernel
theorem dL_law_1026 : decode cL_law 1026 = .ok (.iconst 3, 1) := by decide +kernel
theorem dL_law_1027 : decode cL_law 1027 = .ok (.iadd, 1) := by decide +kernel
theorem dL_law_1028 : decode cL_law 1028 = .ok (.iaload, 1) := by decide +kernel
theorem dL_law_1029 : decode cL_law 1029 = .ok (.invokevirtual 107, 3) := by decide +kernel
theorem dL_law_1032 : decode cL_law 1032 = .ok (.if_icmp .eq 864, 3) := by decide +kernel
theorem dL_law_1035 : decode cL_law 1035 = .ok (.iconst 0, 1) := by decide +kernel
theorem dL_law_1036 : decode cL_law 1036 = .ok (.ireturn, 1) := by decide +kernel
theorem dL_law_1037 : decode cL_law 1037 = .ok (.aload_n 1, 1) := by decide +kernel
theorem dL_law_1038 : decode cL_law 1038 = .ok (.aload_n 0, 1) := by decide +kernel
theorem dL_law_1039 : decode cL_law 1039 = .ok (.iload 4, 2) := by decide +kernel
theorem dL_law_1041 : decode cL_law 1041 = .ok (.iconst 1, 1) := by decide +kernel
theorem dL_law_1042 : decode cL_law 1042 = .ok (.iadd, 1) := by decide +kernel
theorem dL_law_1043 : decode cL_law 1043 = .ok (.iaload, 1) := by decide +kernel
theorem dL_law_1044 : decode cL_law 1044 = .ok (.aload_n 0, 1) := by decide +kernel
theorem dL_law_1045 : decode cL_law 1045 = .ok (.iload 4, 2) := by decide +kernel
theorem dL_law_1047 : decode cL_law 1047 = .ok (.iconst 2, 1) := by decide +kernel
theorem dL_law_1048 : decode cL_law 1048 = .ok (.iadd, 1) := by decide +kernel
theorem dL_law_1049 : decode cL_law 1049 = .ok (.iaload, 1) := by decide +kernel
theorem dL_law_1050 : decode cL_law 1050 = .ok (.aload_n 3, 1) := by decide +kernel
theorem dL_law_1051 : decode cL_law 1051 = .ok (.invokestatic 108, 3) := by decide +kernel
theorem dL_law_1054 : decode cL_law 1054 = .ok (.istore 5, 2) := by decide +kernel
theorem dL_law_1056 : decode cL_law 1056 = .ok (.aload_n 2, 1) := by decide +kernel
theorem dL_law_1057 : decode cL_law 1057 = .ok (.aload_n 0, 1) := by decide +kernel
theorem dL_law_1058 : decode cL_law 1058 = .ok (.iload 4, 2) := by decide +kernel
theorem dL_law_1060 : decode cL_law 1060 = .ok (.iconst 1, 1) := by decide +kernel
theorem dL_law_1061 : decode cL_law 1061 = .ok (.iadd, 1) := by decide +kernel
theorem dL_law_1062 : decode cL_law 1062 = .ok (.iaload, 1) := by decide +kernel
theorem dL_law_1063 : decode cL_law 1063 = .ok (.aload_n 0, 1) := by decide +kernel
theorem dL_law_1064 : decode cL_law 1064 = .ok (.iload 4, 2) := by decide +kernel
theorem dL_law_1066 : decode cL_law 1066 = .ok (.iconst 2, 1) := by decide +kernel
theorem dL_law_1067 : decode cL_law 1067 = .ok (.iadd, 1) := by decide +kernel
theorem dL_law_1068 : decode cL_law 1068 = .ok (.iaload, 1) := by decide +kernel
theorem dL_law_1069 : decode cL_law 1069 = .ok (.invokevirtual 113, 3) := by decide +kernel
theorem dL_law_1072 : decode cL_law 1072 = .ok (.istore 6, 2) := by decide +kernel
theorem dL_law_1074 : decode cL_law 1074 = .ok (.aload_n 2, 1) := by decide +kernel
theorem dL_law_1075 : decode cL_law 1075 = .ok (.invokevirtual 114, 3) := by decide +kernel
theorem dL_law_1078 : decode cL_law 1078 = .ok (.iload 5, 2) := by decide +kernel
theorem dL_law_1080 : decode cL_law 1080 = .ok (.if_icmp .eq 5, 3) := by decide +kernel
theorem dL_law_1083 : decode cL_law 1083 = .ok (.iconst 0, 1) := by decide +kernel
theorem dL_law_1084 : decode cL_law 1084 = .ok (.ireturn, 1) := by decide +kernel
theorem dL_law_1085 : decode cL_law 1085 = .ok (.iload 5, 2) := by decide +kernel
theorem dL_law_1087 : decode cL_law 1087 = .ok (.ifCond .ne 15, 3) := by decide +kernel
theorem dL_law_1090 : decode cL_law 1090 = .ok (.aload_n 3, 1) := by decide +kernel
theorem dL_law_1091 : decode cL_law 1091 = .ok (.iconst 0, 1) := by decide +kernel
theorem dL_law_1092 : decode cL_law 1092 = .ok (.laload, 1) := by decide +kernel
theorem dL_law_1093 : decode cL_law 1093 = .ok (.iload 6, 2) := by decide +kernel
theorem dL_law_1095 : decode cL_law 1095 = .ok (.i2l, 1) := by decide +kernel
theorem dL_law_1096 : decode cL_law 1096 = .ok (.lcmp, 1) := by decide +kernel
theorem dL_law_1097 : decode cL_law 1097 = .ok (.ifCond .eq 5, 3) := by decide +kernel
theorem dL_law_11 : decode cL_law 11 = .ok (.dup, 1) := by decide +kernel
theorem dL_law_1100 : decode cL_law 1100 = .ok (.iconst 0, 1) := by decide +kernel
theorem dL_law_1101 : decode cL_law 1101 = .ok (.ireturn, 1) := by decide +kernel
theorem dL_law_1102 : decode cL_law 1102 = .ok (.goto 794, 3) := by decide +kernel
theorem dL_law_1105 : decode cL_law 1105 = .ok (.aload_n 1, 1) := by decide +kernel
theorem dL_law_1106 : decode cL_law 1106 = .ok (.aload_n 0, 1) := by decide +kernel
theorem dL_law_1107 : decode cL_law 1107 = .ok (.iload 4, 2) := by decide +kernel
theorem dL_law_1109 : decode cL_law 1109 = .ok (.iconst 1, 1) := by decide +kernel
theorem dL_law_1110 : decode cL_law 1110 = .ok (.iadd, 1) := by decide +kernel
theorem dL_law_1111 : decode cL_law 1111 = .ok (.iaload, 1) := by decide +kernel
theorem dL_law_1112 : decode cL_law 1112 = .ok (.aload_n 0, 1) := by decide +kernel
theorem dL_law_1113 : decode cL_law 1113 = .ok (.iload 4, 2) := by decide +kernel
theorem dL_law_1115 : decode cL_law 1115 = .ok (.iconst 2, 1) := by decide +kernel
theorem dL_law_1116 : decode cL_law 1116 = .ok (.iadd, 1) := by decide +kernel
theorem dL_law_1117 : decode cL_law 1117 = .ok (.iaload, 1) := by decide +kernel
theorem dL_law_1118 : decode cL_law 1118 = .ok (.invokevirtual 118, 3) := by decide +kernel
theorem dL_law_1121 : decode cL_law 1121 = .ok (.aload_n 2, 1) := by decide +kernel
theorem dL_law_1122 : decode cL_law 1122 = .ok (.aload_n 0, 1) := by decide +kernel
theorem dL_law_1123 : decode cL_law 1123 = .ok (.iload 4, 2) := by decide +kernel
theorem dL_law_1125 : decode cL_law 1125 = .ok (.iconst 1, 1) := by decide +kernel
theorem dL_law_1126 : decode cL_law 1126 = .ok (.iadd, 1) := by decide +kernel
theorem dL_law_1127 : decode cL_law 1127 = .ok (.iaload, 1) := by decide +kernel
theorem dL_law_1128 : decode cL_law 1128 = .ok (.aload_n 0, 1) := by decide +kernel
theorem dL_law_1129 : decode cL_law 1129 = .ok (.iload 4, 2) := by decide +kernel
theorem dL_law_1131 : decode cL_law 1131 = .ok (.iconst 2, 1) := by decide +kernel
theorem dL_law_1132 : decode cL_law 1132 = .ok (.iadd, 1) := by decide +kernel
theorem dL_law_1133 : decode cL_law 1133 = .ok (.iaload, 1) := by decide +kernel
theorem dL_law_1134 : decode cL_law 1134 = .ok (.invokevirtual 121, 3) := by decide +kernel
theorem dL_law_1137 : decode cL_law 1137 = .ok (.if_icmp .eq 759, 3) := by decide +kernel
theorem dL_law_1140 : decode cL_law 1140 = .ok (.iconst 0, 1) := by decide +kernel
theorem dL_law_1141 : decode cL_law 1141 = .ok (.ireturn, 1) := by decide +kernel
theorem dL_law_1142 : decode cL_law 1142 = .ok (.aload_n 1, 1) := by decide +kernel
theorem dL_law_1143 : decode cL_law 1143 = .ok (.aload_n 0, 1) := by decide +kernel
theorem dL_law_1144 : decode cL_law 1144 = .ok (.iload 4, 2) := by decide +kernel
theorem dL_law_1146 : decode cL_law 1146 = .ok (.iconst 1, 1) := by decide +kernel
theorem dL_law_1147 : decode cL_law 1147 = .ok (.iadd, 1) := by decide +kernel
theorem dL_law_1148 : decode cL_law 1148 = .ok (.iaload, 1) := by decide +kernel
theorem dL_law_1149 : decode cL_law 1149 = .ok (.invokevirtual 122, 3) := by decide +kernel
theorem dL_law_1152 : decode cL_law 1152 = .ok (.aload_n 2, 1) := by decide +kernel
theorem dL_law_1153 : decode cL_law 1153 = .ok (.aload_n 0, 1) := by decide +kernel
theorem dL_law_1154 : decode cL_law 1154 = .ok (.iload 4, 2) := by decide +kernel
theorem dL_law_1156 : decode cL_law 1156 = .ok (.iconst 1, 1) := by decide +kernel
theorem dL_law_1157 : decode cL_law 1157 = .ok (.iadd, 1) := by decide +kernel
theorem dL_law_1158 : decode cL_law 1158 = .ok (.iaload, 1) := by decide +kernel
theorem dL_law_1159 : decode cL_law 1159 = .ok (.invokevirtual 125, 3) := by decide +kernel
theorem dL_law_1162 : decode cL_law 1162 = .ok (.if_icmp .eq 734, 3) := by decide +kernel
theorem dL_law_1165 : decode cL_law 1165 = .ok (.iconst 0, 1) := by decide +kernel
theorem dL_law_1166 : decode cL_law 1166 = .ok (.ireturn, 1) := by decide +kernel
theorem dL_law_1167 : decode cL_law 1167 = .ok (.aload_n 1, 1) := by decide +kernel
theorem dL_law_1168 : decode cL_law 1168 = .ok (.aload_n 0, 1) := by decide +kernel
theorem dL_law_1169 : decode cL_law 1169 = .ok (.iload 4, 2) := by decide +kernel
theorem dL_law_1171 : decode cL_law 1171 = .ok (.iconst 1, 1) := by decide +kernel
theorem dL_law_1172 : decode cL_law 1172 = .ok (.iadd, 1) := by decide +kernel
theorem dL_law_1173 : decode cL_law 1173 = .ok (.iaload, 1) := by decide +kernel
theorem dL_law_1174 : decode cL_law 1174 = .ok (.invokevirtual 126, 3) := by decide +kernel
theorem dL_law_1177 : decode cL_law 1177 = .ok (.aload_n 2, 1) := by decide +kernel
theorem dL_law_1178 : decode cL_law 1178 = .ok (.aload_n 0, 1) := by decide +kernel
theorem dL_law_1179 : decode cL_law 1179 = .ok (.iload 4, 2) := by decide +kernel
theorem dL_law_1181 : decode cL_law 1181 = .ok (.iconst 1, 1) := by decide +kernel
theorem dL_law_1182 : decode cL_law 1182 = .ok (.iadd, 1) := by decide +kernel
theorem dL_law_1183 : decode cL_law 1183 = .ok (.iaload, 1) := by decide +kernel
theorem dL_law_1184 : decode cL_law 1184 = .ok (.invokevirtual 129, 3) := by decide +kernel
theorem dL_law_1187 : decode cL_law 1187 = .ok (.if_icmp .eq 709, 3) := by decide +kernel
theorem dL_law_1190 : decode cL_law 1190 = .ok (.iconst 0, 1) := by decide +kernel
theorem dL_law_1191 : decode cL_law 1191 = .ok (.ireturn, 1) := by decide +kernel
theorem dL_law_1192 : decode cL_law 1192 = .ok (.aload_n 1, 1) := by decide +kernel
theorem dL_law_1193 : decode cL_law 1193 = .ok (.aload_n 0, 1) := by decide +kernel
theorem dL_law_1194 : decode cL_law 1194 = .ok (.iload 4, 2) := by decide +kernel
theorem dL_law_1196 : decode cL_law 1196 = .ok (.iconst 1, 1) := by decide +kernel
theorem dL_law_1197 : decode cL_law 1197 = .ok (.iadd, 1) := by decide +kernel
theorem dL_law_1198 : decode cL_law 1198 = .ok (.iaload, 1) := by decide +kernel
theorem dL_law_1199 : decode cL_law 1199 = .ok (.aload_n 0, 1) := by decide +kernel
theorem dL_law_12 : decode cL_law 12 = .ok (.invokespecial 26, 3) := by decide +kernel
theorem dL_law_1200 : decode cL_law 1200 = .ok (.iload 4, 2) := by decide +kernel
theorem dL_law_1202 : decode cL_law 1202 = .ok (.iconst 2, 1) := by decide +kernel
theorem dL_law_1203 : decode cL_law 1203 = .ok (.iadd, 1) := by decide +kernel
theorem dL_law_1204 : decode cL_law 1204 = .ok (.iaload, 1) := by decide +kernel
theorem dL_law_1205 : decode cL_law 1205 = .ok (.aload_n 0, 1) := by decide +kernel
theorem dL_law_1206 : decode cL_law 1206 = .ok (.iload 4, 2) := by decide +kernel
theorem dL_law_1208 : decode cL_law 1208 = .ok (.iconst 3, 1) := by decide +kernel
theorem dL_law_1209 : decode cL_law 1209 = .ok (.iadd, 1) := by decide +kernel
theorem dL_law_1210 : decode cL_law 1210 = .ok (.iaload, 1) := by decide +kernel
theorem dL_law_1211 : decode cL_law 1211 = .ok (.aload_n 0, 1) := by decide +kernel
theorem dL_law_1212 : decode cL_law 1212 = .ok (.iload 4, 2) := by decide +kernel
theorem dL_law_1214 : decode cL_law 1214 = .ok (.iconst 4, 1) := by decide +kernel
theorem dL_law_1215 : decode cL_law 1215 = .ok (.iadd, 1) := by decide +kernel
theorem dL_law_1216 : decode cL_law 1216 = .ok (.iaload, 1) := by decide +kernel
theorem dL_law_1217 : decode cL_law 1217 = .ok (.invokevirtual 130, 3) := by decide +kernel
theorem dL_law_1220 : decode cL_law 1220 = .ok (.aload_n 2, 1) := by decide +kernel
theorem dL_law_1221 : decode cL_law 1221 = .ok (.aload_n 0, 1) := by decide +kernel
theorem dL_law_1222 : decode cL_law 1222 = .ok (.iload 4, 2) := by decide +kernel
theorem dL_law_1224 : decode cL_law 1224 = .ok (.iconst 1, 1) := by decide +kernel
theorem dL_law_1225 : decode cL_law 1225 = .ok (.iadd, 1) := by decide +kernel
theorem dL_law_1226 : decode cL_law 1226 = .ok (.iaload, 1) := by decide +kernel
theorem dL_law_1227 : decode cL_law 1227 = .ok (.aload_n 0, 1) := by decide +kernel
theorem dL_law_1228 : decode cL_law 1228 = .ok (.iload 4, 2) := by decide +kernel
theorem dL_law_1230 : decode cL_law 1230 = .ok (.iconst 2, 1) := by decide +kernel
theorem dL_law_1231 : decode cL_law 1231 = .ok (.iadd, 1) := by decide +kernel
theorem dL_law_1232 : decode cL_law 1232 = .ok (.iaload, 1) := by decide +kernel
theorem dL_law_1233 : decode cL_law 1233 = .ok (.aload_n 0, 1) := by decide +kernel
theorem dL_law_1234 : decode cL_law 1234 = .ok (.iload 4, 2) := by decide +kernel
theorem dL_law_1236 : decode cL_law 1236 = .ok (.iconst 3, 1) := by decide +kernel
theorem dL_law_1237 : decode cL_law 1237 = .ok (.iadd, 1) := by decide +kernel
theorem dL_law_1238 : decode cL_law 1238 = .ok (.iaload, 1) := by decide +kernel
theorem dL_law_1239 : decode cL_law 1239 = .ok (.aload_n 0, 1) := by decide +kernel
theorem dL_law_1240 : decode cL_law 1240 = .ok (.iload 4, 2) := by decide +kernel
theorem dL_law_1242 : decode cL_law 1242 = .ok (.iconst 4, 1) := by decide +kernel
theorem dL_law_1243 : decode cL_law 1243 = .ok (.iadd, 1) := by decide +kernel
theorem dL_law_1244 : decode cL_law 1244 = .ok (.iaload, 1) := by decide +kernel
theorem dL_law_1245 : decode cL_law 1245 = .ok (.invokevirtual 133, 3) := by decide +kernel
theorem dL_law_1248 : decode cL_law 1248 = .ok (.if_icmp .eq 648, 3) := by decide +kernel
theorem dL_law_1251 : decode cL_law 1251 = .ok (.iconst 0, 1) := by decide +kernel
theorem dL_law_1252 : decode cL_law 1252 = .ok (.ireturn, 1) := by decide +kernel
theorem dL_law_1253 : decode cL_law 1253 = .ok (.aload_n 1, 1) := by decide +kernel
theorem dL_law_1254 : decode cL_law 1254 = .ok (.aload_n 0, 1) := by decide +kernel
theorem dL_law_1255 : decode cL_law 1255 = .ok (.iload 4, 2) := by decide +kernel
theorem dL_law_1257 : decode cL_law 1257 = .ok (.iconst 1, 1) := by decide +kernel
theorem dL_law_1258 : decode cL_law 1258 = .ok (.iadd, 1) := by decide +kernel
theorem dL_law_1259 : decode cL_law 1259 = .ok (.iaload, 1) := by decide +kernel
theorem dL_law_1260 : decode cL_law 1260 = .ok (.invokevirtual 134, 3) := by decide +kernel
theorem dL_law_1263 : decode cL_law 1263 = .ok (.aload_n 2, 1) := by decide +kernel
theorem dL_law_1264 : decode cL_law 1264 = .ok (.aload_n 0, 1) := by decide +kernel
theorem dL_law_1265 : decode cL_law 1265 = .ok (.iload 4, 2) := by decide +kernel
theorem dL_law_1267 : decode cL_law 1267 = .ok (.iconst 1, 1) := by decide +kernel
theorem dL_law_1268 : decode cL_law 1268 = .ok (.iadd, 1) := by decide +kernel
theorem dL_law_1269 : decode cL_law 1269 = .ok (.iaload, 1) := by decide +kernel
theorem dL_law_1270 : decode cL_law 1270 = .ok (.invokevirtual 137, 3) := by decide +kernel
theorem dL_law_1273 : decode cL_law 1273 = .ok (.if_icmp .eq 623, 3) := by decide +kernel
theorem dL_law_1276 : decode cL_law 1276 = .ok (.iconst 0, 1) := by decide +kernel
theorem dL_law_1277 : decode cL_law 1277 = .ok (.ireturn, 1) := by decide +kernel
theorem dL_law_1278 : decode cL_law 1278 = .ok (.aload_n 1, 1) := by decide +kernel
theorem dL_law_1279 : decode cL_law 1279 = .ok (.aload_n 0, 1) := by decide +kernel
theorem dL_law_1280 : decode cL_law 1280 = .ok (.iload 4, 2) := by decide +kernel
theorem dL_law_1282 : decode cL_law 1282 = .ok (.iconst 1, 1) := by decide +kernel
theorem dL_law_1283 : decode cL_law 1283 = .ok (.iadd, 1) := by decide +kernel
theorem dL_law_1284 : decode cL_law 1284 = .ok (.iaload, 1) := by decide +kernel
theorem dL_law_1285 : decode cL_law 1285 = .ok (.invokevirtual 138, 3) := by decide +kernel
theorem dL_law_1288 : decode cL_law 1288 = .ok (.aload_n 2, 1) := by decide +kernel
theorem dL_law_1289 : decode cL_law 1289 = .ok (.aload_n 0, 1) := by decide +kernel
theorem dL_law_1290 : decode cL_law 1290 = .ok (.iload 4, 2) := by decide +kernel
theorem dL_law_1292 : decode cL_law 1292 = .ok (.iconst 1, 1) := by decide +kernel
theorem dL_law_1293 : decode cL_law 1293 = .ok (.iadd, 1) := by decide +kernel
theorem dL_law_1294 : decode cL_law 1294 = .ok (.iaload, 1) := by decide +kernel
theorem dL_law_1295 : decode cL_law 1295 = .ok (.invokevirtual 141, 3) := by decide +kernel
theorem dL_law_1298 : decode cL_law 1298 = .ok (.if_icmp .eq 598, 3) := by decide +kernel
theorem dL_law_1301 : decode cL_law 1301 = .ok (.iconst 0, 1) := by decide +kernel
theorem dL_law_1302 : decode cL_law 1302 = .ok (.ireturn, 1) := by decide +kernel
theorem dL_law_1303 : decode cL_law 1303 = .ok (.aload_n 1, 1) := by decide +kernel
theorem dL_law_1304 : decode cL_law 1304 = .ok (.aload_n 0, 1) := by decide +kernel
theorem dL_law_1305 : decode cL_law 1305 = .ok (.iload 4, 2) := by decide +kernel
theorem dL_law_1307 : decode cL_law 1307 = .ok (.iconst 1, 1) := by decide +kernel
theorem dL_law_1308 : decode cL_law 1308 = .ok (.iadd, 1) := by decide +kernel
theorem dL_law_1309 : decode cL_law 1309 = .ok (.iaload, 1) := by decide +kernel
theorem dL_law_1310 : decode cL_law 1310 = .ok (.aload_n 0, 1) := by decide +kernel
theorem dL_law_1311 : decode cL_law 1311 = .ok (.iload 4, 2) := by decide +kernel
theorem dL_law_1313 : decode cL_law 1313 = .ok (.iconst 2, 1) := by decide +kernel
theorem dL_law_1314 : decode cL_law 1314 = .ok (.iadd, 1) := by decide +kernel
theorem dL_law_1315 : decode cL_law 1315 = .ok (.iaload, 1) := by decide +kernel
theorem dL_law_1316 : decode cL_law 1316 = .ok (.invokevirtual 142, 3) := by decide +kernel
theorem dL_law_1319 : decode cL_law 1319 = .ok (.aload_n 2, 1) := by decide +kernel
theorem dL_law_1320 : decode cL_law 1320 = .ok (.aload_n 0, 1) := by decide +kernel
theorem dL_law_1321 : decode cL_law 1321 = .ok (.iload 4, 2) := by decide +kernel
theorem dL_law_1323 : decode cL_law 1323 = .ok (.iconst 1, 1) := by decide +kernel
theorem dL_law_1324 : decode cL_law 1324 = .ok (.iadd, 1) := by decide +kernel
theorem dL_law_1325 : decode cL_law 1325 = .ok (.iaload, 1) := by decide +kernel
theorem dL_law_1326 : decode cL_law 1326 = .ok (.aload_n 0, 1) := by decide +kernel
theorem dL_law_1327 : decode cL_law 1327 = .ok (.iload 4, 2) := by decide +kernel
theorem dL_law_1329 : decode cL_law 1329 = .ok (.iconst 2, 1) := by decide +kernel
theorem dL_law_1330 : decode cL_law 1330 = .ok (.iadd, 1) := by decide +kernel
theorem dL_law_1331 : decode cL_law 1331 = .ok (.iaload, 1) := by decide +kernel
theorem dL_law_1332 : decode cL_law 1332 = .ok (.invokevirtual 145, 3) := by decide +kernel
theorem dL_law_1335 : decode cL_law 1335 = .ok (.if_icmp .eq 561, 3) := by decide +kernel
theorem dL_law_1338 : decode cL_law 1338 = .ok (.iconst 0, 1) := by decide +kernel
theorem dL_law_1339 : decode cL_law 1339 = .ok (.ireturn, 1) := by decide +kernel
theorem dL_law_1340 : decode cL_law 1340 = .ok (.aload_n 1, 1) := by decide +kernel
theorem dL_law_1341 : decode cL_law 1341 = .ok (.invokevirtual 146, 3) := by decide +kernel
theorem dL_law_1344 : decode cL_law 1344 = .ok (.aload_n 2, 1) := by decide +kernel
theorem dL_law_1345 : decode cL_law 1345 = .ok (.invokevirtual 149, 3) := by decide +kernel
theorem dL_law_1348 : decode cL_law 1348 = .ok (.if_icmp .eq 548, 3) := by decide +kernel
theorem dL_law_1351 : decode cL_law 1351 = .ok (.iconst 0, 1) := by decide +kernel
theorem dL_law_1352 : decode cL_law 1352 = .ok (.ireturn, 1) := by decide +kernel
theorem dL_law_1353 : decode cL_law 1353 = .ok (.aload_n 1, 1) := by decide +kernel
theorem dL_law_1354 : decode cL_law 1354 = .ok (.aload_n 0, 1) := by decide +kernel
theorem dL_law_1355 : decode cL_law 1355 = .ok (.iload 4, 2) := by decide +kernel
theorem dL_law_1357 : decode cL_law 1357 = .ok (.iconst 1, 1) := by decide +kernel
theorem dL_law_1358 : decode cL_law 1358 = .ok (.iadd, 1) := by decide +kernel
theorem dL_law_1359 : decode cL_law 1359 = .ok (.iaload, 1) := by decide +kernel
theorem dL_law_1360 : decode cL_law 1360 = .ok (.aload_n 0, 1) := by decide +kernel
theorem dL_law_1361 : decode cL_law 1361 = .ok (.iload 4, 2) := by decide +kernel
theorem dL_law_1363 : decode cL_law 1363 = .ok (.iconst 2, 1) := by decide +kernel
theorem dL_law_1364 : decode cL_law 1364 = .ok (.iadd, 1) := by decide +kernel
theorem dL_law_1365 : decode cL_law 1365 = .ok (.iaload, 1) := by decide +kernel
theorem dL_law_1366 : decode cL_law 1366 = .ok (.aload_n 0, 1) := by decide +kernel
theorem dL_law_1367 : decode cL_law 1367 = .ok (.iload 4, 2) := by decide +kernel
theorem dL_law_1369 : decode cL_law 1369 = .ok (.iconst 3, 1) := by decide +kernel
theorem dL_law_1370 : decode cL_law 1370 = .ok (.iadd, 1) := by decide +kernel
theorem dL_law_1371 : decode cL_law 1371 = .ok (.iaload, 1) := by decide +kernel
theorem dL_law_1372 : decode cL_law 1372 = .ok (.invokevirtual 150, 3) := by decide +kernel
theorem dL_law_1375 : decode cL_law 1375 = .ok (.aload_n 2, 1) := by decide +kernel
theorem dL_law_1376 : decode cL_law 1376 = .ok (.aload_n 0, 1) := by decide +kernel
theorem dL_law_1377 : decode cL_law 1377 = .ok (.iload 4, 2) := by decide +kernel
theorem dL_law_1379 : decode cL_law 1379 = .ok (.iconst 1, 1) := by decide +kernel
theorem dL_law_1380 : decode cL_law 1380 = .ok (.iadd, 1) := by decide +kernel
theorem dL_law_1381 : decode cL_law 1381 = .ok (.iaload, 1) := by decide +kernel
theorem dL_law_1382 : decode cL_law 1382 = .ok (.aload_n 0, 1) := by decide +kernel
theorem dL_law_1383 : decode cL_law 1383 = .ok (.iload 4, 2) := by decide +kernel
theorem dL_law_1385 : decode cL_law 1385 = .ok (.iconst 2, 1) := by decide +kernel
theorem dL_law_1386 : decode cL_law 1386 = .ok (.iadd, 1) := by decide +kernel
theorem dL_law_1387 : decode cL_law 1387 = .ok (.iaload, 1) := by decide +kernel
theorem dL_law_1388 : decode cL_law 1388 = .ok (.aload_n 0, 1) := by decide +kernel
theorem dL_law_1389 : decode cL_law 1389 = .ok (.iload 4, 2) := by decide +kernel
theorem dL_law_1391 : decode cL_law 1391 = .ok (.iconst 3, 1) := by decide +kernel
theorem dL_law_1392 : decode cL_law 1392 = .ok (.iadd, 1) := by decide +kernel
theorem dL_law_1393 : decode cL_law 1393 = .ok (.iaload, 1) := by decide +kernel
theorem dL_law_1394 : decode cL_law 1394 = .ok (.invokevirtual 153, 3) := by decide +kernel
theorem dL_law_1397 : decode cL_law 1397 = .ok (.if_icmp .eq 499, 3) := by decide +kernel
theorem dL_law_1400 : decode cL_law 1400 = .ok (.iconst 0, 1) := by decide +kernel
theorem dL_law_1401 : decode cL_law 1401 = .ok (.ireturn, 1) := by decide +kernel
theorem dL_law_1402 : decode cL_law 1402 = .ok (.aload_n 1, 1) := by decide +kernel
theorem dL_law_1403 : decode cL_law 1403 = .ok (.aload_n 0, 1) := by decide +kernel
theorem dL_law_1404 : decode cL_law 1404 = .ok (.iload 4, 2) := by decide +kernel
theorem dL_law_1406 : decode cL_law 1406 = .ok (.iconst 1, 1) := by decide +kernel
theorem dL_law_1407 : decode cL_law 1407 = .ok (.iadd, 1) := by decide +kernel
theorem dL_law_1408 : decode cL_law 1408 = .ok (.iaload, 1) := by decide +kernel
theorem dL_law_1409 : decode cL_law 1409 = .ok (.aload_n 0, 1) := by decide +kernel
theorem dL_law_1410 : decode cL_law 1410 = .ok (.iload 4, 2) := by decide +kernel
theorem dL_law_1412 : decode cL_law 1412 = .ok (.iconst 2, 1) := by decide +kernel
theorem dL_law_1413 : decode cL_law 1413 = .ok (.iadd, 1) := by decide +kernel
theorem dL_law_1414 : decode cL_law 1414 = .ok (.iaload, 1) := by decide +kernel
theorem dL_law_1415 : decode cL_law 1415 = .ok (.aload_n 0, 1) := by decide +kernel
theorem dL_law_1416 : decode cL_law 1416 = .ok (.iload 4, 2) := by decide +kernel
theorem dL_law_1418 : decode cL_law 1418 = .ok (.iconst 3, 1) := by decide +kernel
theorem dL_law_1419 : decode cL_law 1419 = .ok (.iadd, 1) := by decide +kernel
theorem dL_law_1420 : decode cL_law 1420 = .ok (.iaload, 1) := by decide +kernel
theorem dL_law_1421 : decode cL_law 1421 = .ok (.aload_n 0, 1) := by decide +kernel
theorem dL_law_1422 : decode cL_law 1422 = .ok (.iload 4, 2) := by decide +kernel
theorem dL_law_1424 : decode cL_law 1424 = .ok (.iconst 4, 1) := by decide +kernel
theorem dL_law_1425 : decode cL_law 1425 = .ok (.iadd, 1) := by decide +kernel
theorem dL_law_1426 : decode cL_law 1426 = .ok (.iaload, 1) := by decide +kernel
theorem dL_law_1427 : decode cL_law 1427 = .ok (.invokevirtual 154, 3) := by decide +kernel
theorem dL_law_1430 : decode cL_law 1430 = .ok (.aload_n 2, 1) := by decide +kernel
theorem dL_law_1431 : decode cL_law 1431 = .ok (.aload_n 0, 1) := by decide +kernel
theorem dL_law_1432 : decode cL_law 1432 = .ok (.iload 4, 2) := by decide +kernel
theorem dL_law_1434 : decode cL_law 1434 = .ok (.iconst 1, 1) := by decide +kernel
theorem dL_law_1435 : decode cL_law 1435 = .ok (.iadd, 1) := by decide +kernel
theorem dL_law_1436 : decode cL_law 1436 = .ok (.iaload, 1) := by decide +kernel
theorem dL_law_1437 : decode cL_law 1437 = .ok (.aload_n 0, 1) := by decide +kernel
theorem dL_law_1438 : decode cL_law 1438 = .ok (.iload 4, 2) := by decide +kernel
theorem dL_law_1440 : decode cL_law 1440 = .ok (.iconst 2, 1) := by decide +kernel
theorem dL_law_1441 : decode cL_law 1441 = .ok (.iadd, 1) := by decide +kernel
theorem dL_law_1442 : decode cL_law 1442 = .ok (.iaload, 1) := by decide +kernel
theorem dL_law_1443 : decode cL_law 1443 = .ok (.aload_n 0, 1) := by decide +kernel
theorem dL_law_1444 : decode cL_law 1444 = .ok (.iload 4, 2) := by decide +kernel
theorem dL_law_1446 : decode cL_law 1446 = .ok (.iconst 3, 1) := by decide +kernel
theorem dL_law_1447 : decode cL_law 1447 = .ok (.iadd, 1) := by decide +kernel
theorem dL_law_1448 : decode cL_law 1448 = .ok (.iaload, 1) := by decide +kernel
theorem dL_law_1449 : decode cL_law 1449 = .ok (.aload_n 0, 1) := by decide +kernel
theorem dL_law_1450 : decode cL_law 1450 = .ok (.iload 4, 2) := by decide +kernel
theorem dL_law_1452 : decode cL_law 1452 = .ok (.iconst 4, 1) := by decide +kernel
theorem dL_law_1453 : decode cL_law 1453 = .ok (.iadd, 1) := by decide +kernel
theorem dL_law_1454 : decode cL_law 1454 = .ok (.iaload, 1) := by decide +kernel
theorem dL_law_1455 : decode cL_law 1455 = .ok (.invokevirtual 157, 3) := by decide +kernel
theorem dL_law_1458 : decode cL_law 1458 = .ok (.if_icmp .eq 438, 3) := by decide +kernel
theorem dL_law_1461 : decode cL_law 1461 = .ok (.iconst 0, 1) := by decide +kernel
theorem dL_law_1462 : decode cL_law 1462 = .ok (.ireturn, 1) := by decide +kernel
theorem dL_law_1463 : decode cL_law 1463 = .ok (.aload_n 1, 1) := by decide +kernel
theorem dL_law_1464 : decode cL_law 1464 = .ok (.aload_n 0, 1) := by decide +kernel
theorem dL_law_1465 : decode cL_law 1465 = .ok (.iload 4, 2) := by decide +kernel
theorem dL_law_1467 : decode cL_law 1467 = .ok (.iconst 1, 1) := by decide +kernel
theorem dL_law_1468 : decode cL_law 1468 = .ok (.iadd, 1) := by decide +kernel
theorem dL_law_1469 : decode cL_law 1469 = .ok (.iaload, 1) := by decide +kernel
theorem dL_law_1470 : decode cL_law 1470 = .ok (.invokevirtual 158, 3) := by decide +kernel
theorem dL_law_1473 : decode cL_law 1473 = .ok (.aload_n 2, 1) := by decide +kernel
theorem dL_law_1474 : decode cL_law 1474 = .ok (.aload_n 0, 1) := by decide +kernel
theorem dL_law_1475 : decode cL_law 1475 = .ok (.iload 4, 2) := by decide +kernel
theorem dL_law_1477 : decode cL_law 1477 = .ok (.iconst 1, 1) := by decide +kernel
theorem dL_law_1478 : decode cL_law 1478 = .ok (.iadd, 1) := by decide +kernel
theorem dL_law_1479 : decode cL_law 1479 = .ok (.iaload, 1) := by decide +kernel
theorem dL_law_1480 : decode cL_law 1480 = .ok (.invokevirtual 161, 3) := by decide +kernel
theorem dL_law_1483 : decode cL_law 1483 = .ok (.if_icmp .eq 413, 3) := by decide +kernel
theorem dL_law_1486 : decode cL_law 1486 = .ok (.iconst 0, 1) := by decide +kernel
theorem dL_law_1487 : decode cL_law 1487 = .ok (.ireturn, 1) := by decide +kernel
theorem dL_law_1488 : decode cL_law 1488 = .ok (.aload_n 1, 1) := by decide +kernel
theorem dL_law_1489 : decode cL_law 1489 = .ok (.aload_n 0, 1) := by decide +kernel
theorem dL_law_1490 : decode cL_law 1490 = .ok (.iload 4, 2) := by decide +kernel
theorem dL_law_1492 : decode cL_law 1492 = .ok (.iconst 1, 1) := by decide +kernel
theorem dL_law_1493 : decode cL_law 1493 = .ok (.iadd, 1) := by decide +kernel
theorem dL_law_1494 : decode cL_law 1494 = .ok (.iaload, 1) := by decide +kernel
theorem dL_law_1495 : decode cL_law 1495 = .ok (.aload_n 0, 1) := by decide +kernel
theorem dL_law_1496 : decode cL_law 1496 = .ok (.iload 4, 2) := by decide +kernel
theorem dL_law_1498 : decode cL_law 1498 = .ok (.iconst 2, 1) := by decide +kernel
theorem dL_law_1499 : decode cL_law 1499 = .ok (.iadd, 1) := by decide +kernel
theorem dL_law_15 : decode cL_law 15 = .ok (.astore_n 2, 1) := by decide +kernel
theorem dL_law_1500 : decode cL_law 1500 = .ok (.iaload, 1) := by decide +kernel
theorem dL_law_1501 : decode cL_law 1501 = .ok (.invokevirtual 162, 3) := by decide +kernel
theorem dL_law_1504 : decode cL_law 1504 = .ok (.aload_n 2, 1) := by decide +kernel
theorem dL_law_1505 : decode cL_law 1505 = .ok (.aload_n 0, 1) := by decide +kernel
theorem dL_law_1506 : decode cL_law 1506 = .ok (.iload 4, 2) := by decide +kernel
theorem dL_law_1508 : decode cL_law 1508 = .ok (.iconst 1, 1) := by decide +kernel
theorem dL_law_1509 : decode cL_law 1509 = .ok (.iadd, 1) := by decide +kernel
theorem dL_law_1510 : decode cL_law 1510 = .ok (.iaload, 1) := by decide +kernel
theorem dL_law_1511 : decode cL_law 1511 = .ok (.aload_n 0, 1) := by decide +kernel
theorem dL_law_1512 : decode cL_law 1512 = .ok (.iload 4, 2) := by decide +kernel
theorem dL_law_1514 : decode cL_law 1514 = .ok (.iconst 2, 1) := by decide +kernel
theorem dL_law_1515 : decode cL_law 1515 = .ok (.iadd, 1) := by decide +kernel
theorem dL_law_1516 : decode cL_law 1516 = .ok (.iaload, 1) := by decide +kernel
theorem dL_law_1517 : decode cL_law 1517 = .ok (.invokevirtual 165, 3) := by decide +kernel
theorem dL_law_1520 : decode cL_law 1520 = .ok (.if_icmp .eq 376, 3) := by decide +kernel
theorem dL_law_1523 : decode cL_law 1523 = .ok (.iconst 0, 1) := by decide +kernel
theorem dL_law_1524 : decode cL_law 1524 = .ok (.ireturn, 1) := by decide +kernel
theorem dL_law_1525 : decode cL_law 1525 = .ok (.aload_n 1, 1) := by decide +kernel
theorem dL_law_1526 : decode cL_law 1526 = .ok (.aload_n 0, 1) := by decide +kernel
theorem dL_law_1527 : decode cL_law 1527 = .ok (.iload 4, 2) := by decide +kernel
theorem dL_law_1529 : decode cL_law 1529 = .ok (.iconst 1, 1) := by decide +kernel
theorem dL_law_1530 : decode cL_law 1530 = .ok (.iadd, 1) := by decide +kernel
theorem dL_law_1531 : decode cL_law 1531 = .ok (.iaload, 1) := by decide +kernel
theorem dL_law_1532 : decode cL_law 1532 = .ok (.aload_n 0, 1) := by decide +kernel
theorem dL_law_1533 : decode cL_law 1533 = .ok (.iload 4, 2) := by decide +kernel
theorem dL_law_1535 : decode cL_law 1535 = .ok (.iconst 2, 1) := by decide +kernel
theorem dL_law_1536 : decode cL_law 1536 = .ok (.iadd, 1) := by decide +kernel
theorem dL_law_1537 : decode cL_law 1537 = .ok (.iaload, 1) := by decide +kernel
theorem dL_law_1538 : decode cL_law 1538 = .ok (.invokevirtual 166, 3) := by decide +kernel
theorem dL_law_1541 : decode cL_law 1541 = .ok (.aload_n 2, 1) := by decide +kernel
theorem dL_law_1542 : decode cL_law 1542 = .ok (.aload_n 0, 1) := by decide +kernel
theorem dL_law_1543 : decode cL_law 1543 = .ok (.iload 4, 2) := by decide +kernel
theorem dL_law_1545 : decode cL_law 1545 = .ok (.iconst 1, 1) := by decide +kernel
theorem dL_law_1546 : decode cL_law 1546 = .ok (.iadd, 1) := by decide +kernel
theorem dL_law_1547 : decode cL_law 1547 = .ok (.iaload, 1) := by decide +kernel
theorem dL_law_1548 : decode cL_law 1548 = .ok (.aload_n 0, 1) := by decide +kernel
theorem dL_law_1549 : decode cL_law 1549 = .ok (.iload 4, 2) := by decide +kernel
theorem dL_law_1551 : decode cL_law 1551 = .ok (.iconst 2, 1) := by decide +kernel
theorem dL_law_1552 : decode cL_law 1552 = .ok (.iadd, 1) := by decide +kernel
theorem dL_law_1553 : decode cL_law 1553 = .ok (.iaload, 1) := by decide +kernel
theorem dL_law_1554 : decode cL_law 1554 = .ok (.invokevirtual 169, 3) := by decide +kernel
theorem dL_law_1557 : decode cL_law 1557 = .ok (.if_icmp .eq 339, 3) := by decide +kernel
theorem dL_law_1560 : decode cL_law 1560 = .ok (.iconst 0, 1) := by decide +kernel
theorem dL_law_1561 : decode cL_law 1561 = .ok (.ireturn, 1) := by decide +kernel
theorem dL_law_1562 : decode cL_law 1562 = .ok (.aload_n 1, 1) := by decide +kernel
theorem dL_law_1563 : decode cL_law 1563 = .ok (.aload_n 0, 1) := by decide +kernel
theorem dL_law_1564 : decode cL_law 1564 = .ok (.iload 4, 2) := by decide +kernel
theorem dL_law_1566 : decode cL_law 1566 = .ok (.iconst 1, 1) := by decide +kernel
theorem dL_law_1567 : decode cL_law 1567 = .ok (.iadd, 1) := by decide +kernel
theorem dL_law_1568 : decode cL_law 1568 = .ok (.iaload, 1) := by decide +kernel
theorem dL_law_1569 : decode cL_law 1569 = .ok (.invokevirtual 170, 3) := by decide +kernel
theorem dL_law_1572 : decode cL_law 1572 = .ok (.aload_n 2, 1) := by decide +kernel
theorem dL_law_1573 : decode cL_law 1573 = .ok (.aload_n 0, 1) := by decide +kernel
theorem dL_law_1574 : decode cL_law 1574 = .ok (.iload 4, 2) := by decide +kernel
theorem dL_law_1576 : decode cL_law 1576 = .ok (.iconst 1, 1) := by decide +kernel
theorem dL_law_1577 : decode cL_law 1577 = .ok (.iadd, 1) := by decide +kernel
theorem dL_law_1578 : decode cL_law 1578 = .ok (.iaload, 1) := by decide +kernel
theorem dL_law_1579 : decode cL_law 1579 = .ok (.invokevirtual 173, 3) := by decide +kernel
theorem dL_law_1582 : decode cL_law 1582 = .ok (.if_icmp .eq 314, 3) := by decide +kernel
theorem dL_law_1585 : decode cL_law 1585 = .ok (.iconst 0, 1) := by decide +kernel
theorem dL_law_1586 : decode cL_law 1586 = .ok (.ireturn, 1) := by decide +kernel
theorem dL_law_1587 : decode cL_law 1587 = .ok (.aload_n 1, 1) := by decide +kernel
theorem dL_law_1588 : decode cL_law 1588 = .ok (.aload_n 0, 1) := by decide +kernel
theorem dL_law_1589 : decode cL_law 1589 = .ok (.iload 4, 2) := by decide +kernel
theorem dL_law_1591 : decode cL_law 1591 = .ok (.iconst 1, 1) := by decide +kernel
theorem dL_law_1592 : decode cL_law 1592 = .ok (.iadd, 1) := by decide +kernel
theorem dL_law_1593 : decode cL_law 1593 = .ok (.iaload, 1) := by decide +kernel
theorem dL_law_1594 : decode cL_law 1594 = .ok (.aload_n 0, 1) := by decide +kernel
theorem dL_law_1595 : decode cL_law 1595 = .ok (.iload 4, 2) := by decide +kernel
theorem dL_law_1597 : decode cL_law 1597 = .ok (.iconst 2, 1) := by decide +kernel
theorem dL_law_1598 : decode cL_law 1598 = .ok (.iadd, 1) := by decide +kernel
theorem dL_law_1599 : decode cL_law 1599 = .ok (.iaload, 1) := by decide +kernel
theorem dL_law_16 : decode cL_law 16 = .ok (.iconst 1, 1) := by decide +kernel
theorem dL_law_1600 : decode cL_law 1600 = .ok (.aload_n 0, 1) := by decide +kernel
theorem dL_law_1601 : decode cL_law 1601 = .ok (.iload 4, 2) := by decide +kernel
theorem dL_law_1603 : decode cL_law 1603 = .ok (.iconst 3, 1) := by decide +kernel
theorem dL_law_1604 : decode cL_law 1604 = .ok (.iadd, 1) := by decide +kernel
theorem dL_law_1605 : decode cL_law 1605 = .ok (.iaload, 1) := by decide +kernel
theorem dL_law_1606 : decode cL_law 1606 = .ok (.aload_n 3, 1) := by decide +kernel
theorem dL_law_1607 : decode cL_law 1607 = .ok (.invokestatic 174, 3) := by decide +kernel
theorem dL_law_1610 : decode cL_law 1610 = .ok (.istore 5, 2) := by decide +kernel
theorem dL_law_1612 : decode cL_law 1612 = .ok (.aload_n 2, 1) := by decide +kernel
theorem dL_law_1613 : decode cL_law 1613 = .ok (.aload_n 0, 1) := by decide +kernel
theorem dL_law_1614 : decode cL_law 1614 = .ok (.iload 4, 2) := by decide +kernel
theorem dL_law_1616 : decode cL_law 1616 = .ok (.iconst 1, 1) := by decide +kernel
theorem dL_law_1617 : decode cL_law 1617 = .ok (.iadd, 1) := by decide +kernel
theorem dL_law_1618 : decode cL_law 1618 = .ok (.iaload, 1) := by decide +kernel
theorem dL_law_1619 : decode cL_law 1619 = .ok (.aload_n 0, 1) := by decide +kernel
theorem dL_law_1620 : decode cL_law 1620 = .ok (.iload 4, 2) := by decide +kernel
theorem dL_law_1622 : decode cL_law 1622 = .ok (.iconst 2, 1) := by decide +kernel
theorem dL_law_1623 : decode cL_law 1623 = .ok (.iadd, 1) := by decide +kernel
theorem dL_law_1624 : decode cL_law 1624 = .ok (.iaload, 1) := by decide +kernel
theorem dL_law_1625 : decode cL_law 1625 = .ok (.aload_n 0, 1) := by decide +kernel
theorem dL_law_1626 : decode cL_law 1626 = .ok (.iload 4, 2) := by decide +kernel
theorem dL_law_1628 : decode cL_law 1628 = .ok (.iconst 3, 1) := by decide +kernel
theorem dL_law_1629 : decode cL_law 1629 = .ok (.iadd, 1) := by decide +kernel
theorem dL_law_1630 : decode cL_law 1630 = .ok (.iaload, 1) := by decide +kernel
theorem dL_law_1631 : decode cL_law 1631 = .ok (.invokevirtual 177, 3) := by decide +kernel
theorem dL_law_1634 : decode cL_law 1634 = .ok (.istore 6, 2) := by decide +kernel
theorem dL_law_1636 : decode cL_law 1636 = .ok (.aload_n 2, 1) := by decide +kernel
theorem dL_law_1637 : decode cL_law 1637 = .ok (.invokevirtual 114, 3) := by decide +kernel
theorem dL_law_1640 : decode cL_law 1640 = .ok (.iload 5, 2) := by decide +kernel
theorem dL_law_1642 : decode cL_law 1642 = .ok (.if_icmp .eq 5, 3) := by decide +kernel
theorem dL_law_1645 : decode cL_law 1645 = .ok (.iconst 0, 1) := by decide +kernel
theorem dL_law_1646 : decode cL_law 1646 = .ok (.ireturn, 1) := by decide +kernel
theorem dL_law_1647 : decode cL_law 1647 = .ok (.iload 5, 2) := by decide +kernel
theorem dL_law_1649 : decode cL_law 1649 = .ok (.ifCond .ne 15, 3) := by decide +kernel
theorem dL_law_1652 : decode cL_law 1652 = .ok (.aload_n 3, 1) := by decide +kernel
theorem dL_law_1653 : decode cL_law 1653 = .ok (.iconst 0, 1) := by decide +kernel
theorem dL_law_1654 : decode cL_law 1654 = .ok (.laload, 1) := by decide +kernel
theorem dL_law_1655 : decode cL_law 1655 = .ok (.iload 6, 2) := by decide +kernel
theorem dL_law_1657 : decode cL_law 1657 = .ok (.i2l, 1) := by decide +kernel
theorem dL_law_1658 : decode cL_law 1658 = .ok (.lcmp, 1) := by decide +kernel
theorem dL_law_1659 : decode cL_law 1659 = .ok (.ifCond .eq 5, 3) := by decide +kernel
theorem dL_law_1662 : decode cL_law 1662 = .ok (.iconst 0, 1) := by decide +kernel
theorem dL_law_1663 : decode cL_law 1663 = .ok (.ireturn, 1) := by decide +kernel
theorem dL_law_1664 : decode cL_law 1664 = .ok (.goto 232, 3) := by decide +kernel
theorem dL_law_1667 : decode cL_law 1667 = .ok (.aload_n 1, 1) := by decide +kernel
theorem dL_law_1668 : decode cL_law 1668 = .ok (.aload_n 0, 1) := by decide +kernel
theorem dL_law_1669 : decode cL_law 1669 = .ok (.iload 4, 2) := by decide +kernel
theorem dL_law_1671 : decode cL_law 1671 = .ok (.iconst 1, 1) := by decide +kernel
theorem dL_law_1672 : decode cL_law 1672 = .ok (.iadd, 1) := by decide +kernel
theorem dL_law_1673 : decode cL_law 1673 = .ok (.iaload, 1) := by decide +kernel
theorem dL_law_1674 : decode cL_law 1674 = .ok (.aload_n 0, 1) := by decide +kernel
theorem dL_law_1675 : decode cL_law 1675 = .ok (.iload 4, 2) := by decide +kernel
theorem dL_law_1677 : decode cL_law 1677 = .ok (.iconst 2, 1) := by decide +kernel
theorem dL_law_1678 : decode cL_law 1678 = .ok (.iadd, 1) := by decide +kernel
theorem dL_law_1679 : decode cL_law 1679 = .ok (.iaload, 1) := by decide +kernel
theorem dL_law_1680 : decode cL_law 1680 = .ok (.invokevirtual 178, 3) := by decide +kernel
theorem dL_law_1683 : decode cL_law 1683 = .ok (.aload_n 2, 1) := by decide +kernel
theorem dL_law_1684 : decode cL_law 1684 = .ok (.aload_n 0, 1) := by decide +kernel
theorem dL_law_1685 : decode cL_law 1685 = .ok (.iload 4, 2) := by decide +kernel
theorem dL_law_1687 : decode cL_law 1687 = .ok (.iconst 1, 1) := by decide +kernel
theorem dL_law_1688 : decode cL_law 1688 = .ok (.iadd, 1) := by decide +kernel
theorem dL_law_1689 : decode cL_law 1689 = .ok (.iaload, 1) := by decide +kernel
theorem dL_law_1690 : decode cL_law 1690 = .ok (.aload_n 0, 1) := by decide +kernel
theorem dL_law_1691 : decode cL_law 1691 = .ok (.iload 4, 2) := by decide +kernel
theorem dL_law_1693 : decode cL_law 1693 = .ok (.iconst 2, 1) := by decide +kernel
theorem dL_law_1694 : decode cL_law 1694 = .ok (.iadd, 1) := by decide +kernel
theorem dL_law_1695 : decode cL_law 1695 = .ok (.iaload, 1) := by decide +kernel
theorem dL_law_1696 : decode cL_law 1696 = .ok (.invokevirtual 181, 3) := by decide +kernel
theorem dL_law_1699 : decode cL_law 1699 = .ok (.if_icmp .eq 197, 3) := by decide +kernel
theorem dL_law_17 : decode cL_law 17 = .ok (.newarray .long, 2) := by decide +kernel
theorem dL_law_1702 : decode cL_law 1702 = .ok (.iconst 0, 1) := by decide +kernel
theorem dL_law_1703 : decode cL_law 1703 = .ok (.ireturn, 1) := by decide +kernel
theorem dL_law_1704 : decode cL_law 1704 = .ok (.aload_n 1, 1) := by decide +kernel
theorem dL_law_1705 : decode cL_law 1705 = .ok (.aload_n 0, 1) := by decide +kernel
theorem dL_law_1706 : decode cL_law 1706 = .ok (.iload 4, 2) := by decide +kernel
theorem dL_law_1708 : decode cL_law 1708 = .ok (.iconst 1, 1) := by decide +kernel
theorem dL_law_1709 : decode cL_law 1709 = .ok (.iadd, 1) := by decide +kernel
theorem dL_law_1710 : decode cL_law 1710 = .ok (.iaload, 1) := by decide +kernel
theorem dL_law_1711 : decode cL_law 1711 = .ok (.aload_n 0, 1) := by decide +kernel
theorem dL_law_1712 : decode cL_law 1712 = .ok (.iload 4, 2) := by decide +kernel
theorem dL_law_1714 : decode cL_law 1714 = .ok (.iconst 2, 1) := by decide +kernel
theorem dL_law_1715 : decode cL_law 1715 = .ok (.iadd, 1) := by decide +kernel
theorem dL_law_1716 : decode cL_law 1716 = .ok (.iaload, 1) := by decide +kernel
theorem dL_law_1717 : decode cL_law 1717 = .ok (.aload_n 0, 1) := by decide +kernel
theorem dL_law_1718 : decode cL_law 1718 = .ok (.iload 4, 2) := by decide +kernel
theorem dL_law_1720 : decode cL_law 1720 = .ok (.iconst 3, 1) := by decide +kernel
theorem dL_law_1721 : decode cL_law 1721 = .ok (.iadd, 1) := by decide +kernel
theorem dL_law_1722 : decode cL_law 1722 = .ok (.iaload, 1) := by decide +kernel
theorem dL_law_1723 : decode cL_law 1723 = .ok (.aload_n 0, 1) := by decide +kernel
theorem dL_law_1724 : decode cL_law 1724 = .ok (.iload 4, 2) := by decide +kernel
theorem dL_law_1726 : decode cL_law 1726 = .ok (.iconst 4, 1) := by decide +kernel
theorem dL_law_1727 : decode cL_law 1727 = .ok (.iadd, 1) := by decide +kernel
theorem dL_law_1728 : decode cL_law 1728 = .ok (.iaload, 1) := by decide +kernel
theorem dL_law_1729 : decode cL_law 1729 = .ok (.invokevirtual 182, 3) := by decide +kernel
theorem dL_law_1732 : decode cL_law 1732 = .ok (.aload_n 2, 1) := by decide +kernel
theorem dL_law_1733 : decode cL_law 1733 = .ok (.aload_n 0, 1) := by decide +kernel
theorem dL_law_1734 : decode cL_law 1734 = .ok (.iload 4, 2) := by decide +kernel
theorem dL_law_1736 : decode cL_law 1736 = .ok (.iconst 1, 1) := by decide +kernel
theorem dL_law_1737 : decode cL_law 1737 = .ok (.iadd, 1) := by decide +kernel
theorem dL_law_1738 : decode cL_law 1738 = .ok (.iaload, 1) := by decide +kernel
theorem dL_law_1739 : decode cL_law 1739 = .ok (.aload_n 0, 1) := by decide +kernel
theorem dL_law_1740 : decode cL_law 1740 = .ok (.iload 4, 2) := by decide +kernel
theorem dL_law_1742 : decode cL_law 1742 = .ok (.iconst 2, 1) := by decide +kernel
theorem dL_law_1743 : decode cL_law 1743 = .ok (.iadd, 1) := by decide +kernel
theorem dL_law_1744 : decode cL_law 1744 = .ok (.iaload, 1) := by decide +kernel
theorem dL_law_1745 : decode cL_law 1745 = .ok (.aload_n 0, 1) := by decide +kernel
theorem dL_law_1746 : decode cL_law 1746 = .ok (.iload 4, 2) := by decide +kernel
theorem dL_law_1748 : decode cL_law 1748 = .ok (.iconst 3, 1) := by decide +kernel
theorem dL_law_1749 : decode cL_law 1749 = .ok (.iadd, 1) := by decide +kernel
theorem dL_law_1750 : decode cL_law 1750 = .ok (.iaload, 1) := by decide +kernel
theorem dL_law_1751 : decode cL_law 1751 = .ok (.aload_n 0, 1) := by decide +kernel
theorem dL_law_1752 : decode cL_law 1752 = .ok (.iload 4, 2) := by decide +kernel
theorem dL_law_1754 : decode cL_law 1754 = .ok (.iconst 4, 1) := by decide +kernel
theorem dL_law_1755 : decode cL_law 1755 = .ok (.iadd, 1) := by decide +kernel
theorem dL_law_1756 : decode cL_law 1756 = .ok (.iaload, 1) := by decide +kernel
theorem dL_law_1757 : decode cL_law 1757 = .ok (.invokevirtual 185, 3) := by decide +kernel
theorem dL_law_1760 : decode cL_law 1760 = .ok (.if_icmp .eq 136, 3) := by decide +kernel
theorem dL_law_1763 : decode cL_law 1763 = .ok (.iconst 0, 1) := by decide +kernel
theorem dL_law_1764 : decode cL_law 1764 = .ok (.ireturn, 1) := by decide +kernel
theorem dL_law_1765 : decode cL_law 1765 = .ok (.aload_n 1, 1) := by decide +kernel
theorem dL_law_1766 : decode cL_law 1766 = .ok (.aload_n 0, 1) := by decide +kernel
theorem dL_law_1767 : decode cL_law 1767 = .ok (.iload 4, 2) := by decide +kernel
theorem dL_law_1769 : decode cL_law 1769 = .ok (.iconst 1, 1) := by decide +kernel
theorem dL_law_1770 : decode cL_law 1770 = .ok (.iadd, 1) := by decide +kernel
theorem dL_law_1771 : decode cL_law 1771 = .ok (.iaload, 1) := by decide +kernel
theorem dL_law_1772 : decode cL_law 1772 = .ok (.aload_n 0, 1) := by decide +kernel
theorem dL_law_1773 : decode cL_law 1773 = .ok (.iload 4, 2) := by decide +kernel
theorem dL_law_1775 : decode cL_law 1775 = .ok (.iconst 2, 1) := by decide +kernel
theorem dL_law_1776 : decode cL_law 1776 = .ok (.iadd, 1) := by decide +kernel
theorem dL_law_1777 : decode cL_law 1777 = .ok (.iaload, 1) := by decide +kernel
theorem dL_law_1778 : decode cL_law 1778 = .ok (.invokevirtual 186, 3) := by decide +kernel
theorem dL_law_1781 : decode cL_law 1781 = .ok (.aload_n 2, 1) := by decide +kernel
theorem dL_law_1782 : decode cL_law 1782 = .ok (.aload_n 0, 1) := by decide +kernel
theorem dL_law_1783 : decode cL_law 1783 = .ok (.iload 4, 2) := by decide +kernel
theorem dL_law_1785 : decode cL_law 1785 = .ok (.iconst 1, 1) := by decide +kernel
theorem dL_law_1786 : decode cL_law 1786 = .ok (.iadd, 1) := by decide +kernel
theorem dL_law_1787 : decode cL_law 1787 = .ok (.iaload, 1) := by decide +kernel
theorem dL_law_1788 : decode cL_law 1788 = .ok (.aload_n 0, 1) := by decide +kernel
theorem dL_law_1789 : decode cL_law 1789 = .ok (.iload 4, 2) := by decide +kernel
theorem dL_law_1791 : decode cL_law 1791 = .ok (.iconst 2, 1) := by decide +kernel
theorem dL_law_1792 : decode cL_law 1792 = .ok (.iadd, 1) := by decide +kernel
theorem dL_law_1793 : decode cL_law 1793 = .ok (.iaload, 1) := by decide +kernel
theorem dL_law_1794 : decode cL_law 1794 = .ok (.invokevirtual 189, 3) := by decide +kernel
theorem dL_law_1797 : decode cL_law 1797 = .ok (.if_icmp .eq 99, 3) := by decide +kernel
theorem dL_law_1800 : decode cL_law 1800 = .ok (.iconst 0, 1) := by decide +kernel
theorem dL_law_1801 : decode cL_law 1801 = .ok (.ireturn, 1) := by decide +kernel
theorem dL_law_1802 : decode cL_law 1802 = .ok (.aload_n 1, 1) := by decide +kernel
theorem dL_law_1803 : decode cL_law 1803 = .ok (.invokevirtual 190, 3) := by decide +kernel
theorem dL_law_1806 : decode cL_law 1806 = .ok (.aload_n 2, 1) := by decide +kernel
theorem dL_law_1807 : decode cL_law 1807 = .ok (.invokevirtual 193, 3) := by decide +kernel
theorem dL_law_1810 : decode cL_law 1810 = .ok (.if_icmp .eq 86, 3) := by decide +kernel
theorem dL_law_1813 : decode cL_law 1813 = .ok (.iconst 0, 1) := by decide +kernel
theorem dL_law_1814 : decode cL_law 1814 = .ok (.ireturn, 1) := by decide +kernel
theorem dL_law_1815 : decode cL_law 1815 = .ok (.aload_n 1, 1) := by decide +kernel
theorem dL_law_1816 : decode cL_law 1816 = .ok (.aload_n 0, 1) := by decide +kernel
theorem dL_law_1817 : decode cL_law 1817 = .ok (.iload 4, 2) := by decide +kernel
theorem dL_law_1819 : decode cL_law 1819 = .ok (.iconst 1, 1) := by decide +kernel
theorem dL_law_1820 : decode cL_law 1820 = .ok (.iadd, 1) := by decide +kernel
theorem dL_law_1821 : decode cL_law 1821 = .ok (.iaload, 1) := by decide +kernel
theorem dL_law_1822 : decode cL_law 1822 = .ok (.invokevirtual 194, 3) := by decide +kernel
theorem dL_law_1825 : decode cL_law 1825 = .ok (.aload_n 2, 1) := by decide +kernel
theorem dL_law_1826 : decode cL_law 1826 = .ok (.aload_n 0, 1) := by decide +kernel
theorem dL_law_1827 : decode cL_law 1827 = .ok (.iload 4, 2) := by decide +kernel
theorem dL_law_1829 : decode cL_law 1829 = .ok (.iconst 1, 1) := by decide +kernel
theorem dL_law_1830 : decode cL_law 1830 = .ok (.iadd, 1) := by decide +kernel
theorem dL_law_1831 : decode cL_law 1831 = .ok (.iaload, 1) := by decide +kernel
theorem dL_law_1832 : decode cL_law 1832 = .ok (.invokevirtual 197, 3) := by decide +kernel
theorem dL_law_1835 : decode cL_law 1835 = .ok (.if_icmp .eq 61, 3) := by decide +kernel
theorem dL_law_1838 : decode cL_law 1838 = .ok (.iconst 0, 1) := by decide +kernel
theorem dL_law_1839 : decode cL_law 1839 = .ok (.ireturn, 1) := by decide +kernel
theorem dL_law_1840 : decode cL_law 1840 = .ok (.aload_n 1, 1) := by decide +kernel
theorem dL_law_1841 : decode cL_law 1841 = .ok (.aload_n 0, 1) := by decide +kernel
theorem dL_law_1842 : decode cL_law 1842 = .ok (.iload 4, 2) := by decide +kernel
theorem dL_law_1844 : decode cL_law 1844 = .ok (.iconst 1, 1) := by decide +kernel
theorem dL_law_1845 : decode cL_law 1845 = .ok (.iadd, 1) := by decide +kernel
theorem dL_law_1846 : decode cL_law 1846 = .ok (.iaload, 1) := by decide +kernel
theorem dL_law_1847 : decode cL_law 1847 = .ok (.aload_n 3, 1) := by decide +kernel
theorem dL_law_1848 : decode cL_law 1848 = .ok (.invokestatic 198, 3) := by decide +kernel
theorem dL_law_1851 : decode cL_law 1851 = .ok (.istore 5, 2) := by decide +kernel
theorem dL_law_1853 : decode cL_law 1853 = .ok (.aload_n 2, 1) := by decide +kernel
theorem dL_law_1854 : decode cL_law 1854 = .ok (.aload_n 0, 1) := by decide +kernel
theorem dL_law_1855 : decode cL_law 1855 = .ok (.iload 4, 2) := by decide +kernel
theorem dL_law_1857 : decode cL_law 1857 = .ok (.iconst 1, 1) := by decide +kernel
theorem dL_law_1858 : decode cL_law 1858 = .ok (.iadd, 1) := by decide +kernel
theorem dL_law_1859 : decode cL_law 1859 = .ok (.iaload, 1) := by decide +kernel
theorem dL_law_1860 : decode cL_law 1860 = .ok (.invokevirtual 201, 3) := by decide +kernel
theorem dL_law_1863 : decode cL_law 1863 = .ok (.istore 6, 2) := by decide +kernel
theorem dL_law_1865 : decode cL_law 1865 = .ok (.aload_n 2, 1) := by decide +kernel
theorem dL_law_1866 : decode cL_law 1866 = .ok (.invokevirtual 114, 3) := by decide +kernel
theorem dL_law_1869 : decode cL_law 1869 = .ok (.iload 5, 2) := by decide +kernel
theorem dL_law_1871 : decode cL_law 1871 = .ok (.if_icmp .eq 5, 3) := by decide +kernel
theorem dL_law_1874 : decode cL_law 1874 = .ok (.iconst 0, 1) := by decide +kernel
theorem dL_law_1875 : decode cL_law 1875 = .ok (.ireturn, 1) := by decide +kernel
theorem dL_law_1876 : decode cL_law 1876 = .ok (.iload 5, 2) := by decide +kernel
theorem dL_law_1878 : decode cL_law 1878 = .ok (.ifCond .ne 15, 3) := by decide +kernel
theorem dL_law_1881 : decode cL_law 1881 = .ok (.aload_n 3, 1) := by decide +kernel
theorem dL_law_1882 : decode cL_law 1882 = .ok (.iconst 0, 1) := by decide +kernel
theorem dL_law_1883 : decode cL_law 1883 = .ok (.laload, 1) := by decide +kernel
theorem dL_law_1884 : decode cL_law 1884 = .ok (.iload 6, 2) := by decide +kernel
theorem dL_law_1886 : decode cL_law 1886 = .ok (.i2l, 1) := by decide +kernel
theorem dL_law_1887 : decode cL_law 1887 = .ok (.lcmp, 1) := by decide +kernel
theorem dL_law_1888 : decode cL_law 1888 = .ok (.ifCond .eq 5, 3) := by decide +kernel
theorem dL_law_1891 : decode cL_law 1891 = .ok (.iconst 0, 1) := by decide +kernel
theorem dL_law_1892 : decode cL_law 1892 = .ok (.ireturn, 1) := by decide +kernel
theorem dL_law_1893 : decode cL_law 1893 = .ok (.goto 3, 3) := by decide +kernel
theorem dL_law_1896 : decode cL_law 1896 = .ok (.iinc 4 8, 3) := by decide +kernel
theorem dL_law_1899 : decode cL_law 1899 = .ok (.goto (-1876), 3) := by decide +kernel
theorem dL_law_19 : decode cL_law 19 = .ok (.astore_n 3, 1) := by decide +kernel
theorem dL_law_1902 : decode cL_law 1902 = .ok (.iconst 1, 1) := by decide +kernel
theorem dL_law_1903 : decode cL_law 1903 = .ok (.ireturn, 1) := by decide +kernel
theorem dL_law_20 : decode cL_law 20 = .ok (.iconst 0, 1) := by decide +kernel
theorem dL_law_21 : decode cL_law 21 = .ok (.istore 4, 2) := by decide +kernel
theorem dL_law_220 : decode cL_law 220 = .ok (.aload_n 1, 1) := by decide +kernel
theorem dL_law_221 : decode cL_law 221 = .ok (.aload_n 0, 1) := by decide +kernel
theorem dL_law_222 : decode cL_law 222 = .ok (.iload 4, 2) := by decide +kernel
theorem dL_law_224 : decode cL_law 224 = .ok (.iconst 1, 1) := by decide +kernel
theorem dL_law_225 : decode cL_law 225 = .ok (.iadd, 1) := by decide +kernel
theorem dL_law_226 : decode cL_law 226 = .ok (.iaload, 1) := by decide +kernel
theorem dL_law_227 : decode cL_law 227 = .ok (.aload_n 0, 1) := by decide +kernel
theorem dL_law_228 : decode cL_law 228 = .ok (.iload 4, 2) := by decide +kernel
theorem dL_law_23 : decode cL_law 23 = .ok (.iload 4, 2) := by decide +kernel
theorem dL_law_230 : decode cL_law 230 = .ok (.iconst 2, 1) := by decide +kernel
theorem dL_law_231 : decode cL_law 231 = .ok (.iadd, 1) := by decide +kernel
theorem dL_law_232 : decode cL_law 232 = .ok (.iaload, 1) := by decide +kernel
theorem dL_law_233 : decode cL_law 233 = .ok (.aload_n 0, 1) := by decide +kernel
theorem dL_law_234 : decode cL_law 234 = .ok (.iload 4, 2) := by decide +kernel
theorem dL_law_236 : decode cL_law 236 = .ok (.iconst 3, 1) := by decide +kernel
theorem dL_law_237 : decode cL_law 237 = .ok (.iadd, 1) := by decide +kernel
theorem dL_law_238 : decode cL_law 238 = .ok (.iaload, 1) := by decide +kernel
theorem dL_law_239 : decode cL_law 239 = .ok (.aload_n 0, 1) := by decide +kernel
theorem dL_law_240 : decode cL_law 240 = .ok (.iload 4, 2) := by decide +kernel
theorem dL_law_242 : decode cL_law 242 = .ok (.iconst 4, 1) := by decide +kernel
theorem dL_law_243 : decode cL_law 243 = .ok (.iadd, 1) := by decide +kernel
theorem dL_law_244 : decode cL_law 244 = .ok (.iaload, 1) := by decide +kernel
theorem dL_law_245 : decode cL_law 245 = .ok (.aload_n 0, 1) := by decide +kernel
theorem dL_law_246 : decode cL_law 246 = .ok (.iload 4, 2) := by decide +kernel
theorem dL_law_248 : decode cL_law 248 = .ok (.iconst 5, 1) := by decide +kernel
theorem dL_law_249 : decode cL_law 249 = .ok (.iadd, 1) := by decide +kernel
theorem dL_law_25 : decode cL_law 25 = .ok (.aload_n 0, 1) := by decide +kernel
theorem dL_law_250 : decode cL_law 250 = .ok (.iaload, 1) := by decide +kernel
theorem dL_law_251 : decode cL_law 251 = .ok (.aload_n 0, 1) := by decide +kernel
theorem dL_law_252 : decode cL_law 252 = .ok (.iload 4, 2) := by decide +kernel
theorem dL_law_254 : decode cL_law 254 = .ok (.bipush 6, 2) := by decide +kernel
theorem dL_law_256 : decode cL_law 256 = .ok (.iadd, 1) := by decide +kernel
theorem dL_law_257 : decode cL_law 257 = .ok (.iaload, 1) := by decide +kernel
theorem dL_law_258 : decode cL_law 258 = .ok (.aload_n 0, 1) := by decide +kernel
theorem dL_law_259 : decode cL_law 259 = .ok (.iload 4, 2) := by decide +kernel
theorem dL_law_26 : decode cL_law 26 = .ok (.arraylength, 1) := by decide +kernel
theorem dL_law_261 : decode cL_law 261 = .ok (.bipush 7, 2) := by decide +kernel
theorem dL_law_263 : decode cL_law 263 = .ok (.iadd, 1) := by decide +kernel
theorem dL_law_264 : decode cL_law 264 = .ok (.iaload, 1) := by decide +kernel
theorem dL_law_265 : decode cL_law 265 = .ok (.invokevirtual 27, 3) := by decide +kernel
theorem dL_law_268 : decode cL_law 268 = .ok (.aload_n 2, 1) := by decide +kernel
theorem dL_law_269 : decode cL_law 269 = .ok (.aload_n 0, 1) := by decide +kernel
theorem dL_law_27 : decode cL_law 27 = .ok (.bipush 8, 2) := by decide +kernel
theorem dL_law_270 : decode cL_law 270 = .ok (.iload 4, 2) := by decide +kernel
theorem dL_law_272 : decode cL_law 272 = .ok (.iconst 1, 1) := by decide +kernel
theorem dL_law_273 : decode cL_law 273 = .ok (.iadd, 1) := by decide +kernel
theorem dL_law_274 : decode cL_law 274 = .ok (.iaload, 1) := by decide +kernel
theorem dL_law_275 : decode cL_law 275 = .ok (.aload_n 0, 1) := by decide +kernel
theorem dL_law_276 : decode cL_law 276 = .ok (.iload 4, 2) := by decide +kernel
theorem dL_law_278 : decode cL_law 278 = .ok (.iconst 2, 1) := by decide +kernel
theorem dL_law_279 : decode cL_law 279 = .ok (.iadd, 1) := by decide +kernel
theorem dL_law_280 : decode cL_law 280 = .ok (.iaload, 1) := by decide +kernel
theorem dL_law_281 : decode cL_law 281 = .ok (.aload_n 0, 1) := by decide +kernel
theorem dL_law_282 : decode cL_law 282 = .ok (.iload 4, 2) := by decide +kernel
theorem dL_law_284 : decode cL_law 284 = .ok (.iconst 3, 1) := by decide +kernel
theorem dL_law_285 : decode cL_law 285 = .ok (.iadd, 1) := by decide +kernel
theorem dL_law_286 : decode cL_law 286 = .ok (.iaload, 1) := by decide +kernel
theorem dL_law_287 : decode cL_law 287 = .ok (.aload_n 0, 1) := by decide +kernel
theorem dL_law_288 : decode cL_law 288 = .ok (.iload 4, 2) := by decide +kernel
theorem dL_law_29 : decode cL_law 29 = .ok (.isub, 1) := by decide +kernel
theorem dL_law_290 : decode cL_law 290 = .ok (.iconst 4, 1) := by decide +kernel
theorem dL_law_291 : decode cL_law 291 = .ok (.iadd, 1) := by decide +kernel
theorem dL_law_292 : decode cL_law 292 = .ok (.iaload, 1) := by decide +kernel
theorem dL_law_293 : decode cL_law 293 = .ok (.aload_n 0, 1) := by decide +kernel
theorem dL_law_294 : decode cL_law 294 = .ok (.iload 4, 2) := by decide +kernel
theorem dL_law_296 : decode cL_law 296 = .ok (.iconst 5, 1) := by decide +kernel
theorem dL_law_297 : decode cL_law 297 = .ok (.iadd, 1) := by decide +kernel
theorem dL_law_298 : decode cL_law 298 = .ok (.iaload, 1) := by decide +kernel
theorem dL_law_299 : decode cL_law 299 = .ok (.aload_n 0, 1) := by decide +kernel
theorem dL_law_3 : decode cL_law 3 = .ok (.dup, 1) := by decide +kernel
theorem dL_law_30 : decode cL_law 30 = .ok (.if_icmp .gt 1872, 3) := by decide +kernel
theorem dL_law_300 : decode cL_law 300 = .ok (.iload 4, 2) := by decide +kernel
theorem dL_law_302 : decode cL_law 302 = .ok (.bipush 6, 2) := by decide +kernel
theorem dL_law_304 : decode cL_law 304 = .ok (.iadd, 1) := by decide +kernel
theorem dL_law_305 : decode cL_law 305 = .ok (.iaload, 1) := by decide +kernel
theorem dL_law_306 : decode cL_law 306 = .ok (.aload_n 0, 1) := by decide +kernel
theorem dL_law_307 : decode cL_law 307 = .ok (.iload 4, 2) := by decide +kernel
theorem dL_law_309 : decode cL_law 309 = .ok (.bipush 7, 2) := by decide +kernel
theorem dL_law_311 : decode cL_law 311 = .ok (.iadd, 1) := by decide +kernel
theorem dL_law_312 : decode cL_law 312 = .ok (.iaload, 1) := by decide +kernel
theorem dL_law_313 : decode cL_law 313 = .ok (.invokevirtual 31, 3) := by decide +kernel
theorem dL_law_316 : decode cL_law 316 = .ok (.if_icmp .eq 1580, 3) := by decide +kernel
theorem dL_law_319 : decode cL_law 319 = .ok (.iconst 0, 1) := by decide +kernel
theorem dL_law_320 : decode cL_law 320 = .ok (.ireturn, 1) := by decide +kernel
theorem dL_law_321 : decode cL_law 321 = .ok (.aload_n 1, 1) := by decide +kernel
theorem dL_law_322 : decode cL_law 322 = .ok (.aload_n 0, 1) := by decide +kernel
theorem dL_law_323 : decode cL_law 323 = .ok (.iload 4, 2) := by decide +kernel
theorem dL_law_325 : decode cL_law 325 = .ok (.iconst 1, 1) := by decide +kernel
theorem dL_law_326 : decode cL_law 326 = .ok (.iadd, 1) := by decide +kernel
theorem dL_law_327 : decode cL_law 327 = .ok (.iaload, 1) := by decide +kernel
theorem dL_law_328 : decode cL_law 328 = .ok (.aload_n 0, 1) := by decide +kernel
theorem dL_law_329 : decode cL_law 329 = .ok (.iload 4, 2) := by decide +kernel
theorem dL_law_33 : decode cL_law 33 = .ok (.aload_n 0, 1) := by decide +kernel
theorem dL_law_331 : decode cL_law 331 = .ok (.iconst 2, 1) := by decide +kernel
theorem dL_law_332 : decode cL_law 332 = .ok (.iadd, 1) := by decide +kernel
theorem dL_law_333 : decode cL_law 333 = .ok (.iaload, 1) := by decide +kernel
theorem dL_law_334 : decode cL_law 334 = .ok (.aload_n 0, 1) := by decide +kernel
theorem dL_law_335 : decode cL_law 335 = .ok (.iload 4, 2) := by decide +kernel
theorem dL_law_337 : decode cL_law 337 = .ok (.iconst 3, 1) := by decide +kernel
theorem dL_law_338 : decode cL_law 338 = .ok (.iadd, 1) := by decide +kernel
theorem dL_law_339 : decode cL_law 339 = .ok (.iaload, 1) := by decide +kernel
theorem dL_law_34 : decode cL_law 34 = .ok (.iload 4, 2) := by decide +kernel
theorem dL_law_340 : decode cL_law 340 = .ok (.invokevirtual 32, 3) := by decide +kernel
theorem dL_law_343 : decode cL_law 343 = .ok (.aload_n 2, 1) := by decide +kernel
theorem dL_law_344 : decode cL_law 344 = .ok (.aload_n 0, 1) := by decide +kernel
theorem dL_law_345 : decode cL_law 345 = .ok (.iload 4, 2) := by decide +kernel
theorem dL_law_347 : decode cL_law 347 = .ok (.iconst 1, 1) := by decide +kernel
theorem dL_law_348 : decode cL_law 348 = .ok (.iadd, 1) := by decide +kernel
theorem dL_law_349 : decode cL_law 349 = .ok (.iaload, 1) := by decide +kernel
theorem dL_law_350 : decode cL_law 350 = .ok (.aload_n 0, 1) := by decide +kernel
theorem dL_law_351 : decode cL_law 351 = .ok (.iload 4, 2) := by decide +kernel
theorem dL_law_353 : decode cL_law 353 = .ok (.iconst 2, 1) := by decide +kernel
theorem dL_law_354 : decode cL_law 354 = .ok (.iadd, 1) := by decide +kernel
theorem dL_law_355 : decode cL_law 355 = .ok (.iaload, 1) := by decide +kernel
theorem dL_law_356 : decode cL_law 356 = .ok (.aload_n 0, 1) := by decide +kernel
theorem dL_law_357 : decode cL_law 357 = .ok (.iload 4, 2) := by decide +kernel
theorem dL_law_359 : decode cL_law 359 = .ok (.iconst 3, 1) := by decide +kernel
theorem dL_law_36 : decode cL_law 36 = .ok (.iaload, 1) := by decide +kernel
theorem dL_law_360 : decode cL_law 360 = .ok (.iadd, 1) := by decide +kernel
theorem dL_law_361 : decode cL_law 361 = .ok (.iaload, 1) := by decide +kernel
theorem dL_law_362 : decode cL_law 362 = .ok (.invokevirtual 35, 3) := by decide +kernel
theorem dL_law_365 : decode cL_law 365 = .ok (.if_icmp .eq 1531, 3) := by decide +kernel
theorem dL_law_368 : decode cL_law 368 = .ok (.iconst 0, 1) := by decide +kernel
theorem dL_law_369 : decode cL_law 369 = .ok (.ireturn, 1) := by decide +kernel
theorem dL_law_37 : decode cL_law 37 = .ok (.bipush 63, 2) := by decide +kernel
theorem dL_law_370 : decode cL_law 370 = .ok (.aload_n 1, 1) := by decide +kernel
theorem dL_law_371 : decode cL_law 371 = .ok (.aload_n 0, 1) := by decide +kernel
theorem dL_law_372 : decode cL_law 372 = .ok (.iload 4, 2) := by decide +kernel
theorem dL_law_374 : decode cL_law 374 = .ok (.iconst 1, 1) := by decide +kernel
theorem dL_law_375 : decode cL_law 375 = .ok (.iadd, 1) := by decide +kernel
theorem dL_law_376 : decode cL_law 376 = .ok (.iaload, 1) := by decide +kernel
theorem dL_law_377 : decode cL_law 377 = .ok (.aload_n 0, 1) := by decide +kernel
theorem dL_law_378 : decode cL_law 378 = .ok (.iload 4, 2) := by decide +kernel
theorem dL_law_380 : decode cL_law 380 = .ok (.iconst 2, 1) := by decide +kernel
theorem dL_law_381 : decode cL_law 381 = .ok (.iadd, 1) := by decide +kernel
theorem dL_law_382 : decode cL_law 382 = .ok (.iaload, 1) := by decide +kernel
theorem dL_law_383 : decode cL_law 383 = .ok (.invokevirtual 36, 3) := by decide +kernel
theorem dL_law_386 : decode cL_law 386 = .ok (.aload_n 2, 1) := by decide +kernel
theorem dL_law_387 : decode cL_law 387 = .ok (.aload_n 0, 1) := by decide +kernel
theorem dL_law_388 : decode cL_law 388 = .ok (.iload 4, 2) := by decide +kernel
theorem dL_law_39 : decode cL_law 39 = .ok (.iand, 1) := by decide +kernel
theorem dL_law_390 : decode cL_law 390 = .ok (.iconst 1, 1) := by decide +kernel
theorem dL_law_391 : decode cL_law 391 = .ok (.iadd, 1) := by decide +kernel
theorem dL_law_392 : decode cL_law 392 = .ok (.iaload, 1) := by decide +kernel
theorem dL_law_393 : decode cL_law 393 = .ok (.aload_n 0, 1) := by decide +kernel
theorem dL_law_394 : decode cL_law 394 = .ok (.iload 4, 2) := by decide +kernel
theorem dL_law_396 : decode cL_law 396 = .ok (.iconst 2, 1) := by decide +kernel
theorem dL_law_397 : decode cL_law 397 = .ok (.iadd, 1) := by decide +kernel
theorem dL_law_398 : decode cL_law 398 = .ok (.iaload, 1) := by decide +kernel
theorem dL_law_399 : decode cL_law 399 = .ok (.invokevirtual 39, 3) := by decide +kernel
theorem dL_law_4 : decode cL_law 4 = .ok (.invokespecial 23, 3) := by decide +kernel
theorem dL_law_40 : decode cL_law 40 = .ok (.tableswitch 1856 0 40 #[180, 281, 330, 367, 404, 465, 552, 589, 662, 687, 724, 749, 774, 799, 836, 861, 898, 923, 948, 997, 1065, 1102, 1127, 1152, 1213, 1238, 1263, 1300, 1313, 1362, 1423, 1448, 1485, 1522, 1547, 1627, 1664, 1725, 1762, 1775, 1800], 180) := by decide +kernel
theorem dL_law_402 : decode cL_law 402 = .ok (.if_icmp .eq 1494, 3) := by decide +kernel
theorem dL_law_405 : decode cL_law 405 = .ok (.iconst 0, 1) := by decide +kernel
theorem dL_law_406 : decode cL_law 406 = .ok (.ireturn, 1) := by decide +kernel
theorem dL_law_407 : decode cL_law 407 = .ok (.aload_n 1, 1) := by decide +kernel
theorem dL_law_408 : decode cL_law 408 = .ok (.aload_n 0, 1) := by decide +kernel
theorem dL_law_409 : decode cL_law 409 = .ok (.iload 4, 2) := by decide +kernel
theorem dL_law_411 : decode cL_law 411 = .ok (.iconst 1, 1) := by decide +kernel
theorem dL_law_412 : decode cL_law 412 = .ok (.iadd, 1) := by decide +kernel
theorem dL_law_413 : decode cL_law 413 = .ok (.iaload, 1) := by decide +kernel
theorem dL_law_414 : decode cL_law 414 = .ok (.aload_n 0, 1) := by decide +kernel
theorem dL_law_415 : decode cL_law 415 = .ok (.iload 4, 2) := by decide +kernel
theorem dL_law_417 : decode cL_law 417 = .ok (.iconst 2, 1) := by decide +kernel
theorem dL_law_418 : decode cL_law 418 = .ok (.iadd, 1) := by decide +kernel
theorem dL_law_419 : decode cL_law 419 = .ok (.iaload, 1) := by decide +kernel
theorem dL_law_420 : decode cL_law 420 = .ok (.invokevirtual 40, 3) := by decide +kernel
theorem dL_law_423 : decode cL_law 423 = .ok (.aload_n 2, 1) := by decide +kernel
theorem dL_law_424 : decode cL_law 424 = .ok (.aload_n 0, 1) := by decide +kernel
theorem dL_law_425 : decode cL_law 425 = .ok (.iload 4, 2) := by decide +kernel
theorem dL_law_427 : decode cL_law 427 = .ok (.iconst 1, 1) := by decide +kernel
theorem dL_law_428 : decode cL_law 428 = .ok (.iadd, 1) := by decide +kernel
theorem dL_law_429 : decode cL_law 429 = .ok (.iaload, 1) := by decide +kernel
theorem dL_law_430 : decode cL_law 430 = .ok (.aload_n 0, 1) := by decide +kernel
theorem dL_law_431 : decode cL_law 431 = .ok (.iload 4, 2) := by decide +kernel
theorem dL_law_433 : decode cL_law 433 = .ok (.iconst 2, 1) := by decide +kernel
theorem dL_law_434 : decode cL_law 434 = .ok (.iadd, 1) := by decide +kernel
theorem dL_law_435 : decode cL_law 435 = .ok (.iaload, 1) := by decide +kernel
theorem dL_law_436 : decode cL_law 436 = .ok (.invokevirtual 43, 3) := by decide +kernel
theorem dL_law_439 : decode cL_law 439 = .ok (.if_icmp .eq 1457, 3) := by decide +kernel
theorem dL_law_442 : decode cL_law 442 = .ok (.iconst 0, 1) := by decide +kernel
theorem dL_law_443 : decode cL_law 443 = .ok (.ireturn, 1) := by decide +kernel
theorem dL_law_444 : decode cL_law 444 = .ok (.aload_n 1, 1) := by decide +kernel
theorem dL_law_445 : decode cL_law 445 = .ok (.aload_n 0, 1) := by decide +kernel
theorem dL_law_446 : decode cL_law 446 = .ok (.iload 4, 2) := by decide +kernel
theorem dL_law_448 : decode cL_law 448 = .ok (.iconst 1, 1) := by decide +kernel
theorem dL_law_449 : decode cL_law 449 = .ok (.iadd, 1) := by decide +kernel
theorem dL_law_450 : decode cL_law 450 = .ok (.iaload, 1) := by decide +kernel
theorem dL_law_451 : decode cL_law 451 = .ok (.aload_n 0, 1) := by decide +kernel
theorem dL_law_452 : decode cL_law 452 = .ok (.iload 4, 2) := by decide +kernel
theorem dL_law_454 : decode cL_law 454 = .ok (.iconst 2, 1) := by decide +kernel
theorem dL_law_455 : decode cL_law 455 = .ok (.iadd, 1) := by decide +kernel
theorem dL_law_456 : decode cL_law 456 = .ok (.iaload, 1) := by decide +kernel
theorem dL_law_457 : decode cL_law 457 = .ok (.aload_n 0, 1) := by decide +kernel
theorem dL_law_458 : decode cL_law 458 = .ok (.iload 4, 2) := by decide +kernel
theorem dL_law_460 : decode cL_law 460 = .ok (.iconst 3, 1) := by decide +kernel
theorem dL_law_461 : decode cL_law 461 = .ok (.iadd, 1) := by decide +kernel
theorem dL_law_462 : decode cL_law 462 = .ok (.iaload, 1) := by decide +kernel
theorem dL_law_463 : decode cL_law 463 = .ok (.aload_n 0, 1) := by decide +kernel
theorem dL_law_464 : decode cL_law 464 = .ok (.iload 4, 2) := by decide +kernel
theorem dL_law_466 : decode cL_law 466 = .ok (.iconst 4, 1) := by decide +kernel
theorem dL_law_467 : decode cL_law 467 = .ok (.iadd, 1) := by decide +kernel
theorem dL_law_468 : decode cL_law 468 = .ok (.iaload, 1) := by decide +kernel
theorem dL_law_469 : decode cL_law 469 = .ok (.invokevirtual 44, 3) := by decide +kernel
theorem dL_law_472 : decode cL_law 472 = .ok (.aload_n 2, 1) := by decide +kernel
theorem dL_law_473 : decode cL_law 473 = .ok (.aload_n 0, 1) := by decide +kernel
theorem dL_law_474 : decode cL_law 474 = .ok (.iload 4, 2) := by decide +kernel
theorem dL_law_476 : decode cL_law 476 = .ok (.iconst 1, 1) := by decide +kernel
theorem dL_law_477 : decode cL_law 477 = .ok (.iadd, 1) := by decide +kernel
theorem dL_law_478 : decode cL_law 478 = .ok (.iaload, 1) := by decide +kernel
theorem dL_law_479 : decode cL_law 479 = .ok (.aload_n 0, 1) := by decide +kernel
theorem dL_law_480 : decode cL_law 480 = .ok (.iload 4, 2) := by decide +kernel
theorem dL_law_482 : decode cL_law 482 = .ok (.iconst 2, 1) := by decide +kernel
theorem dL_law_483 : decode cL_law 483 = .ok (.iadd, 1) := by decide +kernel
theorem dL_law_484 : decode cL_law 484 = .ok (.iaload, 1) := by decide +kernel
theorem dL_law_485 : decode cL_law 485 = .ok (.aload_n 0, 1) := by decide +kernel
theorem dL_law_486 : decode cL_law 486 = .ok (.iload 4, 2) := by decide +kernel
theorem dL_law_488 : decode cL_law 488 = .ok (.iconst 3, 1) := by decide +kernel
theorem dL_law_489 : decode cL_law 489 = .ok (.iadd, 1) := by decide +kernel
theorem dL_law_490 : decode cL_law 490 = .ok (.iaload, 1) := by decide +kernel
theorem dL_law_491 : decode cL_law 491 = .ok (.aload_n 0, 1) := by decide +kernel
theorem dL_law_492 : decode cL_law 492 = .ok (.iload 4, 2) := by decide +kernel
theorem dL_law_494 : decode cL_law 494 = .ok (.iconst 4, 1) := by decide +kernel
theorem dL_law_495 : decode cL_law 495 = .ok (.iadd, 1) := by decide +kernel
theorem dL_law_496 : decode cL_law 496 = .ok (.iaload, 1) := by decide +kernel
theorem dL_law_497 : decode cL_law 497 = .ok (.invokevirtual 48, 3) := by decide +kernel
theorem dL_law_500 : decode cL_law 500 = .ok (.if_icmp .eq 1396, 3) := by decide +kernel
theorem dL_law_503 : decode cL_law 503 = .ok (.iconst 0, 1) := by decide +kernel
theorem dL_law_504 : decode cL_law 504 = .ok (.ireturn, 1) := by decide +kernel
theorem dL_law_505 : decode cL_law 505 = .ok (.aload_n 1, 1) := by decide +kernel
theorem dL_law_506 : decode cL_law 506 = .ok (.aload_n 0, 1) := by decide +kernel
theorem dL_law_507 : decode cL_law 507 = .ok (.iload 4, 2) := by decide +kernel
theorem dL_law_509 : decode cL_law 509 = .ok (.iconst 1, 1) := by decide +kernel
theorem dL_law_510 : decode cL_law 510 = .ok (.iadd, 1) := by decide +kernel
theorem dL_law_511 : decode cL_law 511 = .ok (.iaload, 1) := by decide +kernel
theorem dL_law_512 : decode cL_law 512 = .ok (.aload_n 0, 1) := by decide +kernel
theorem dL_law_513 : decode cL_law 513 = .ok (.iload 4, 2) := by decide +kernel
theorem dL_law_515 : decode cL_law 515 = .ok (.iconst 2, 1) := by decide +kernel
theorem dL_law_516 : decode cL_law 516 = .ok (.iadd, 1) := by decide +kernel
theorem dL_law_517 : decode cL_law 517 = .ok (.iaload, 1) := by decide +kernel
theorem dL_law_518 : decode cL_law 518 = .ok (.aload_n 0, 1) := by decide +kernel
theorem dL_law_519 : decode cL_law 519 = .ok (.iload 4, 2) := by decide +kernel
theorem dL_law_521 : decode cL_law 521 = .ok (.iconst 3, 1) := by decide +kernel
theorem dL_law_522 : decode cL_law 522 = .ok (.iadd, 1) := by decide +kernel
theorem dL_law_523 : decode cL_law 523 = .ok (.iaload, 1) := by decide +kernel
theorem dL_law_524 : decode cL_law 524 = .ok (.aload_n 0, 1) := by decide +kernel
theorem dL_law_525 : decode cL_law 525 = .ok (.iload 4, 2) := by decide +kernel
theorem dL_law_527 : decode cL_law 527 = .ok (.iconst 4, 1) := by decide +kernel
theorem dL_law_528 : decode cL_law 528 = .ok (.iadd, 1) := by decide +kernel
theorem dL_law_529 : decode cL_law 529 = .ok (.iaload, 1) := by decide +kernel
theorem dL_law_530 : decode cL_law 530 = .ok (.aload_n 0, 1) := by decide +kernel
theorem dL_law_531 : decode cL_law 531 = .ok (.iload 4, 2) := by decide +kernel
theorem dL_law_533 : decode cL_law 533 = .ok (.iconst 5, 1) := by decide +kernel
theorem dL_law_534 : decode cL_law 534 = .ok (.iadd, 1) := by decide +kernel
theorem dL_law_535 : decode cL_law 535 = .ok (.iaload, 1) := by decide +kernel
theorem dL_law_536 : decode cL_law 536 = .ok (.aload_n 0, 1) := by decide +kernel
theorem dL_law_537 : decode cL_law 537 = .ok (.iload 4, 2) := by decide +kernel
theorem dL_law_539 : decode cL_law 539 = .ok (.bipush 6, 2) := by decide +kernel
theorem dL_law_541 : decode cL_law 541 = .ok (.iadd, 1) := by decide +kernel
theorem dL_law_542 : decode cL_law 542 = .ok (.iaload, 1) := by decide +kernel
theorem dL_law_543 : decode cL_law 543 = .ok (.invokevirtual 49, 3) := by decide +kernel
theorem dL_law_546 : decode cL_law 546 = .ok (.aload_n 2, 1) := by decide +kernel
theorem dL_law_547 : decode cL_law 547 = .ok (.aload_n 0, 1) := by decide +kernel
theorem dL_law_548 : decode cL_law 548 = .ok (.iload 4, 2) := by decide +kernel
theorem dL_law_550 : decode cL_law 550 = .ok (.iconst 1, 1) := by decide +kernel
theorem dL_law_551 : decode cL_law 551 = .ok (.iadd, 1) := by decide +kernel
theorem dL_law_552 : decode cL_law 552 = .ok (.iaload, 1) := by decide +kernel
theorem dL_law_553 : decode cL_law 553 = .ok (.aload_n 0, 1) := by decide +kernel
theorem dL_law_554 : decode cL_law 554 = .ok (.iload 4, 2) := by decide +kernel
theorem dL_law_556 : decode cL_law 556 = .ok (.iconst 2, 1) := by decide +kernel
theorem dL_law_557 : decode cL_law 557 = .ok (.iadd, 1) := by decide +kernel
theorem dL_law_558 : decode cL_law 558 = .ok (.iaload, 1) := by decide +kernel
theorem dL_law_559 : decode cL_law 559 = .ok (.aload_n 0, 1) := by decide +kernel
theorem dL_law_560 : decode cL_law 560 = .ok (.iload 4, 2) := by decide +kernel
theorem dL_law_562 : decode cL_law 562 = .ok (.iconst 3, 1) := by decide +kernel
theorem dL_law_563 : decode cL_law 563 = .ok (.iadd, 1) := by decide +kernel
theorem dL_law_564 : decode cL_law 564 = .ok (.iaload, 1) := by decide +kernel
theorem dL_law_565 : decode cL_law 565 = .ok (.aload_n 0, 1) := by decide +kernel
theorem dL_law_566 : decode cL_law 566 = .ok (.iload 4, 2) := by decide +kernel
theorem dL_law_568 : decode cL_law 568 = .ok (.iconst 4, 1) := by decide +kernel
theorem dL_law_569 : decode cL_law 569 = .ok (.iadd, 1) := by decide +kernel
theorem dL_law_570 : decode cL_law 570 = .ok (.iaload, 1) := by decide +kernel
theorem dL_law_571 : decode cL_law 571 = .ok (.aload_n 0, 1) := by decide +kernel
theorem dL_law_572 : decode cL_law 572 = .ok (.iload 4, 2) := by decide +kernel
theorem dL_law_574 : decode cL_law 574 = .ok (.iconst 5, 1) := by decide +kernel
theorem dL_law_575 : decode cL_law 575 = .ok (.iadd, 1) := by decide +kernel
theorem dL_law_576 : decode cL_law 576 = .ok (.iaload, 1) := by decide +kernel
theorem dL_law_577 : decode cL_law 577 = .ok (.aload_n 0, 1) := by decide +kernel
theorem dL_law_578 : decode cL_law 578 = .ok (.iload 4, 2) := by decide +kernel
theorem dL_law_580 : decode cL_law 580 = .ok (.bipush 6, 2) := by decide +kernel
theorem dL_law_582 : decode cL_law 582 = .ok (.iadd, 1) := by decide +kernel
theorem dL_law_583 : decode cL_law 583 = .ok (.iaload, 1) := by decide +kernel
theorem dL_law_584 : decode cL_law 584 = .ok (.invokevirtual 53, 3) := by decide +kernel
theorem dL_law_587 : decode cL_law 587 = .ok (.if_icmp .eq 1309, 3) := by decide +kernel
theorem dL_law_590 : decode cL_law 590 = .ok (.iconst 0, 1) := by decide +kernel
theorem dL_law_591 : decode cL_law 591 = .ok (.ireturn, 1) := by decide +kernel
theorem dL_law_592 : decode cL_law 592 = .ok (.aload_n 1, 1) := by decide +kernel
theorem dL_law_593 : decode cL_law 593 = .ok (.aload_n 0, 1) := by decide +kernel
theorem dL_law_594 : decode cL_law 594 = .ok (.iload 4, 2) := by decide +kernel
theorem dL_law_596 : decode cL_law 596 = .ok (.iconst 1, 1) := by decide +kernel
theorem dL_law_597 : decode cL_law 597 = .ok (.iadd, 1) := by decide +kernel
theorem dL_law_598 : decode cL_law 598 = .ok (.iaload, 1) := by decide +kernel
theorem dL_law_599 : decode cL_law 599 = .ok (.aload_n 0, 1) := by decide +kernel
theorem dL_law_600 : decode cL_law 600 = .ok (.iload 4, 2) := by decide +kernel
theorem dL_law_602 : decode cL_law 602 = .ok (.iconst 2, 1) := by decide +kernel
theorem dL_law_603 : decode cL_law 603 = .ok (.iadd, 1) := by decide +kernel
theorem dL_law_604 : decode cL_law 604 = .ok (.iaload, 1) := by decide +kernel
theorem dL_law_605 : decode cL_law 605 = .ok (.invokevirtual 54, 3) := by decide +kernel
theorem dL_law_608 : decode cL_law 608 = .ok (.aload_n 2, 1) := by decide +kernel
theorem dL_law_609 : decode cL_law 609 = .ok (.aload_n 0, 1) := by decide +kernel
theorem dL_law_610 : decode cL_law 610 = .ok (.iload 4, 2) := by decide +kernel
theorem dL_law_612 : decode cL_law 612 = .ok (.iconst 1, 1) := by decide +kernel
theorem dL_law_613 : decode cL_law 613 = .ok (.iadd, 1) := by decide +kernel
theorem dL_law_614 : decode cL_law 614 = .ok (.iaload, 1) := by decide +kernel
theorem dL_law_615 : decode cL_law 615 = .ok (.aload_n 0, 1) := by decide +kernel
theorem dL_law_616 : decode cL_law 616 = .ok (.iload 4, 2) := by decide +kernel
theorem dL_law_618 : decode cL_law 618 = .ok (.iconst 2, 1) := by decide +kernel
theorem dL_law_619 : decode cL_law 619 = .ok (.iadd, 1) := by decide +kernel
theorem dL_law_620 : decode cL_law 620 = .ok (.iaload, 1) := by decide +kernel
theorem dL_law_621 : decode cL_law 621 = .ok (.invokevirtual 57, 3) := by decide +kernel
theorem dL_law_624 : decode cL_law 624 = .ok (.if_icmp .eq 1272, 3) := by decide +kernel
theorem dL_law_627 : decode cL_law 627 = .ok (.iconst 0, 1) := by decide +kernel
theorem dL_law_628 : decode cL_law 628 = .ok (.ireturn, 1) := by decide +kernel
theorem dL_law_629 : decode cL_law 629 = .ok (.aload_n 1, 1) := by decide +kernel
theorem dL_law_630 : decode cL_law 630 = .ok (.aload_n 0, 1) := by decide +kernel
theorem dL_law_631 : decode cL_law 631 = .ok (.iload 4, 2) := by decide +kernel
theorem dL_law_633 : decode cL_law 633 = .ok (.iconst 1, 1) := by decide +kernel
theorem dL_law_634 : decode cL_law 634 = .ok (.iadd, 1) := by decide +kernel
theorem dL_law_635 : decode cL_law 635 = .ok (.iaload, 1) := by decide +kernel
theorem dL_law_636 : decode cL_law 636 = .ok (.aload_n 0, 1) := by decide +kernel
theorem dL_law_637 : decode cL_law 637 = .ok (.iload 4, 2) := by decide +kernel
theorem dL_law_639 : decode cL_law 639 = .ok (.iconst 2, 1) := by decide +kernel
theorem dL_law_640 : decode cL_law 640 = .ok (.iadd, 1) := by decide +kernel
theorem dL_law_641 : decode cL_law 641 = .ok (.iaload, 1) := by decide +kernel
theorem dL_law_642 : decode cL_law 642 = .ok (.aload_n 0, 1) := by decide +kernel
theorem dL_law_643 : decode cL_law 643 = .ok (.iload 4, 2) := by decide +kernel
theorem dL_law_645 : decode cL_law 645 = .ok (.iconst 3, 1) := by decide +kernel
theorem dL_law_646 : decode cL_law 646 = .ok (.iadd, 1) := by decide +kernel
theorem dL_law_647 : decode cL_law 647 = .ok (.iaload, 1) := by decide +kernel
theorem dL_law_648 : decode cL_law 648 = .ok (.aload_n 0, 1) := by decide +kernel
theorem dL_law_649 : decode cL_law 649 = .ok (.iload 4, 2) := by decide +kernel
theorem dL_law_651 : decode cL_law 651 = .ok (.iconst 4, 1) := by decide +kernel
theorem dL_law_652 : decode cL_law 652 = .ok (.iadd, 1) := by decide +kernel
theorem dL_law_653 : decode cL_law 653 = .ok (.iaload, 1) := by decide +kernel
theorem dL_law_654 : decode cL_law 654 = .ok (.aload_n 0, 1) := by decide +kernel
theorem dL_law_655 : decode cL_law 655 = .ok (.iload 4, 2) := by decide +kernel
theorem dL_law_657 : decode cL_law 657 = .ok (.iconst 5, 1) := by decide +kernel
theorem dL_law_658 : decode cL_law 658 = .ok (.iadd, 1) := by decide +kernel
theorem dL_law_659 : decode cL_law 659 = .ok (.iaload, 1) := by decide +kernel
theorem dL_law_660 : decode cL_law 660 = .ok (.invokevirtual 58, 3) := by decide +kernel
theorem dL_law_663 : decode cL_law 663 = .ok (.aload_n 2, 1) := by decide +kernel
theorem dL_law_664 : decode cL_law 664 = .ok (.aload_n 0, 1) := by decide +kernel
theorem dL_law_665 : decode cL_law 665 = .ok (.iload 4, 2) := by decide +kernel
theorem dL_law_667 : decode cL_law 667 = .ok (.iconst 1, 1) := by decide +kernel
theorem dL_law_668 : decode cL_law 668 = .ok (.iadd, 1) := by decide +kernel
theorem dL_law_669 : decode cL_law 669 = .ok (.iaload, 1) := by decide +kernel
theorem dL_law_670 : decode cL_law 670 = .ok (.aload_n 0, 1) := by decide +kernel
theorem dL_law_671 : decode cL_law 671 = .ok (.iload 4, 2) := by decide +kernel
theorem dL_law_673 : decode cL_law 673 = .ok (.iconst 2, 1) := by decide +kernel
theorem dL_law_674 : decode cL_law 674 = .ok (.iadd, 1) := by decide +kernel
theorem dL_law_675 : decode cL_law 675 = .ok (.iaload, 1) := by decide +kernel
theorem dL_law_676 : decode cL_law 676 = .ok (.aload_n 0, 1) := by decide +kernel
theorem dL_law_677 : decode cL_law 677 = .ok (.iload 4, 2) := by decide +kernel
theorem dL_law_679 : decode cL_law 679 = .ok (.iconst 3, 1) := by decide +kernel
theorem dL_law_680 : decode cL_law 680 = .ok (.iadd, 1) := by decide +kernel
theorem dL_law_681 : decode cL_law 681 = .ok (.iaload, 1) := by decide +kernel
theorem dL_law_682 : decode cL_law 682 = .ok (.aload_n 0, 1) := by decide +kernel
theorem dL_law_683 : decode cL_law 683 = .ok (.iload 4, 2) := by decide +kernel
theorem dL_law_685 : decode cL_law 685 = .ok (.iconst 4, 1) := by decide +kernel
theorem dL_law_686 : decode cL_law 686 = .ok (.iadd, 1) := by decide +kernel
theorem dL_law_687 : decode cL_law 687 = .ok (.iaload, 1) := by decide +kernel
theorem dL_law_688 : decode cL_law 688 = .ok (.aload_n 0, 1) := by decide +kernel
theorem dL_law_689 : decode cL_law 689 = .ok (.iload 4, 2) := by decide +kernel
theorem dL_law_691 : decode cL_law 691 = .ok (.iconst 5, 1) := by decide +kernel
theorem dL_law_692 : decode cL_law 692 = .ok (.iadd, 1) := by decide +kernel
theorem dL_law_693 : decode cL_law 693 = .ok (.iaload, 1) := by decide +kernel
theorem dL_law_694 : decode cL_law 694 = .ok (.invokevirtual 62, 3) := by decide +kernel
theorem dL_law_697 : decode cL_law 697 = .ok (.if_icmp .eq 1199, 3) := by decide +kernel
theorem dL_law_7 : decode cL_law 7 = .ok (.astore_n 1, 1) := by decide +kernel
theorem dL_law_700 : decode cL_law 700 = .ok (.iconst 0, 1) := by decide +kernel
theorem dL_law_701 : decode cL_law 701 = .ok (.ireturn, 1) := by decide +kernel
theorem dL_law_702 : decode cL_law 702 = .ok (.aload_n 1, 1) := by decide +kernel
theorem dL_law_703 : decode cL_law 703 = .ok (.aload_n 0, 1) := by decide +kernel
theorem dL_law_704 : decode cL_law 704 = .ok (.iload 4, 2) := by decide +kernel
theorem dL_law_706 : decode cL_law 706 = .ok (.iconst 1, 1) := by decide +kernel
theorem dL_law_707 : decode cL_law 707 = .ok (.iadd, 1) := by decide +kernel
theorem dL_law_708 : decode cL_law 708 = .ok (.iaload, 1) := by decide +kernel
theorem dL_law_709 : decode cL_law 709 = .ok (.invokevirtual 63, 3) := by decide +kernel
theorem dL_law_712 : decode cL_law 712 = .ok (.aload_n 2, 1) := by decide +kernel
theorem dL_law_713 : decode cL_law 713 = .ok (.aload_n 0, 1) := by decide +kernel
theorem dL_law_714 : decode cL_law 714 = .ok (.iload 4, 2) := by decide +kernel
theorem dL_law_716 : decode cL_law 716 = .ok (.iconst 1, 1) := by decide +kernel
theorem dL_law_717 : decode cL_law 717 = .ok (.iadd, 1) := by decide +kernel
theorem dL_law_718 : decode cL_law 718 = .ok (.iaload, 1) := by decide +kernel
theorem dL_law_719 : decode cL_law 719 = .ok (.invokevirtual 66, 3) := by decide +kernel
theorem dL_law_722 : decode cL_law 722 = .ok (.if_icmp .eq 1174, 3) := by decide +kernel
theorem dL_law_725 : decode cL_law 725 = .ok (.iconst 0, 1) := by decide +kernel
theorem dL_law_726 : decode cL_law 726 = .ok (.ireturn, 1) := by decide +kernel
theorem dL_law_727 : decode cL_law 727 = .ok (.aload_n 1, 1) := by decide +kernel
theorem dL_law_728 : decode cL_law 728 = .ok (.aload_n 0, 1) := by decide +kernel
theorem dL_law_729 : decode cL_law 729 = .ok (.iload 4, 2) := by decide +kernel
theorem dL_law_731 : decode cL_law 731 = .ok (.iconst 1, 1) := by decide +kernel
theorem dL_law_732 : decode cL_law 732 = .ok (.iadd, 1) := by decide +kernel
theorem dL_law_733 : decode cL_law 733 = .ok (.iaload, 1) := by decide +kernel
theorem dL_law_734 : decode cL_law 734 = .ok (.aload_n 0, 1) := by decide +kernel
theorem dL_law_735 : decode cL_law 735 = .ok (.iload 4, 2) := by decide +kernel
theorem dL_law_737 : decode cL_law 737 = .ok (.iconst 2, 1) := by decide +kernel
theorem dL_law_738 : decode cL_law 738 = .ok (.iadd, 1) := by decide +kernel
theorem dL_law_739 : decode cL_law 739 = .ok (.iaload, 1) := by decide +kernel
theorem dL_law_740 : decode cL_law 740 = .ok (.invokevirtual 67, 3) := by decide +kernel
theorem dL_law_743 : decode cL_law 743 = .ok (.aload_n 2, 1) := by decide +kernel
theorem dL_law_744 : decode cL_law 744 = .ok (.aload_n 0, 1) := by decide +kernel
theorem dL_law_745 : decode cL_law 745 = .ok (.iload 4, 2) := by decide +kernel
theorem dL_law_747 : decode cL_law 747 = .ok (.iconst 1, 1) := by decide +kernel
theorem dL_law_748 : decode cL_law 748 = .ok (.iadd, 1) := by decide +kernel
theorem dL_law_749 : decode cL_law 749 = .ok (.iaload, 1) := by decide +kernel
theorem dL_law_750 : decode cL_law 750 = .ok (.aload_n 0, 1) := by decide +kernel
theorem dL_law_751 : decode cL_law 751 = .ok (.iload 4, 2) := by decide +kernel
theorem dL_law_753 : decode cL_law 753 = .ok (.iconst 2, 1) := by decide +kernel
theorem dL_law_754 : decode cL_law 754 = .ok (.iadd, 1) := by decide +kernel
theorem dL_law_755 : decode cL_law 755 = .ok (.iaload, 1) := by decide +kernel
theorem dL_law_756 : decode cL_law 756 = .ok (.invokevirtual 70, 3) := by decide +kernel
theorem dL_law_759 : decode cL_law 759 = .ok (.if_icmp .eq 1137, 3) := by decide +kernel
theorem dL_law_762 : decode cL_law 762 = .ok (.iconst 0, 1) := by decide +kernel
theorem dL_law_763 : decode cL_law 763 = .ok (.ireturn, 1) := by decide +kernel
theorem dL_law_764 : decode cL_law 764 = .ok (.aload_n 1, 1) := by decide +kernel
theorem dL_law_765 : decode cL_law 765 = .ok (.aload_n 0, 1) := by decide +kernel
theorem dL_law_766 : decode cL_law 766 = .ok (.iload 4, 2) := by decide +kernel
theorem dL_law_768 : decode cL_law 768 = .ok (.iconst 1, 1) := by decide +kernel
theorem dL_law_769 : decode cL_law 769 = .ok (.iadd, 1) := by decide +kernel
theorem dL_law_770 : decode cL_law 770 = .ok (.iaload, 1) := by decide +kernel
theorem dL_law_771 : decode cL_law 771 = .ok (.invokevirtual 71, 3) := by decide +kernel
theorem dL_law_774 : decode cL_law 774 = .ok (.aload_n 2, 1) := by decide +kernel
theorem dL_law_775 : decode cL_law 775 = .ok (.aload_n 0, 1) := by decide +kernel
theorem dL_law_776 : decode cL_law 776 = .ok (.iload 4, 2) := by decide +kernel
theorem dL_law_778 : decode cL_law 778 = .ok (.iconst 1, 1) := by decide +kernel
theorem dL_law_779 : decode cL_law 779 = .ok (.iadd, 1) := by decide +kernel
theorem dL_law_780 : decode cL_law 780 = .ok (.iaload, 1) := by decide +kernel
theorem dL_law_781 : decode cL_law 781 = .ok (.invokevirtual 74, 3) := by decide +kernel
theorem dL_law_784 : decode cL_law 784 = .ok (.if_icmp .eq 1112, 3) := by decide +kernel
theorem dL_law_787 : decode cL_law 787 = .ok (.iconst 0, 1) := by decide +kernel
theorem dL_law_788 : decode cL_law 788 = .ok (.ireturn, 1) := by decide +kernel
theorem dL_law_789 : decode cL_law 789 = .ok (.aload_n 1, 1) := by decide +kernel
theorem dL_law_790 : decode cL_law 790 = .ok (.aload_n 0, 1) := by decide +kernel
theorem dL_law_791 : decode cL_law 791 = .ok (.iload 4, 2) := by decide +kernel
theorem dL_law_793 : decode cL_law 793 = .ok (.iconst 1, 1) := by decide +kernel
theorem dL_law_794 : decode cL_law 794 = .ok (.iadd, 1) := by decide +kernel
theorem dL_law_795 : decode cL_law 795 = .ok (.iaload, 1) := by decide +kernel
theorem dL_law_796 : decode cL_law 796 = .ok (.invokevirtual 75, 3) := by decide +kernel
theorem dL_law_799 : decode cL_law 799 = .ok (.aload_n 2, 1) := by decide +kernel
theorem dL_law_8 : decode cL_law 8 = .ok (.new 24, 3) := by decide +kernel
theorem dL_law_800 : decode cL_law 800 = .ok (.aload_n 0, 1) := by decide +kernel
theorem dL_law_801 : decode cL_law 801 = .ok (.iload 4, 2) := by decide +kernel
theorem dL_law_803 : decode cL_law 803 = .ok (.iconst 1, 1) := by decide +kernel
theorem dL_law_804 : decode cL_law 804 = .ok (.iadd, 1) := by decide +kernel
theorem dL_law_805 : decode cL_law 805 = .ok (.iaload, 1) := by decide +kernel
theorem dL_law_806 : decode cL_law 806 = .ok (.invokevirtual 78, 3) := by decide +kernel
theorem dL_law_809 : decode cL_law 809 = .ok (.if_icmp .eq 1087, 3) := by decide +kernel
theorem dL_law_812 : decode cL_law 812 = .ok (.iconst 0, 1) := by decide +kernel
theorem dL_law_813 : decode cL_law 813 = .ok (.ireturn, 1) := by decide +kernel
theorem dL_law_814 : decode cL_law 814 = .ok (.aload_n 1, 1) := by decide +kernel
theorem dL_law_815 : decode cL_law 815 = .ok (.aload_n 0, 1) := by decide +kernel
theorem dL_law_816 : decode cL_law 816 = .ok (.iload 4, 2) := by decide +kernel
theorem dL_law_818 : decode cL_law 818 = .ok (.iconst 1, 1) := by decide +kernel
theorem dL_law_819 : decode cL_law 819 = .ok (.iadd, 1) := by decide +kernel
theorem dL_law_820 : decode cL_law 820 = .ok (.iaload, 1) := by decide +kernel
theorem dL_law_821 : decode cL_law 821 = .ok (.invokevirtual 79, 3) := by decide +kernel
theorem dL_law_824 : decode cL_law 824 = .ok (.aload_n 2, 1) := by decide +kernel
theorem dL_law_825 : decode cL_law 825 = .ok (.aload_n 0, 1) := by decide +kernel
theorem dL_law_826 : decode cL_law 826 = .ok (.iload 4, 2) := by decide +kernel
theorem dL_law_828 : decode cL_law 828 = .ok (.iconst 1, 1) := by decide +kernel
theorem dL_law_829 : decode cL_law 829 = .ok (.iadd, 1) := by decide +kernel
theorem dL_law_830 : decode cL_law 830 = .ok (.iaload, 1) := by decide +kernel
theorem dL_law_831 : decode cL_law 831 = .ok (.invokevirtual 83, 3) := by decide +kernel
theorem dL_law_834 : decode cL_law 834 = .ok (.if_icmp .eq 1062, 3) := by decide +kernel
theorem dL_law_837 : decode cL_law 837 = .ok (.iconst 0, 1) := by decide +kernel
theorem dL_law_838 : decode cL_law 838 = .ok (.ireturn, 1) := by decide +kernel
theorem dL_law_839 : decode cL_law 839 = .ok (.aload_n 1, 1) := by decide +kernel
theorem dL_law_840 : decode cL_law 840 = .ok (.aload_n 0, 1) := by decide +kernel
theorem dL_law_841 : decode cL_law 841 = .ok (.iload 4, 2) := by decide +kernel
theorem dL_law_843 : decode cL_law 843 = .ok (.iconst 1, 1) := by decide +kernel
theorem dL_law_844 : decode cL_law 844 = .ok (.iadd, 1) := by decide +kernel
theorem dL_law_845 : decode cL_law 845 = .ok (.iaload, 1) := by decide +kernel
theorem dL_law_846 : decode cL_law 846 = .ok (.aload_n 0, 1) := by decide +kernel
theorem dL_law_847 : decode cL_law 847 = .ok (.iload 4, 2) := by decide +kernel
theorem dL_law_849 : decode cL_law 849 = .ok (.iconst 2, 1) := by decide +kernel
theorem dL_law_850 : decode cL_law 850 = .ok (.iadd, 1) := by decide +kernel
theorem dL_law_851 : decode cL_law 851 = .ok (.iaload, 1) := by decide +kernel
theorem dL_law_852 : decode cL_law 852 = .ok (.invokevirtual 84, 3) := by decide +kernel
theorem dL_law_855 : decode cL_law 855 = .ok (.aload_n 2, 1) := by decide +kernel
theorem dL_law_856 : decode cL_law 856 = .ok (.aload_n 0, 1) := by decide +kernel
theorem dL_law_857 : decode cL_law 857 = .ok (.iload 4, 2) := by decide +kernel
theorem dL_law_859 : decode cL_law 859 = .ok (.iconst 1, 1) := by decide +kernel
theorem dL_law_860 : decode cL_law 860 = .ok (.iadd, 1) := by decide +kernel
theorem dL_law_861 : decode cL_law 861 = .ok (.iaload, 1) := by decide +kernel
theorem dL_law_862 : decode cL_law 862 = .ok (.aload_n 0, 1) := by decide +kernel
theorem dL_law_863 : decode cL_law 863 = .ok (.iload 4, 2) := by decide +kernel
theorem dL_law_865 : decode cL_law 865 = .ok (.iconst 2, 1) := by decide +kernel
theorem dL_law_866 : decode cL_law 866 = .ok (.iadd, 1) := by decide +kernel
theorem dL_law_867 : decode cL_law 867 = .ok (.iaload, 1) := by decide +kernel
theorem dL_law_868 : decode cL_law 868 = .ok (.invokevirtual 87, 3) := by decide +kernel
theorem dL_law_871 : decode cL_law 871 = .ok (.if_icmp .eq 1025, 3) := by decide +kernel
theorem dL_law_874 : decode cL_law 874 = .ok (.iconst 0, 1) := by decide +kernel
theorem dL_law_875 : decode cL_law 875 = .ok (.ireturn, 1) := by decide +kernel
theorem dL_law_876 : decode cL_law 876 = .ok (.aload_n 1, 1) := by decide +kernel
theorem dL_law_877 : decode cL_law 877 = .ok (.aload_n 0, 1) := by decide +kernel
theorem dL_law_878 : decode cL_law 878 = .ok (.iload 4, 2) := by decide +kernel
theorem dL_law_880 : decode cL_law 880 = .ok (.iconst 1, 1) := by decide +kernel
theorem dL_law_881 : decode cL_law 881 = .ok (.iadd, 1) := by decide +kernel
theorem dL_law_882 : decode cL_law 882 = .ok (.iaload, 1) := by decide +kernel
theorem dL_law_883 : decode cL_law 883 = .ok (.invokevirtual 88, 3) := by decide +kernel
theorem dL_law_886 : decode cL_law 886 = .ok (.aload_n 2, 1) := by decide +kernel
theorem dL_law_887 : decode cL_law 887 = .ok (.aload_n 0, 1) := by decide +kernel
theorem dL_law_888 : decode cL_law 888 = .ok (.iload 4, 2) := by decide +kernel
theorem dL_law_890 : decode cL_law 890 = .ok (.iconst 1, 1) := by decide +kernel
theorem dL_law_891 : decode cL_law 891 = .ok (.iadd, 1) := by decide +kernel
theorem dL_law_892 : decode cL_law 892 = .ok (.iaload, 1) := by decide +kernel
theorem dL_law_893 : decode cL_law 893 = .ok (.invokevirtual 91, 3) := by decide +kernel
theorem dL_law_896 : decode cL_law 896 = .ok (.if_icmp .eq 1000, 3) := by decide +kernel
theorem dL_law_899 : decode cL_law 899 = .ok (.iconst 0, 1) := by decide +kernel
theorem dL_law_900 : decode cL_law 900 = .ok (.ireturn, 1) := by decide +kernel
theorem dL_law_901 : decode cL_law 901 = .ok (.aload_n 1, 1) := by decide +kernel
theorem dL_law_902 : decode cL_law 902 = .ok (.aload_n 0, 1) := by decide +kernel
theorem dL_law_903 : decode cL_law 903 = .ok (.iload 4, 2) := by decide +kernel
theorem dL_law_905 : decode cL_law 905 = .ok (.iconst 1, 1) := by decide +kernel
theorem dL_law_906 : decode cL_law 906 = .ok (.iadd, 1) := by decide +kernel
theorem dL_law_907 : decode cL_law 907 = .ok (.iaload, 1) := by decide +kernel
theorem dL_law_908 : decode cL_law 908 = .ok (.aload_n 0, 1) := by decide +kernel
theorem dL_law_909 : decode cL_law 909 = .ok (.iload 4, 2) := by decide +kernel
theorem dL_law_911 : decode cL_law 911 = .ok (.iconst 2, 1) := by decide +kernel
theorem dL_law_912 : decode cL_law 912 = .ok (.iadd, 1) := by decide +kernel
theorem dL_law_913 : decode cL_law 913 = .ok (.iaload, 1) := by decide +kernel
theorem dL_law_914 : decode cL_law 914 = .ok (.invokevirtual 92, 3) := by decide +kernel
theorem dL_law_917 : decode cL_law 917 = .ok (.aload_n 2, 1) := by decide +kernel
theorem dL_law_918 : decode cL_law 918 = .ok (.aload_n 0, 1) := by decide +kernel
theorem dL_law_919 : decode cL_law 919 = .ok (.iload 4, 2) := by decide +kernel
theorem dL_law_921 : decode cL_law 921 = .ok (.iconst 1, 1) := by decide +kernel
theorem dL_law_922 : decode cL_law 922 = .ok (.iadd, 1) := by decide +kernel
theorem dL_law_923 : decode cL_law 923 = .ok (.iaload, 1) := by decide +kernel
theorem dL_law_924 : decode cL_law 924 = .ok (.aload_n 0, 1) := by decide +kernel
theorem dL_law_925 : decode cL_law 925 = .ok (.iload 4, 2) := by decide +kernel
theorem dL_law_927 : decode cL_law 927 = .ok (.iconst 2, 1) := by decide +kernel
theorem dL_law_928 : decode cL_law 928 = .ok (.iadd, 1) := by decide +kernel
theorem dL_law_929 : decode cL_law 929 = .ok (.iaload, 1) := by decide +kernel
theorem dL_law_930 : decode cL_law 930 = .ok (.invokevirtual 95, 3) := by decide +kernel
theorem dL_law_933 : decode cL_law 933 = .ok (.if_icmp .eq 963, 3) := by decide +kernel
theorem dL_law_936 : decode cL_law 936 = .ok (.iconst 0, 1) := by decide +kernel
theorem dL_law_937 : decode cL_law 937 = .ok (.ireturn, 1) := by decide +kernel
theorem dL_law_938 : decode cL_law 938 = .ok (.aload_n 1, 1) := by decide +kernel
theorem dL_law_939 : decode cL_law 939 = .ok (.aload_n 0, 1) := by decide +kernel
theorem dL_law_940 : decode cL_law 940 = .ok (.iload 4, 2) := by decide +kernel
theorem dL_law_942 : decode cL_law 942 = .ok (.iconst 1, 1) := by decide +kernel
theorem dL_law_943 : decode cL_law 943 = .ok (.iadd, 1) := by decide +kernel
theorem dL_law_944 : decode cL_law 944 = .ok (.iaload, 1) := by decide +kernel
theorem dL_law_945 : decode cL_law 945 = .ok (.invokevirtual 96, 3) := by decide +kernel
theorem dL_law_948 : decode cL_law 948 = .ok (.aload_n 2, 1) := by decide +kernel
theorem dL_law_949 : decode cL_law 949 = .ok (.aload_n 0, 1) := by decide +kernel
theorem dL_law_950 : decode cL_law 950 = .ok (.iload 4, 2) := by decide +kernel
theorem dL_law_952 : decode cL_law 952 = .ok (.iconst 1, 1) := by decide +kernel
theorem dL_law_953 : decode cL_law 953 = .ok (.iadd, 1) := by decide +kernel
theorem dL_law_954 : decode cL_law 954 = .ok (.iaload, 1) := by decide +kernel
theorem dL_law_955 : decode cL_law 955 = .ok (.invokevirtual 99, 3) := by decide +kernel
theorem dL_law_958 : decode cL_law 958 = .ok (.if_icmp .eq 938, 3) := by decide +kernel
theorem dL_law_961 : decode cL_law 961 = .ok (.iconst 0, 1) := by decide +kernel
theorem dL_law_962 : decode cL_law 962 = .ok (.ireturn, 1) := by decide +kernel
theorem dL_law_963 : decode cL_law 963 = .ok (.aload_n 1, 1) := by decide +kernel
theorem dL_law_964 : decode cL_law 964 = .ok (.aload_n 0, 1) := by decide +kernel
theorem dL_law_965 : decode cL_law 965 = .ok (.iload 4, 2) := by decide +kernel
theorem dL_law_967 : decode cL_law 967 = .ok (.iconst 1, 1) := by decide +kernel
theorem dL_law_968 : decode cL_law 968 = .ok (.iadd, 1) := by decide +kernel
theorem dL_law_969 : decode cL_law 969 = .ok (.iaload, 1) := by decide +kernel
theorem dL_law_970 : decode cL_law 970 = .ok (.invokevirtual 100, 3) := by decide +kernel
theorem dL_law_973 : decode cL_law 973 = .ok (.aload_n 2, 1) := by decide +kernel
theorem dL_law_974 : decode cL_law 974 = .ok (.aload_n 0, 1) := by decide +kernel
theorem dL_law_975 : decode cL_law 975 = .ok (.iload 4, 2) := by decide +kernel
theorem dL_law_977 : decode cL_law 977 = .ok (.iconst 1, 1) := by decide +kernel
theorem dL_law_978 : decode cL_law 978 = .ok (.iadd, 1) := by decide +kernel
theorem dL_law_979 : decode cL_law 979 = .ok (.iaload, 1) := by decide +kernel
theorem dL_law_980 : decode cL_law 980 = .ok (.invokevirtual 103, 3) := by decide +kernel
theorem dL_law_983 : decode cL_law 983 = .ok (.if_icmp .eq 913, 3) := by decide +kernel
theorem dL_law_986 : decode cL_law 986 = .ok (.iconst 0, 1) := by decide +kernel
theorem dL_law_987 : decode cL_law 987 = .ok (.ireturn, 1) := by decide +kernel
theorem dL_law_988 : decode cL_law 988 = .ok (.aload_n 1, 1) := by decide +kernel
theorem dL_law_989 : decode cL_law 989 = .ok (.aload_n 0, 1) := by decide +kernel
theorem dL_law_990 : decode cL_law 990 = .ok (.iload 4, 2) := by decide +kernel
theorem dL_law_992 : decode cL_law 992 = .ok (.iconst 1, 1) := by decide +kernel
theorem dL_law_993 : decode cL_law 993 = .ok (.iadd, 1) := by decide +kernel
theorem dL_law_994 : decode cL_law 994 = .ok (.iaload, 1) := by decide +kernel
theorem dL_law_995 : decode cL_law 995 = .ok (.aload_n 0, 1) := by decide +kernel
theorem dL_law_996 : decode cL_law 996 = .ok (.iload 4, 2) := by decide +kernel
theorem dL_law_998 : decode cL_law 998 = .ok (.iconst 2, 1) := by decide +kernel
theorem dL_law_999 : decode cL_law 999 = .ok (.iadd, 1) := by decide +kernel
theorem dL_row_0 : decode cL_row 0 = .ok (.aload_n 2, 1) := by decide +kernel
theorem dL_row_1 : decode cL_row 1 = .ok (.iconst 0, 1) := by decide +kernel
theorem dL_row_12 : decode cL_row 12 = .ok (.astore_n 3, 1) := by decide +kernel
theorem dL_row_13 : decode cL_row 13 = .ok (.iconst 1, 1) := by decide +kernel
theorem dL_row_14 : decode cL_row 14 = .ok (.ireturn, 1) := by decide +kernel
theorem dL_row_15 : decode cL_row 15 = .ok (.iconst 0, 1) := by decide +kernel
theorem dL_row_16 : decode cL_row 16 = .ok (.ireturn, 1) := by decide +kernel
theorem dL_row_2 : decode cL_row 2 = .ok (.aload_n 0, 1) := by decide +kernel
theorem dL_row_3 : decode cL_row 3 = .ok (.iload_n 1, 1) := by decide +kernel
theorem dL_row_4 : decode cL_row 4 = .ok (.invokevirtual 19, 3) := by decide +kernel
theorem dL_row_7 : decode cL_row 7 = .ok (.i2l, 1) := by decide +kernel
theorem dL_row_8 : decode cL_row 8 = .ok (.lastore, 1) := by decide +kernel
theorem dL_row_9 : decode cL_row 9 = .ok (.goto 6, 3) := by decide +kernel
theorem dL_split_0 : decode cL_split 0 = .ok (.aload_n 3, 1) := by decide +kernel
theorem dL_split_1 : decode cL_split 1 = .ok (.iconst 0, 1) := by decide +kernel
theorem dL_split_10 : decode cL_split 10 = .ok (.goto 7, 3) := by decide +kernel
theorem dL_split_13 : decode cL_split 13 = .ok (.astore 4, 2) := by decide +kernel
theorem dL_split_15 : decode cL_split 15 = .ok (.iconst 1, 1) := by decide +kernel
theorem dL_split_16 : decode cL_split 16 = .ok (.ireturn, 1) := by decide +kernel
theorem dL_split_17 : decode cL_split 17 = .ok (.iconst 0, 1) := by decide +kernel
theorem dL_split_18 : decode cL_split 18 = .ok (.ireturn, 1) := by decide +kernel
theorem dL_split_2 : decode cL_split 2 = .ok (.aload_n 0, 1) := by decide +kernel
theorem dL_split_3 : decode cL_split 3 = .ok (.iload_n 1, 1) := by decide +kernel
theorem dL_split_4 : decode cL_split 4 = .ok (.iload_n 2, 1) := by decide +kernel
theorem dL_split_5 : decode cL_split 5 = .ok (.invokevirtual 7, 3) := by decide +kernel
theorem dL_split_8 : decode cL_split 8 = .ok (.i2l, 1) := by decide +kernel
theorem dL_split_9 : decode cL_split 9 = .ok (.lastore, 1) := by decide +kernel
theorem dL_wish_0 : decode cL_wish 0 = .ok (.aload 4, 2) := by decide +kernel
theorem dL_wish_10 : decode cL_wish 10 = .ok (.i2l, 1) := by decide +kernel
theorem dL_wish_11 : decode cL_wish 11 = .ok (.lastore, 1) := by decide +kernel
theorem dL_wish_12 : decode cL_wish 12 = .ok (.goto 7, 3) := by decide +kernel
theorem dL_wish_15 : decode cL_wish 15 = .ok (.astore 5, 2) := by decide +kernel
theorem dL_wish_17 : decode cL_wish 17 = .ok (.iconst 1, 1) := by decide +kernel
theorem dL_wish_18 : decode cL_wish 18 = .ok (.ireturn, 1) := by decide +kernel
theorem dL_wish_19 : decode cL_wish 19 = .ok (.iconst 0, 1) := by decide +kernel
theorem dL_wish_2 : decode cL_wish 2 = .ok (.iconst 0, 1) := by decide +kernel
theorem dL_wish_20 : decode cL_wish 20 = .ok (.ireturn, 1) := by decide +kernel
theorem dL_wish_3 : decode cL_wish 3 = .ok (.aload_n 0, 1) := by decide +kernel
theorem dL_wish_4 : decode cL_wish 4 = .ok (.iload_n 1, 1) := by decide +kernel
theorem dL_wish_5 : decode cL_wish 5 = .ok (.iload_n 2, 1) := by decide +kernel
theorem dL_wish_6 : decode cL_wish 6 = .ok (.iload_n 3, 1) := by decide +kernel
theorem dL_wish_7 : decode cL_wish 7 = .ok (.invokevirtual 15, 3) := by decide +kernel
theorem dX0_add_0 : decode cX0_add 0 = .ok (.aload_n 0, 1) := by decide +kernel
theorem dX0_add_1 : decode cX0_add 1 = .ok (.getfield 38, 3) := by decide +kernel
theorem dX0_add_10 : decode cX0_add 10 = .ok (.ireturn, 1) := by decide +kernel
theorem dX0_add_11 : decode cX0_add 11 = .ok (.aload_n 0, 1) := by decide +kernel
theorem dX0_add_12 : decode cX0_add 12 = .ok (.getfield 9, 3) := by decide +kernel
theorem dX0_add_15 : decode cX0_add 15 = .ok (.aload_n 0, 1) := by decide +kernel
theorem dX0_add_16 : decode cX0_add 16 = .ok (.getfield 38, 3) := by decide +kernel
theorem dX0_add_19 : decode cX0_add 19 = .ok (.iload_n 1, 1) := by decide +kernel
theorem dX0_add_20 : decode cX0_add 20 = .ok (.iastore, 1) := by decide +kernel
theorem dX0_add_21 : decode cX0_add 21 = .ok (.aload_n 0, 1) := by decide +kernel
theorem dX0_add_22 : decode cX0_add 22 = .ok (.getfield 15, 3) := by decide +kernel
theorem dX0_add_25 : decode cX0_add 25 = .ok (.aload_n 0, 1) := by decide +kernel
theorem dX0_add_26 : decode cX0_add 26 = .ok (.getfield 38, 3) := by decide +kernel
theorem dX0_add_29 : decode cX0_add 29 = .ok (.iload_n 2, 1) := by decide +kernel
theorem dX0_add_30 : decode cX0_add 30 = .ok (.iastore, 1) := by decide +kernel
theorem dX0_add_31 : decode cX0_add 31 = .ok (.aload_n 0, 1) := by decide +kernel
theorem dX0_add_32 : decode cX0_add 32 = .ok (.getfield 18, 3) := by decide +kernel
theorem dX0_add_35 : decode cX0_add 35 = .ok (.aload_n 0, 1) := by decide +kernel
theorem dX0_add_36 : decode cX0_add 36 = .ok (.getfield 38, 3) := by decide +kernel
theorem dX0_add_39 : decode cX0_add 39 = .ok (.iload_n 3, 1) := by decide +kernel
theorem dX0_add_4 : decode cX0_add 4 = .ok (.bipush 24, 2) := by decide +kernel
theorem dX0_add_40 : decode cX0_add 40 = .ok (.iastore, 1) := by decide +kernel
theorem dX0_add_41 : decode cX0_add 41 = .ok (.aload_n 0, 1) := by decide +kernel
theorem dX0_add_42 : decode cX0_add 42 = .ok (.getfield 21, 3) := by decide +kernel
theorem dX0_add_45 : decode cX0_add 45 = .ok (.aload_n 0, 1) := by decide +kernel
theorem dX0_add_46 : decode cX0_add 46 = .ok (.getfield 38, 3) := by decide +kernel
theorem dX0_add_49 : decode cX0_add 49 = .ok (.iload 4, 2) := by decide +kernel
theorem dX0_add_51 : decode cX0_add 51 = .ok (.iastore, 1) := by decide +kernel
theorem dX0_add_52 : decode cX0_add 52 = .ok (.aload_n 0, 1) := by decide +kernel
theorem dX0_add_53 : decode cX0_add 53 = .ok (.getfield 24, 3) := by decide +kernel
theorem dX0_add_56 : decode cX0_add 56 = .ok (.aload_n 0, 1) := by decide +kernel
theorem dX0_add_57 : decode cX0_add 57 = .ok (.getfield 38, 3) := by decide +kernel
theorem dX0_add_6 : decode cX0_add 6 = .ok (.if_icmp .lt 5, 3) := by decide +kernel
theorem dX0_add_60 : decode cX0_add 60 = .ok (.iconst (-1), 1) := by decide +kernel
theorem dX0_add_61 : decode cX0_add 61 = .ok (.iastore, 1) := by decide +kernel
theorem dX0_add_62 : decode cX0_add 62 = .ok (.aload_n 0, 1) := by decide +kernel
theorem dX0_add_63 : decode cX0_add 63 = .ok (.getfield 27, 3) := by decide +kernel
theorem dX0_add_66 : decode cX0_add 66 = .ok (.aload_n 0, 1) := by decide +kernel
theorem dX0_add_67 : decode cX0_add 67 = .ok (.getfield 38, 3) := by decide +kernel
theorem dX0_add_70 : decode cX0_add 70 = .ok (.iconst (-1), 1) := by decide +kernel
theorem dX0_add_71 : decode cX0_add 71 = .ok (.iastore, 1) := by decide +kernel
theorem dX0_add_72 : decode cX0_add 72 = .ok (.aload_n 0, 1) := by decide +kernel
theorem dX0_add_73 : decode cX0_add 73 = .ok (.dup, 1) := by decide +kernel
theorem dX0_add_74 : decode cX0_add 74 = .ok (.getfield 38, 3) := by decide +kernel
theorem dX0_add_77 : decode cX0_add 77 = .ok (.dup_x1, 1) := by decide +kernel
theorem dX0_add_78 : decode cX0_add 78 = .ok (.iconst 1, 1) := by decide +kernel
theorem dX0_add_79 : decode cX0_add 79 = .ok (.iadd, 1) := by decide +kernel
theorem dX0_add_80 : decode cX0_add 80 = .ok (.putfield 38, 3) := by decide +kernel
theorem dX0_add_83 : decode cX0_add 83 = .ok (.ireturn, 1) := by decide +kernel
theorem dX0_add_9 : decode cX0_add 9 = .ok (.iconst (-1), 1) := by decide +kernel
theorem dX0_everOf_0 : decode cX0_everOf 0 = .ok (.iconst 0, 1) := by decide +kernel
theorem dX0_everOf_1 : decode cX0_everOf 1 = .ok (.istore_n 2, 1) := by decide +kernel
theorem dX0_everOf_12 : decode cX0_everOf 12 = .ok (.iload_n 2, 1) := by decide +kernel
theorem dX0_everOf_13 : decode cX0_everOf 13 = .ok (.aload_n 0, 1) := by decide +kernel
theorem dX0_everOf_14 : decode cX0_everOf 14 = .ok (.getfield 35, 3) := by decide +kernel
theorem dX0_everOf_17 : decode cX0_everOf 17 = .ok (.iload_n 3, 1) := by decide +kernel
theorem dX0_everOf_18 : decode cX0_everOf 18 = .ok (.aaload, 1) := by decide +kernel
theorem dX0_everOf_19 : decode cX0_everOf 19 = .ok (.iload_n 1, 1) := by decide +kernel
theorem dX0_everOf_2 : decode cX0_everOf 2 = .ok (.iconst 0, 1) := by decide +kernel
theorem dX0_everOf_20 : decode cX0_everOf 20 = .ok (.iaload, 1) := by decide +kernel
theorem dX0_everOf_21 : decode cX0_everOf 21 = .ok (.iadd, 1) := by decide +kernel
theorem dX0_everOf_22 : decode cX0_everOf 22 = .ok (.istore_n 2, 1) := by decide +kernel
theorem dX0_everOf_23 : decode cX0_everOf 23 = .ok (.iinc 3 1, 3) := by decide +kernel
theorem dX0_everOf_26 : decode cX0_everOf 26 = .ok (.goto (-22), 3) := by decide +kernel
theorem dX0_everOf_29 : decode cX0_everOf 29 = .ok (.iload_n 2, 1) := by decide +kernel
theorem dX0_everOf_3 : decode cX0_everOf 3 = .ok (.istore_n 3, 1) := by decide +kernel
theorem dX0_everOf_30 : decode cX0_everOf 30 = .ok (.ireturn, 1) := by decide +kernel
theorem dX0_everOf_4 : decode cX0_everOf 4 = .ok (.iload_n 3, 1) := by decide +kernel
theorem dX0_everOf_5 : decode cX0_everOf 5 = .ok (.aload_n 0, 1) := by decide +kernel
theorem dX0_everOf_6 : decode cX0_everOf 6 = .ok (.getfield 38, 3) := by decide +kernel
theorem dX0_everOf_9 : decode cX0_everOf 9 = .ok (.if_icmp .ge 20, 3) := by decide +kernel
theorem dX0_has_0 : decode cX0_has 0 = .ok (.iload_n 1, 1) := by decide +kernel
theorem dX0_has_1 : decode cX0_has 1 = .ok (.ifCond .lt 15, 3) := by decide +kernel
theorem dX0_has_12 : decode cX0_has 12 = .ok (.iconst 1, 1) := by decide +kernel
theorem dX0_has_13 : decode cX0_has 13 = .ok (.goto 4, 3) := by decide +kernel
theorem dX0_has_16 : decode cX0_has 16 = .ok (.iconst 0, 1) := by decide +kernel
theorem dX0_has_17 : decode cX0_has 17 = .ok (.ireturn, 1) := by decide +kernel
theorem dX0_has_4 : decode cX0_has 4 = .ok (.iload_n 1, 1) := by decide +kernel
theorem dX0_has_5 : decode cX0_has 5 = .ok (.aload_n 0, 1) := by decide +kernel
theorem dX0_has_6 : decode cX0_has 6 = .ok (.getfield 38, 3) := by decide +kernel
theorem dX0_has_9 : decode cX0_has 9 = .ok (.if_icmp .ge 7, 3) := by decide +kernel
theorem dX0_init_0 : decode cX0_init 0 = .ok (.aload_n 0, 1) := by decide +kernel
theorem dX0_init_1 : decode cX0_init 1 = .ok (.invokespecial 3, 3) := by decide +kernel
theorem dX0_init_12 : decode cX0_init 12 = .ok (.aload_n 0, 1) := by decide +kernel
theorem dX0_init_13 : decode cX0_init 13 = .ok (.bipush 24, 2) := by decide +kernel
theorem dX0_init_15 : decode cX0_init 15 = .ok (.newarray .int, 2) := by decide +kernel
theorem dX0_init_17 : decode cX0_init 17 = .ok (.putfield 15, 3) := by decide +kernel
theorem dX0_init_20 : decode cX0_init 20 = .ok (.aload_n 0, 1) := by decide +kernel
theorem dX0_init_21 : decode cX0_init 21 = .ok (.bipush 24, 2) := by decide +kernel
theorem dX0_init_23 : decode cX0_init 23 = .ok (.newarray .int, 2) := by decide +kernel
theorem dX0_init_25 : decode cX0_init 25 = .ok (.putfield 18, 3) := by decide +kernel
theorem dX0_init_28 : decode cX0_init 28 = .ok (.aload_n 0, 1) := by decide +kernel
theorem dX0_init_29 : decode cX0_init 29 = .ok (.bipush 24, 2) := by decide +kernel
theorem dX0_init_31 : decode cX0_init 31 = .ok (.newarray .int, 2) := by decide +kernel
theorem dX0_init_33 : decode cX0_init 33 = .ok (.putfield 21, 3) := by decide +kernel
theorem dX0_init_36 : decode cX0_init 36 = .ok (.aload_n 0, 1) := by decide +kernel
theorem dX0_init_37 : decode cX0_init 37 = .ok (.bipush 24, 2) := by decide +kernel
theorem dX0_init_39 : decode cX0_init 39 = .ok (.newarray .int, 2) := by decide +kernel
theorem dX0_init_4 : decode cX0_init 4 = .ok (.aload_n 0, 1) := by decide +kernel
theorem dX0_init_41 : decode cX0_init 41 = .ok (.putfield 24, 3) := by decide +kernel
theorem dX0_init_44 : decode cX0_init 44 = .ok (.aload_n 0, 1) := by decide +kernel
theorem dX0_init_45 : decode cX0_init 45 = .ok (.bipush 24, 2) := by decide +kernel
theorem dX0_init_47 : decode cX0_init 47 = .ok (.newarray .int, 2) := by decide +kernel
theorem dX0_init_49 : decode cX0_init 49 = .ok (.putfield 27, 3) := by decide +kernel
theorem dX0_init_5 : decode cX0_init 5 = .ok (.bipush 24, 2) := by decide +kernel
theorem dX0_init_52 : decode cX0_init 52 = .ok (.aload_n 0, 1) := by decide +kernel
theorem dX0_init_53 : decode cX0_init 53 = .ok (.bipush 24, 2) := by decide +kernel
theorem dX0_init_55 : decode cX0_init 55 = .ok (.newarray .int, 2) := by decide +kernel
theorem dX0_init_57 : decode cX0_init 57 = .ok (.putfield 30, 3) := by decide +kernel
theorem dX0_init_60 : decode cX0_init 60 = .ok (.aload_n 0, 1) := by decide +kernel
theorem dX0_init_61 : decode cX0_init 61 = .ok (.bipush 24, 2) := by decide +kernel
theorem dX0_init_63 : decode cX0_init 63 = .ok (.bipush 16, 2) := by decide +kernel
theorem dX0_init_65 : decode cX0_init 65 = .ok (.multianewarray 33 2, 4) := by decide +kernel
theorem dX0_init_69 : decode cX0_init 69 = .ok (.putfield 35, 3) := by decide +kernel
theorem dX0_init_7 : decode cX0_init 7 = .ok (.newarray .int, 2) := by decide +kernel
theorem dX0_init_72 : decode cX0_init 72 = .ok (.aload_n 0, 1) := by decide +kernel
theorem dX0_init_73 : decode cX0_init 73 = .ok (.iconst 0, 1) := by decide +kernel
theorem dX0_init_74 : decode cX0_init 74 = .ok (.putfield 38, 3) := by decide +kernel
theorem dX0_init_77 : decode cX0_init 77 = .ok (.return_, 1) := by decide +kernel
theorem dX0_init_9 : decode cX0_init 9 = .ok (.putfield 9, 3) := by decide +kernel
theorem dX0_isSorted_0 : decode cX0_isSorted 0 = .ok (.aload_n 0, 1) := by decide +kernel
theorem dX0_isSorted_1 : decode cX0_isSorted 1 = .ok (.iload_n 1, 1) := by decide +kernel
theorem dX0_isSorted_12 : decode cX0_isSorted 12 = .ok (.iload_n 1, 1) := by decide +kernel
theorem dX0_isSorted_13 : decode cX0_isSorted 13 = .ok (.iaload, 1) := by decide +kernel
theorem dX0_isSorted_14 : decode cX0_isSorted 14 = .ok (.iconst (-1), 1) := by decide +kernel
theorem dX0_isSorted_15 : decode cX0_isSorted 15 = .ok (.if_icmp .eq 7, 3) := by decide +kernel
theorem dX0_isSorted_18 : decode cX0_isSorted 18 = .ok (.iconst 1, 1) := by decide +kernel
theorem dX0_isSorted_19 : decode cX0_isSorted 19 = .ok (.goto 4, 3) := by decide +kernel
theorem dX0_isSorted_2 : decode cX0_isSorted 2 = .ok (.invokevirtual 42, 3) := by decide +kernel
theorem dX0_isSorted_22 : decode cX0_isSorted 22 = .ok (.iconst 0, 1) := by decide +kernel
theorem dX0_isSorted_23 : decode cX0_isSorted 23 = .ok (.ireturn, 1) := by decide +kernel
theorem dX0_isSorted_5 : decode cX0_isSorted 5 = .ok (.ifCond .eq 17, 3) := by decide +kernel
theorem dX0_isSorted_8 : decode cX0_isSorted 8 = .ok (.aload_n 0, 1) := by decide +kernel
theorem dX0_isSorted_9 : decode cX0_isSorted 9 = .ok (.getfield 24, 3) := by decide +kernel
theorem dX10_addRecipe_0 : decode cX10_addRecipe 0 = .ok (.aload_n 0, 1) := by decide +kernel
theorem dX10_addRecipe_1 : decode cX10_addRecipe 1 = .ok (.getfield 32, 3) := by decide +kernel
theorem dX10_addRecipe_10 : decode cX10_addRecipe 10 = .ok (.ireturn, 1) := by decide +kernel
theorem dX10_addRecipe_11 : decode cX10_addRecipe 11 = .ok (.aload_n 0, 1) := by decide +kernel
theorem dX10_addRecipe_12 : decode cX10_addRecipe 12 = .ok (.iconst 4, 1) := by decide +kernel
theorem dX10_addRecipe_13 : decode cX10_addRecipe 13 = .ok (.aload_n 0, 1) := by decide +kernel
theorem dX10_addRecipe_14 : decode cX10_addRecipe 14 = .ok (.getfield 32, 3) := by decide +kernel
theorem dX10_addRecipe_17 : decode cX10_addRecipe 17 = .ok (.iadd, 1) := by decide +kernel
theorem dX10_addRecipe_18 : decode cX10_addRecipe 18 = .ok (.aload_n 1, 1) := by decide +kernel
theorem dX10_addRecipe_19 : decode cX10_addRecipe 19 = .ok (.iload_n 2, 1) := by decide +kernel
theorem dX10_addRecipe_20 : decode cX10_addRecipe 20 = .ok (.invokevirtual 51, 3) := by decide +kernel
theorem dX10_addRecipe_23 : decode cX10_addRecipe 23 = .ok (.aload_n 0, 1) := by decide +kernel
theorem dX10_addRecipe_24 : decode cX10_addRecipe 24 = .ok (.dup, 1) := by decide +kernel
theorem dX10_addRecipe_25 : decode cX10_addRecipe 25 = .ok (.getfield 32, 3) := by decide +kernel
theorem dX10_addRecipe_28 : decode cX10_addRecipe 28 = .ok (.dup_x1, 1) := by decide +kernel
theorem dX10_addRecipe_29 : decode cX10_addRecipe 29 = .ok (.iconst 1, 1) := by decide +kernel
theorem dX10_addRecipe_30 : decode cX10_addRecipe 30 = .ok (.iadd, 1) := by decide +kernel
theorem dX10_addRecipe_31 : decode cX10_addRecipe 31 = .ok (.putfield 32, 3) := by decide +kernel
theorem dX10_addRecipe_34 : decode cX10_addRecipe 34 = .ok (.ireturn, 1) := by decide +kernel
theorem dX10_addRecipe_4 : decode cX10_addRecipe 4 = .ok (.bipush 6, 2) := by decide +kernel
theorem dX10_addRecipe_6 : decode cX10_addRecipe 6 = .ok (.if_icmp .lt 5, 3) := by decide +kernel
theorem dX10_addRecipe_9 : decode cX10_addRecipe 9 = .ok (.iconst (-1), 1) := by decide +kernel
theorem dX10_clearLetters_0 : decode cX10_clearLetters 0 = .ok (.aload_n 0, 1) := by decide +kernel
theorem dX10_clearLetters_1 : decode cX10_clearLetters 1 = .ok (.getfield 22, 3) := by decide +kernel
theorem dX10_clearLetters_4 : decode cX10_clearLetters 4 = .ok (.iconst 0, 1) := by decide +kernel
theorem dX10_clearLetters_5 : decode cX10_clearLetters 5 = .ok (.invokestatic 55, 3) := by decide +kernel
theorem dX10_clearLetters_8 : decode cX10_clearLetters 8 = .ok (.return_, 1) := by decide +kernel
theorem dX10_firstBroken_0 : decode cX10_firstBroken 0 = .ok (.aload_n 0, 1) := by decide +kernel
theorem dX10_firstBroken_1 : decode cX10_firstBroken 1 = .ok (.iload_n 1, 1) := by decide +kernel
theorem dX10_firstBroken_10 : decode cX10_firstBroken 10 = .ok (.aload_n 0, 1) := by decide +kernel
theorem dX10_firstBroken_11 : decode cX10_firstBroken 11 = .ok (.getfield 15, 3) := by decide +kernel
theorem dX10_firstBroken_14 : decode cX10_firstBroken 14 = .ok (.iconst 4, 1) := by decide +kernel
theorem dX10_firstBroken_15 : decode cX10_firstBroken 15 = .ok (.iload_n 1, 1) := by decide +kernel
theorem dX10_firstBroken_16 : decode cX10_firstBroken 16 = .ok (.iadd, 1) := by decide +kernel
theorem dX10_firstBroken_17 : decode cX10_firstBroken 17 = .ok (.aaload, 1) := by decide +kernel
theorem dX10_firstBroken_18 : decode cX10_firstBroken 18 = .ok (.astore_n 2, 1) := by decide +kernel
theorem dX10_firstBroken_19 : decode cX10_firstBroken 19 = .ok (.iconst 0, 1) := by decide +kernel
theorem dX10_firstBroken_2 : decode cX10_firstBroken 2 = .ok (.invokevirtual 69, 3) := by decide +kernel
theorem dX10_firstBroken_20 : decode cX10_firstBroken 20 = .ok (.istore_n 3, 1) := by decide +kernel
theorem dX10_firstBroken_21 : decode cX10_firstBroken 21 = .ok (.aload_n 0, 1) := by decide +kernel
theorem dX10_firstBroken_22 : decode cX10_firstBroken 22 = .ok (.iconst 0, 1) := by decide +kernel
theorem dX10_firstBroken_23 : decode cX10_firstBroken 23 = .ok (.putfield 28, 3) := by decide +kernel
theorem dX10_firstBroken_26 : decode cX10_firstBroken 26 = .ok (.iconst 0, 1) := by decide +kernel
theorem dX10_firstBroken_27 : decode cX10_firstBroken 27 = .ok (.istore 4, 2) := by decide +kernel
theorem dX10_firstBroken_29 : decode cX10_firstBroken 29 = .ok (.iload 4, 2) := by decide +kernel
theorem dX10_firstBroken_31 : decode cX10_firstBroken 31 = .ok (.aload_n 0, 1) := by decide +kernel
theorem dX10_firstBroken_32 : decode cX10_firstBroken 32 = .ok (.getfield 18, 3) := by decide +kernel
theorem dX10_firstBroken_35 : decode cX10_firstBroken 35 = .ok (.iconst 4, 1) := by decide +kernel
theorem dX10_firstBroken_36 : decode cX10_firstBroken 36 = .ok (.iload_n 1, 1) := by decide +kernel
theorem dX10_firstBroken_37 : decode cX10_firstBroken 37 = .ok (.iadd, 1) := by decide +kernel
theorem dX10_firstBroken_38 : decode cX10_firstBroken 38 = .ok (.iaload, 1) := by decide +kernel
theorem dX10_firstBroken_39 : decode cX10_firstBroken 39 = .ok (.if_icmp .ge 41, 3) := by decide +kernel
theorem dX10_firstBroken_42 : decode cX10_firstBroken 42 = .ok (.aload_n 2, 1) := by decide +kernel
theorem dX10_firstBroken_43 : decode cX10_firstBroken 43 = .ok (.iload 4, 2) := by decide +kernel
theorem dX10_firstBroken_45 : decode cX10_firstBroken 45 = .ok (.iaload, 1) := by decide +kernel
theorem dX10_firstBroken_46 : decode cX10_firstBroken 46 = .ok (.bipush (-59), 2) := by decide +kernel
theorem dX10_firstBroken_48 : decode cX10_firstBroken 48 = .ok (.if_icmp .eq 14, 3) := by decide +kernel
theorem dX10_firstBroken_5 : decode cX10_firstBroken 5 = .ok (.ifCond .ne 5, 3) := by decide +kernel
theorem dX10_firstBroken_51 : decode cX10_firstBroken 51 = .ok (.aload_n 0, 1) := by decide +kernel
theorem dX10_firstBroken_52 : decode cX10_firstBroken 52 = .ok (.aload_n 2, 1) := by decide +kernel
theorem dX10_firstBroken_53 : decode cX10_firstBroken 53 = .ok (.iload 4, 2) := by decide +kernel
theorem dX10_firstBroken_55 : decode cX10_firstBroken 55 = .ok (.iaload, 1) := by decide +kernel
theorem dX10_firstBroken_56 : decode cX10_firstBroken 56 = .ok (.invokevirtual 61, 3) := by decide +kernel
theorem dX10_firstBroken_59 : decode cX10_firstBroken 59 = .ok (.goto 15, 3) := by decide +kernel
theorem dX10_firstBroken_62 : decode cX10_firstBroken 62 = .ok (.aload_n 0, 1) := by decide +kernel
theorem dX10_firstBroken_63 : decode cX10_firstBroken 63 = .ok (.invokevirtual 65, 3) := by decide +kernel
theorem dX10_firstBroken_66 : decode cX10_firstBroken 66 = .ok (.ifCond .ne 5, 3) := by decide +kernel
theorem dX10_firstBroken_69 : decode cX10_firstBroken 69 = .ok (.iload_n 3, 1) := by decide +kernel
theorem dX10_firstBroken_70 : decode cX10_firstBroken 70 = .ok (.ireturn, 1) := by decide +kernel
theorem dX10_firstBroken_71 : decode cX10_firstBroken 71 = .ok (.iinc 3 1, 3) := by decide +kernel
theorem dX10_firstBroken_74 : decode cX10_firstBroken 74 = .ok (.iinc 4 1, 3) := by decide +kernel
theorem dX10_firstBroken_77 : decode cX10_firstBroken 77 = .ok (.goto (-48), 3) := by decide +kernel
theorem dX10_firstBroken_8 : decode cX10_firstBroken 8 = .ok (.iconst (-1), 1) := by decide +kernel
theorem dX10_firstBroken_80 : decode cX10_firstBroken 80 = .ok (.bipush (-2), 2) := by decide +kernel
theorem dX10_firstBroken_82 : decode cX10_firstBroken 82 = .ok (.ireturn, 1) := by decide +kernel
theorem dX10_firstBroken_9 : decode cX10_firstBroken 9 = .ok (.ireturn, 1) := by decide +kernel
theorem dX10_hasRecipe_0 : decode cX10_hasRecipe 0 = .ok (.iload_n 1, 1) := by decide +kernel
theorem dX10_hasRecipe_1 : decode cX10_hasRecipe 1 = .ok (.ifCond .lt 15, 3) := by decide +kernel
theorem dX10_hasRecipe_12 : decode cX10_hasRecipe 12 = .ok (.iconst 1, 1) := by decide +kernel
theorem dX10_hasRecipe_13 : decode cX10_hasRecipe 13 = .ok (.goto 4, 3) := by decide +kernel
theorem dX10_hasRecipe_16 : decode cX10_hasRecipe 16 = .ok (.iconst 0, 1) := by decide +kernel
theorem dX10_hasRecipe_17 : decode cX10_hasRecipe 17 = .ok (.ireturn, 1) := by decide +kernel
theorem dX10_hasRecipe_4 : decode cX10_hasRecipe 4 = .ok (.iload_n 1, 1) := by decide +kernel
theorem dX10_hasRecipe_5 : decode cX10_hasRecipe 5 = .ok (.aload_n 0, 1) := by decide +kernel
theorem dX10_hasRecipe_6 : decode cX10_hasRecipe 6 = .ok (.getfield 32, 3) := by decide +kernel
theorem dX10_hasRecipe_9 : decode cX10_hasRecipe 9 = .ok (.if_icmp .ge 7, 3) := by decide +kernel
theorem dX10_init_0 : decode cX10_init 0 = .ok (.aload_n 0, 1) := by decide +kernel
theorem dX10_init_1 : decode cX10_init 1 = .ok (.invokespecial 5, 3) := by decide +kernel
theorem dX10_init_13 : decode cX10_init 13 = .ok (.putfield 15, 3) := by decide +kernel
theorem dX10_init_16 : decode cX10_init 16 = .ok (.aload_n 0, 1) := by decide +kernel
theorem dX10_init_17 : decode cX10_init 17 = .ok (.bipush 11, 2) := by decide +kernel
theorem dX10_init_19 : decode cX10_init 19 = .ok (.newarray .int, 2) := by decide +kernel
theorem dX10_init_21 : decode cX10_init 21 = .ok (.putfield 18, 3) := by decide +kernel
theorem dX10_init_24 : decode cX10_init 24 = .ok (.aload_n 0, 1) := by decide +kernel
theorem dX10_init_25 : decode cX10_init 25 = .ok (.bipush 26, 2) := by decide +kernel
theorem dX10_init_27 : decode cX10_init 27 = .ok (.newarray .int, 2) := by decide +kernel
theorem dX10_init_29 : decode cX10_init 29 = .ok (.putfield 22, 3) := by decide +kernel
theorem dX10_init_32 : decode cX10_init 32 = .ok (.aload_n 0, 1) := by decide +kernel
theorem dX10_init_33 : decode cX10_init 33 = .ok (.bipush 64, 2) := by decide +kernel
theorem dX10_init_35 : decode cX10_init 35 = .ok (.newarray .int, 2) := by decide +kernel
theorem dX10_init_37 : decode cX10_init 37 = .ok (.putfield 25, 3) := by decide +kernel
theorem dX10_init_4 : decode cX10_init 4 = .ok (.aload_n 0, 1) := by decide +kernel
theorem dX10_init_40 : decode cX10_init 40 = .ok (.aload_n 0, 1) := by decide +kernel
theorem dX10_init_41 : decode cX10_init 41 = .ok (.iconst 0, 1) := by decide +kernel
theorem dX10_init_42 : decode cX10_init 42 = .ok (.putfield 28, 3) := by decide +kernel
theorem dX10_init_45 : decode cX10_init 45 = .ok (.aload_n 0, 1) := by decide +kernel
theorem dX10_init_46 : decode cX10_init 46 = .ok (.iconst 0, 1) := by decide +kernel
theorem dX10_init_47 : decode cX10_init 47 = .ok (.putfield 32, 3) := by decide +kernel
theorem dX10_init_5 : decode cX10_init 5 = .ok (.bipush 11, 2) := by decide +kernel
theorem dX10_init_50 : decode cX10_init 50 = .ok (.return_, 1) := by decide +kernel
theorem dX10_init_7 : decode cX10_init 7 = .ok (.bipush 64, 2) := by decide +kernel
theorem dX10_init_9 : decode cX10_init 9 = .ok (.multianewarray 13 2, 4) := by decide +kernel
theorem dX10_joined_0 : decode cX10_joined 0 = .ok (.iload_n 0, 1) := by decide +kernel
theorem dX10_joined_1 : decode cX10_joined 1 = .ok (.lookupswitch 168 #[(38, 97), (42, 152), (43, 144), (45, 148), (47, 156), (60, 111), (61, 133), (62, 122), (124, 83)], 83) := by decide +kernel
theorem dX10_joined_102 : decode cX10_joined 102 = .ok (.iload_n 2, 1) := by decide +kernel
theorem dX10_joined_103 : decode cX10_joined 103 = .ok (.ifCond .eq 7, 3) := by decide +kernel
theorem dX10_joined_106 : decode cX10_joined 106 = .ok (.iconst 1, 1) := by decide +kernel
theorem dX10_joined_107 : decode cX10_joined 107 = .ok (.goto 4, 3) := by decide +kernel
theorem dX10_joined_110 : decode cX10_joined 110 = .ok (.iconst 0, 1) := by decide +kernel
theorem dX10_joined_111 : decode cX10_joined 111 = .ok (.ireturn, 1) := by decide +kernel
theorem dX10_joined_112 : decode cX10_joined 112 = .ok (.iload_n 1, 1) := by decide +kernel
theorem dX10_joined_113 : decode cX10_joined 113 = .ok (.iload_n 2, 1) := by decide +kernel
theorem dX10_joined_114 : decode cX10_joined 114 = .ok (.if_icmp .ge 7, 3) := by decide +kernel
theorem dX10_joined_117 : decode cX10_joined 117 = .ok (.iconst 1, 1) := by decide +kernel
theorem dX10_joined_118 : decode cX10_joined 118 = .ok (.goto 4, 3) := by decide +kernel
theorem dX10_joined_121 : decode cX10_joined 121 = .ok (.iconst 0, 1) := by decide +kernel
theorem dX10_joined_122 : decode cX10_joined 122 = .ok (.ireturn, 1) := by decide +kernel
theorem dX10_joined_123 : decode cX10_joined 123 = .ok (.iload_n 1, 1) := by decide +kernel
theorem dX10_joined_124 : decode cX10_joined 124 = .ok (.iload_n 2, 1) := by decide +kernel
theorem dX10_joined_125 : decode cX10_joined 125 = .ok (.if_icmp .le 7, 3) := by decide +kernel
theorem dX10_joined_128 : decode cX10_joined 128 = .ok (.iconst 1, 1) := by decide +kernel
theorem dX10_joined_129 : decode cX10_joined 129 = .ok (.goto 4, 3) := by decide +kernel
theorem dX10_joined_132 : decode cX10_joined 132 = .ok (.iconst 0, 1) := by decide +kernel
theorem dX10_joined_133 : decode cX10_joined 133 = .ok (.ireturn, 1) := by decide +kernel
theorem dX10_joined_134 : decode cX10_joined 134 = .ok (.iload_n 1, 1) := by decide +kernel
theorem dX10_joined_135 : decode cX10_joined 135 = .ok (.iload_n 2, 1) := by decide +kernel
theorem dX10_joined_136 : decode cX10_joined 136 = .ok (.if_icmp .ne 7, 3) := by decide +kernel
theorem dX10_joined_139 : decode cX10_joined 139 = .ok (.iconst 1, 1) := by decide +kernel
theorem dX10_joined_140 : decode cX10_joined 140 = .ok (.goto 4, 3) := by decide +kernel
theorem dX10_joined_143 : decode cX10_joined 143 = .ok (.iconst 0, 1) := by decide +kernel
theorem dX10_joined_144 : decode cX10_joined 144 = .ok (.ireturn, 1) := by decide +kernel
theorem dX10_joined_145 : decode cX10_joined 145 = .ok (.iload_n 1, 1) := by decide +kernel
theorem dX10_joined_146 : decode cX10_joined 146 = .ok (.iload_n 2, 1) := by decide +kernel
theorem dX10_joined_147 : decode cX10_joined 147 = .ok (.iadd, 1) := by decide +kernel
theorem dX10_joined_148 : decode cX10_joined 148 = .ok (.ireturn, 1) := by decide +kernel
theorem dX10_joined_149 : decode cX10_joined 149 = .ok (.iload_n 1, 1) := by decide +kernel
theorem dX10_joined_150 : decode cX10_joined 150 = .ok (.iload_n 2, 1) := by decide +kernel
theorem dX10_joined_151 : decode cX10_joined 151 = .ok (.isub, 1) := by decide +kernel
theorem dX10_joined_152 : decode cX10_joined 152 = .ok (.ireturn, 1) := by decide +kernel
theorem dX10_joined_153 : decode cX10_joined 153 = .ok (.iload_n 1, 1) := by decide +kernel
theorem dX10_joined_154 : decode cX10_joined 154 = .ok (.iload_n 2, 1) := by decide +kernel
theorem dX10_joined_155 : decode cX10_joined 155 = .ok (.imul, 1) := by decide +kernel
theorem dX10_joined_156 : decode cX10_joined 156 = .ok (.ireturn, 1) := by decide +kernel
theorem dX10_joined_157 : decode cX10_joined 157 = .ok (.iload_n 2, 1) := by decide +kernel
theorem dX10_joined_158 : decode cX10_joined 158 = .ok (.ifCond .ne 7, 3) := by decide +kernel
theorem dX10_joined_161 : decode cX10_joined 161 = .ok (.iconst 0, 1) := by decide +kernel
theorem dX10_joined_162 : decode cX10_joined 162 = .ok (.goto 6, 3) := by decide +kernel
theorem dX10_joined_165 : decode cX10_joined 165 = .ok (.iload_n 1, 1) := by decide +kernel
theorem dX10_joined_166 : decode cX10_joined 166 = .ok (.iload_n 2, 1) := by decide +kernel
theorem dX10_joined_167 : decode cX10_joined 167 = .ok (.idiv, 1) := by decide +kernel
theorem dX10_joined_168 : decode cX10_joined 168 = .ok (.ireturn, 1) := by decide +kernel
theorem dX10_joined_169 : decode cX10_joined 169 = .ok (.iload_n 2, 1) := by decide +kernel
theorem dX10_joined_170 : decode cX10_joined 170 = .ok (.ifCond .ne 7, 3) := by decide +kernel
theorem dX10_joined_173 : decode cX10_joined 173 = .ok (.iconst 0, 1) := by decide +kernel
theorem dX10_joined_174 : decode cX10_joined 174 = .ok (.goto 6, 3) := by decide +kernel
theorem dX10_joined_177 : decode cX10_joined 177 = .ok (.iload_n 1, 1) := by decide +kernel
theorem dX10_joined_178 : decode cX10_joined 178 = .ok (.iload_n 2, 1) := by decide +kernel
theorem dX10_joined_179 : decode cX10_joined 179 = .ok (.irem, 1) := by decide +kernel
theorem dX10_joined_180 : decode cX10_joined 180 = .ok (.ireturn, 1) := by decide +kernel
theorem dX10_joined_84 : decode cX10_joined 84 = .ok (.iload_n 1, 1) := by decide +kernel
theorem dX10_joined_85 : decode cX10_joined 85 = .ok (.ifCond .ne 7, 3) := by decide +kernel
theorem dX10_joined_88 : decode cX10_joined 88 = .ok (.iload_n 2, 1) := by decide +kernel
theorem dX10_joined_89 : decode cX10_joined 89 = .ok (.ifCond .eq 7, 3) := by decide +kernel
theorem dX10_joined_92 : decode cX10_joined 92 = .ok (.iconst 1, 1) := by decide +kernel
theorem dX10_joined_93 : decode cX10_joined 93 = .ok (.goto 4, 3) := by decide +kernel
theorem dX10_joined_96 : decode cX10_joined 96 = .ok (.iconst 0, 1) := by decide +kernel
theorem dX10_joined_97 : decode cX10_joined 97 = .ok (.ireturn, 1) := by decide +kernel
theorem dX10_joined_98 : decode cX10_joined 98 = .ok (.iload_n 1, 1) := by decide +kernel
theorem dX10_joined_99 : decode cX10_joined 99 = .ok (.ifCond .eq 11, 3) := by decide +kernel
theorem dX10_keep_0 : decode cX10_keep 0 = .ok (.iload_n 1, 1) := by decide +kernel
theorem dX10_keep_1 : decode cX10_keep 1 = .ok (.iconst 0, 1) := by decide +kernel
theorem dX10_keep_10 : decode cX10_keep 10 = .ok (.iload_n 3, 1) := by decide +kernel
theorem dX10_keep_11 : decode cX10_keep 11 = .ok (.iconst 0, 1) := by decide +kernel
theorem dX10_keep_12 : decode cX10_keep 12 = .ok (.aload_n 2, 1) := by decide +kernel
theorem dX10_keep_13 : decode cX10_keep 13 = .ok (.arraylength, 1) := by decide +kernel
theorem dX10_keep_14 : decode cX10_keep 14 = .ok (.bipush 64, 2) := by decide +kernel
theorem dX10_keep_16 : decode cX10_keep 16 = .ok (.invokestatic 39, 3) := by decide +kernel
theorem dX10_keep_19 : decode cX10_keep 19 = .ok (.invokestatic 35, 3) := by decide +kernel
theorem dX10_keep_2 : decode cX10_keep 2 = .ok (.bipush 10, 2) := by decide +kernel
theorem dX10_keep_22 : decode cX10_keep 22 = .ok (.ifCond .ne 4, 3) := by decide +kernel
theorem dX10_keep_25 : decode cX10_keep 25 = .ok (.return_, 1) := by decide +kernel
theorem dX10_keep_26 : decode cX10_keep 26 = .ok (.aload_n 2, 1) := by decide +kernel
theorem dX10_keep_27 : decode cX10_keep 27 = .ok (.iconst 0, 1) := by decide +kernel
theorem dX10_keep_28 : decode cX10_keep 28 = .ok (.aload_n 0, 1) := by decide +kernel
theorem dX10_keep_29 : decode cX10_keep 29 = .ok (.getfield 15, 3) := by decide +kernel
theorem dX10_keep_32 : decode cX10_keep 32 = .ok (.iload_n 1, 1) := by decide +kernel
theorem dX10_keep_33 : decode cX10_keep 33 = .ok (.aaload, 1) := by decide +kernel
theorem dX10_keep_34 : decode cX10_keep 34 = .ok (.iconst 0, 1) := by decide +kernel
theorem dX10_keep_35 : decode cX10_keep 35 = .ok (.iload_n 3, 1) := by decide +kernel
theorem dX10_keep_36 : decode cX10_keep 36 = .ok (.invokestatic 45, 3) := by decide +kernel
theorem dX10_keep_39 : decode cX10_keep 39 = .ok (.aload_n 0, 1) := by decide +kernel
theorem dX10_keep_4 : decode cX10_keep 4 = .ok (.invokestatic 35, 3) := by decide +kernel
theorem dX10_keep_40 : decode cX10_keep 40 = .ok (.getfield 18, 3) := by decide +kernel
theorem dX10_keep_43 : decode cX10_keep 43 = .ok (.iload_n 1, 1) := by decide +kernel
theorem dX10_keep_44 : decode cX10_keep 44 = .ok (.iload_n 3, 1) := by decide +kernel
theorem dX10_keep_45 : decode cX10_keep 45 = .ok (.iastore, 1) := by decide +kernel
theorem dX10_keep_46 : decode cX10_keep 46 = .ok (.return_, 1) := by decide +kernel
theorem dX10_keep_7 : decode cX10_keep 7 = .ok (.ifCond .eq 18, 3) := by decide +kernel
theorem dX10_pop_0 : decode cX10_pop 0 = .ok (.aload_n 0, 1) := by decide +kernel
theorem dX10_pop_1 : decode cX10_pop 1 = .ok (.getfield 28, 3) := by decide +kernel
theorem dX10_pop_10 : decode cX10_pop 10 = .ok (.dup, 1) := by decide +kernel
theorem dX10_pop_11 : decode cX10_pop 11 = .ok (.getfield 28, 3) := by decide +kernel
theorem dX10_pop_14 : decode cX10_pop 14 = .ok (.iconst 1, 1) := by decide +kernel
theorem dX10_pop_15 : decode cX10_pop 15 = .ok (.isub, 1) := by decide +kernel
theorem dX10_pop_16 : decode cX10_pop 16 = .ok (.putfield 28, 3) := by decide +kernel
theorem dX10_pop_19 : decode cX10_pop 19 = .ok (.aload_n 0, 1) := by decide +kernel
theorem dX10_pop_20 : decode cX10_pop 20 = .ok (.getfield 25, 3) := by decide +kernel
theorem dX10_pop_23 : decode cX10_pop 23 = .ok (.aload_n 0, 1) := by decide +kernel
theorem dX10_pop_24 : decode cX10_pop 24 = .ok (.getfield 28, 3) := by decide +kernel
theorem dX10_pop_27 : decode cX10_pop 27 = .ok (.iaload, 1) := by decide +kernel
theorem dX10_pop_28 : decode cX10_pop 28 = .ok (.ireturn, 1) := by decide +kernel
theorem dX10_pop_4 : decode cX10_pop 4 = .ok (.ifCond .ne 5, 3) := by decide +kernel
theorem dX10_pop_7 : decode cX10_pop 7 = .ok (.iconst 0, 1) := by decide +kernel
theorem dX10_pop_8 : decode cX10_pop 8 = .ok (.ireturn, 1) := by decide +kernel
theorem dX10_pop_9 : decode cX10_pop 9 = .ok (.aload_n 0, 1) := by decide +kernel
theorem dX10_push_0 : decode cX10_push 0 = .ok (.aload_n 0, 1) := by decide +kernel
theorem dX10_push_1 : decode cX10_push 1 = .ok (.getfield 28, 3) := by decide +kernel
theorem dX10_push_12 : decode cX10_push 12 = .ok (.aload_n 0, 1) := by decide +kernel
theorem dX10_push_13 : decode cX10_push 13 = .ok (.getfield 25, 3) := by decide +kernel
theorem dX10_push_16 : decode cX10_push 16 = .ok (.aload_n 0, 1) := by decide +kernel
theorem dX10_push_17 : decode cX10_push 17 = .ok (.getfield 28, 3) := by decide +kernel
theorem dX10_push_20 : decode cX10_push 20 = .ok (.iload_n 1, 1) := by decide +kernel
theorem dX10_push_21 : decode cX10_push 21 = .ok (.iastore, 1) := by decide +kernel
theorem dX10_push_22 : decode cX10_push 22 = .ok (.aload_n 0, 1) := by decide +kernel
theorem dX10_push_23 : decode cX10_push 23 = .ok (.dup, 1) := by decide +kernel
theorem dX10_push_24 : decode cX10_push 24 = .ok (.getfield 28, 3) := by decide +kernel
theorem dX10_push_27 : decode cX10_push 27 = .ok (.iconst 1, 1) := by decide +kernel
theorem dX10_push_28 : decode cX10_push 28 = .ok (.iadd, 1) := by decide +kernel
theorem dX10_push_29 : decode cX10_push 29 = .ok (.putfield 28, 3) := by decide +kernel
theorem dX10_push_32 : decode cX10_push 32 = .ok (.return_, 1) := by decide +kernel
theorem dX10_push_4 : decode cX10_push 4 = .ok (.aload_n 0, 1) := by decide +kernel
theorem dX10_push_5 : decode cX10_push 5 = .ok (.getfield 25, 3) := by decide +kernel
theorem dX10_push_8 : decode cX10_push 8 = .ok (.arraylength, 1) := by decide +kernel
theorem dX10_push_9 : decode cX10_push 9 = .ok (.if_icmp .ge 23, 3) := by decide +kernel
theorem dX10_tell_0 : decode cX10_tell 0 = .ok (.iload_n 1, 1) := by decide +kernel
theorem dX10_tell_1 : decode cX10_tell 1 = .ok (.bipush 97, 2) := by decide +kernel
theorem dX10_tell_11 : decode cX10_tell 11 = .ok (.aload_n 0, 1) := by decide +kernel
theorem dX10_tell_12 : decode cX10_tell 12 = .ok (.getfield 22, 3) := by decide +kernel
theorem dX10_tell_15 : decode cX10_tell 15 = .ok (.iload_n 1, 1) := by decide +kernel
theorem dX10_tell_16 : decode cX10_tell 16 = .ok (.bipush 97, 2) := by decide +kernel
theorem dX10_tell_18 : decode cX10_tell 18 = .ok (.isub, 1) := by decide +kernel
theorem dX10_tell_19 : decode cX10_tell 19 = .ok (.iload_n 2, 1) := by decide +kernel
theorem dX10_tell_20 : decode cX10_tell 20 = .ok (.iastore, 1) := by decide +kernel
theorem dX10_tell_21 : decode cX10_tell 21 = .ok (.return_, 1) := by decide +kernel
theorem dX10_tell_3 : decode cX10_tell 3 = .ok (.bipush 122, 2) := by decide +kernel
theorem dX10_tell_5 : decode cX10_tell 5 = .ok (.invokestatic 35, 3) := by decide +kernel
theorem dX10_tell_8 : decode cX10_tell 8 = .ok (.ifCond .eq 13, 3) := by decide +kernel
theorem dX10_valueOf_0 : decode cX10_valueOf 0 = .ok (.iload_n 1, 1) := by decide +kernel
theorem dX10_valueOf_1 : decode cX10_valueOf 1 = .ok (.iconst 0, 1) := by decide +kernel
theorem dX10_valueOf_10 : decode cX10_valueOf 10 = .ok (.iconst 0, 1) := by decide +kernel
theorem dX10_valueOf_11 : decode cX10_valueOf 11 = .ok (.ireturn, 1) := by decide +kernel
theorem dX10_valueOf_12 : decode cX10_valueOf 12 = .ok (.aload_n 0, 1) := by decide +kernel
theorem dX10_valueOf_13 : decode cX10_valueOf 13 = .ok (.iconst 0, 1) := by decide +kernel
theorem dX10_valueOf_14 : decode cX10_valueOf 14 = .ok (.putfield 28, 3) := by decide +kernel
theorem dX10_valueOf_17 : decode cX10_valueOf 17 = .ok (.iconst 0, 1) := by decide +kernel
theorem dX10_valueOf_18 : decode cX10_valueOf 18 = .ok (.istore_n 2, 1) := by decide +kernel
theorem dX10_valueOf_19 : decode cX10_valueOf 19 = .ok (.iload_n 2, 1) := by decide +kernel
theorem dX10_valueOf_2 : decode cX10_valueOf 2 = .ok (.bipush 10, 2) := by decide +kernel
theorem dX10_valueOf_20 : decode cX10_valueOf 20 = .ok (.aload_n 0, 1) := by decide +kernel
theorem dX10_valueOf_21 : decode cX10_valueOf 21 = .ok (.getfield 18, 3) := by decide +kernel
theorem dX10_valueOf_24 : decode cX10_valueOf 24 = .ok (.iload_n 1, 1) := by decide +kernel
theorem dX10_valueOf_25 : decode cX10_valueOf 25 = .ok (.iaload, 1) := by decide +kernel
theorem dX10_valueOf_26 : decode cX10_valueOf 26 = .ok (.if_icmp .ge 21, 3) := by decide +kernel
theorem dX10_valueOf_29 : decode cX10_valueOf 29 = .ok (.aload_n 0, 1) := by decide +kernel
theorem dX10_valueOf_30 : decode cX10_valueOf 30 = .ok (.aload_n 0, 1) := by decide +kernel
theorem dX10_valueOf_31 : decode cX10_valueOf 31 = .ok (.getfield 15, 3) := by decide +kernel
theorem dX10_valueOf_34 : decode cX10_valueOf 34 = .ok (.iload_n 1, 1) := by decide +kernel
theorem dX10_valueOf_35 : decode cX10_valueOf 35 = .ok (.aaload, 1) := by decide +kernel
theorem dX10_valueOf_36 : decode cX10_valueOf 36 = .ok (.iload_n 2, 1) := by decide +kernel
theorem dX10_valueOf_37 : decode cX10_valueOf 37 = .ok (.iaload, 1) := by decide +kernel
theorem dX10_valueOf_38 : decode cX10_valueOf 38 = .ok (.invokevirtual 61, 3) := by decide +kernel
theorem dX10_valueOf_4 : decode cX10_valueOf 4 = .ok (.invokestatic 35, 3) := by decide +kernel
theorem dX10_valueOf_41 : decode cX10_valueOf 41 = .ok (.iinc 2 1, 3) := by decide +kernel
theorem dX10_valueOf_44 : decode cX10_valueOf 44 = .ok (.goto (-25), 3) := by decide +kernel
theorem dX10_valueOf_47 : decode cX10_valueOf 47 = .ok (.aload_n 0, 1) := by decide +kernel
theorem dX10_valueOf_48 : decode cX10_valueOf 48 = .ok (.invokevirtual 65, 3) := by decide +kernel
theorem dX10_valueOf_51 : decode cX10_valueOf 51 = .ok (.ireturn, 1) := by decide +kernel
theorem dX10_valueOf_7 : decode cX10_valueOf 7 = .ok (.ifCond .ne 5, 3) := by decide +kernel
theorem dX10_work_0 : decode cX10_work 0 = .ok (.iload_n 1, 1) := by decide +kernel
theorem dX10_work_1 : decode cX10_work 1 = .ok (.ifCond .lt 11, 3) := by decide +kernel
theorem dX10_work_100 : decode cX10_work 100 = .ok (.invokevirtual 73, 3) := by decide +kernel
theorem dX10_work_103 : decode cX10_work 103 = .ok (.return_, 1) := by decide +kernel
theorem dX10_work_12 : decode cX10_work 12 = .ok (.iload_n 1, 1) := by decide +kernel
theorem dX10_work_13 : decode cX10_work 13 = .ok (.ineg, 1) := by decide +kernel
theorem dX10_work_14 : decode cX10_work 14 = .ok (.bipush 97, 2) := by decide +kernel
theorem dX10_work_16 : decode cX10_work 16 = .ok (.bipush 122, 2) := by decide +kernel
theorem dX10_work_18 : decode cX10_work 18 = .ok (.invokestatic 35, 3) := by decide +kernel
theorem dX10_work_21 : decode cX10_work 21 = .ok (.ifCond .eq 20, 3) := by decide +kernel
theorem dX10_work_24 : decode cX10_work 24 = .ok (.aload_n 0, 1) := by decide +kernel
theorem dX10_work_25 : decode cX10_work 25 = .ok (.aload_n 0, 1) := by decide +kernel
theorem dX10_work_26 : decode cX10_work 26 = .ok (.getfield 22, 3) := by decide +kernel
theorem dX10_work_29 : decode cX10_work 29 = .ok (.iload_n 1, 1) := by decide +kernel
theorem dX10_work_30 : decode cX10_work 30 = .ok (.ineg, 1) := by decide +kernel
theorem dX10_work_31 : decode cX10_work 31 = .ok (.bipush 97, 2) := by decide +kernel
theorem dX10_work_33 : decode cX10_work 33 = .ok (.isub, 1) := by decide +kernel
theorem dX10_work_34 : decode cX10_work 34 = .ok (.iaload, 1) := by decide +kernel
theorem dX10_work_35 : decode cX10_work 35 = .ok (.invokevirtual 73, 3) := by decide +kernel
theorem dX10_work_38 : decode cX10_work 38 = .ok (.goto 65, 3) := by decide +kernel
theorem dX10_work_4 : decode cX10_work 4 = .ok (.aload_n 0, 1) := by decide +kernel
theorem dX10_work_41 : decode cX10_work 41 = .ok (.iload_n 1, 1) := by decide +kernel
theorem dX10_work_42 : decode cX10_work 42 = .ok (.bipush (-33), 2) := by decide +kernel
theorem dX10_work_44 : decode cX10_work 44 = .ok (.if_icmp .ne 22, 3) := by decide +kernel
theorem dX10_work_47 : decode cX10_work 47 = .ok (.aload_n 0, 1) := by decide +kernel
theorem dX10_work_48 : decode cX10_work 48 = .ok (.aload_n 0, 1) := by decide +kernel
theorem dX10_work_49 : decode cX10_work 49 = .ok (.invokevirtual 65, 3) := by decide +kernel
theorem dX10_work_5 : decode cX10_work 5 = .ok (.iload_n 1, 1) := by decide +kernel
theorem dX10_work_52 : decode cX10_work 52 = .ok (.ifCond .ne 7, 3) := by decide +kernel
theorem dX10_work_55 : decode cX10_work 55 = .ok (.iconst 1, 1) := by decide +kernel
theorem dX10_work_56 : decode cX10_work 56 = .ok (.goto 4, 3) := by decide +kernel
theorem dX10_work_59 : decode cX10_work 59 = .ok (.iconst 0, 1) := by decide +kernel
theorem dX10_work_6 : decode cX10_work 6 = .ok (.invokevirtual 73, 3) := by decide +kernel
theorem dX10_work_60 : decode cX10_work 60 = .ok (.invokevirtual 73, 3) := by decide +kernel
theorem dX10_work_63 : decode cX10_work 63 = .ok (.goto 40, 3) := by decide +kernel
theorem dX10_work_66 : decode cX10_work 66 = .ok (.iload_n 1, 1) := by decide +kernel
theorem dX10_work_67 : decode cX10_work 67 = .ok (.bipush (-126), 2) := by decide +kernel
theorem dX10_work_69 : decode cX10_work 69 = .ok (.if_icmp .ne 15, 3) := by decide +kernel
theorem dX10_work_72 : decode cX10_work 72 = .ok (.aload_n 0, 1) := by decide +kernel
theorem dX10_work_73 : decode cX10_work 73 = .ok (.aload_n 0, 1) := by decide +kernel
theorem dX10_work_74 : decode cX10_work 74 = .ok (.invokevirtual 65, 3) := by decide +kernel
theorem dX10_work_77 : decode cX10_work 77 = .ok (.ineg, 1) := by decide +kernel
theorem dX10_work_78 : decode cX10_work 78 = .ok (.invokevirtual 73, 3) := by decide +kernel
theorem dX10_work_81 : decode cX10_work 81 = .ok (.goto 22, 3) := by decide +kernel
theorem dX10_work_84 : decode cX10_work 84 = .ok (.aload_n 0, 1) := by decide +kernel
theorem dX10_work_85 : decode cX10_work 85 = .ok (.invokevirtual 65, 3) := by decide +kernel
theorem dX10_work_88 : decode cX10_work 88 = .ok (.istore_n 2, 1) := by decide +kernel
theorem dX10_work_89 : decode cX10_work 89 = .ok (.aload_n 0, 1) := by decide +kernel
theorem dX10_work_9 : decode cX10_work 9 = .ok (.goto 94, 3) := by decide +kernel
theorem dX10_work_90 : decode cX10_work 90 = .ok (.iload_n 1, 1) := by decide +kernel
theorem dX10_work_91 : decode cX10_work 91 = .ok (.ineg, 1) := by decide +kernel
theorem dX10_work_92 : decode cX10_work 92 = .ok (.aload_n 0, 1) := by decide +kernel
theorem dX10_work_93 : decode cX10_work 93 = .ok (.invokevirtual 65, 3) := by decide +kernel
theorem dX10_work_96 : decode cX10_work 96 = .ok (.iload_n 2, 1) := by decide +kernel
theorem dX10_work_97 : decode cX10_work 97 = .ok (.invokestatic 76, 3) := by decide +kernel
theorem dX11_as_0 : decode cX11_as 0 = .ok (.iload_n 1, 1) := by decide +kernel
theorem dX11_as_1 : decode cX11_as 1 = .ok (.invokestatic 109, 3) := by decide +kernel
theorem dX11_as_10 : decode cX11_as 10 = .ok (.getfield 26, 3) := by decide +kernel
theorem dX11_as_13 : decode cX11_as 13 = .ok (.getfield 182, 3) := by decide +kernel
theorem dX11_as_16 : decode cX11_as 16 = .ok (.istore_n 2, 1) := by decide +kernel
theorem dX11_as_17 : decode cX11_as 17 = .ok (.aload_n 0, 1) := by decide +kernel
theorem dX11_as_18 : decode cX11_as 18 = .ok (.getfield 26, 3) := by decide +kernel
theorem dX11_as_21 : decode cX11_as 21 = .ok (.iload_n 1, 1) := by decide +kernel
theorem dX11_as_22 : decode cX11_as 22 = .ok (.putfield 182, 3) := by decide +kernel
theorem dX11_as_25 : decode cX11_as 25 = .ok (.iload_n 2, 1) := by decide +kernel
theorem dX11_as_26 : decode cX11_as 26 = .ok (.ireturn, 1) := by decide +kernel
theorem dX11_as_4 : decode cX11_as 4 = .ok (.ifCond .ne 5, 3) := by decide +kernel
theorem dX11_as_7 : decode cX11_as 7 = .ok (.iconst (-1), 1) := by decide +kernel
theorem dX11_as_8 : decode cX11_as 8 = .ok (.ireturn, 1) := by decide +kernel
theorem dX11_as_9 : decode cX11_as 9 = .ok (.aload_n 0, 1) := by decide +kernel
theorem dX11_at_0 : decode cX11_at 0 = .ok (.aload_n 0, 1) := by decide +kernel
theorem dX11_at_1 : decode cX11_at 1 = .ok (.getfield 12, 3) := by decide +kernel
theorem dX11_at_11 : decode cX11_at 11 = .ok (.iload_n 2, 1) := by decide +kernel
theorem dX11_at_12 : decode cX11_at 12 = .ok (.invokestatic 109, 3) := by decide +kernel
theorem dX11_at_15 : decode cX11_at 15 = .ok (.ifCond .eq 15, 3) := by decide +kernel
theorem dX11_at_18 : decode cX11_at 18 = .ok (.aload_n 0, 1) := by decide +kernel
theorem dX11_at_19 : decode cX11_at 19 = .ok (.getfield 12, 3) := by decide +kernel
theorem dX11_at_22 : decode cX11_at 22 = .ok (.iload_n 1, 1) := by decide +kernel
theorem dX11_at_23 : decode cX11_at 23 = .ok (.iload_n 2, 1) := by decide +kernel
theorem dX11_at_24 : decode cX11_at 24 = .ok (.invokevirtual 119, 3) := by decide +kernel
theorem dX11_at_27 : decode cX11_at 27 = .ok (.goto 4, 3) := by decide +kernel
theorem dX11_at_30 : decode cX11_at 30 = .ok (.iconst (-1), 1) := by decide +kernel
theorem dX11_at_31 : decode cX11_at 31 = .ok (.ireturn, 1) := by decide +kernel
theorem dX11_at_4 : decode cX11_at 4 = .ok (.iload_n 1, 1) := by decide +kernel
theorem dX11_at_5 : decode cX11_at 5 = .ok (.invokevirtual 98, 3) := by decide +kernel
theorem dX11_at_8 : decode cX11_at 8 = .ok (.ifCond .eq 22, 3) := by decide +kernel
theorem dX11_bale_0 : decode cX11_bale 0 = .ok (.iload_n 1, 1) := by decide +kernel
theorem dX11_bale_1 : decode cX11_bale 1 = .ok (.invokestatic 127, 3) := by decide +kernel
theorem dX11_bale_11 : decode cX11_bale 11 = .ok (.ifCond .eq 30, 3) := by decide +kernel
theorem dX11_bale_14 : decode cX11_bale 14 = .ok (.iload_n 3, 1) := by decide +kernel
theorem dX11_bale_15 : decode cX11_bale 15 = .ok (.iconst 1, 1) := by decide +kernel
theorem dX11_bale_16 : decode cX11_bale 16 = .ok (.sipush 9999, 3) := by decide +kernel
theorem dX11_bale_19 : decode cX11_bale 19 = .ok (.invokestatic 94, 3) := by decide +kernel
theorem dX11_bale_22 : decode cX11_bale 22 = .ok (.ifCond .eq 19, 3) := by decide +kernel
theorem dX11_bale_25 : decode cX11_bale 25 = .ok (.iload 4, 2) := by decide +kernel
theorem dX11_bale_27 : decode cX11_bale 27 = .ok (.iconst 0, 1) := by decide +kernel
theorem dX11_bale_28 : decode cX11_bale 28 = .ok (.sipush 999, 3) := by decide +kernel
theorem dX11_bale_31 : decode cX11_bale 31 = .ok (.invokestatic 94, 3) := by decide +kernel
theorem dX11_bale_34 : decode cX11_bale 34 = .ok (.ifCond .eq 7, 3) := by decide +kernel
theorem dX11_bale_37 : decode cX11_bale 37 = .ok (.iconst 1, 1) := by decide +kernel
theorem dX11_bale_38 : decode cX11_bale 38 = .ok (.goto 4, 3) := by decide +kernel
theorem dX11_bale_4 : decode cX11_bale 4 = .ok (.ifCond .eq 37, 3) := by decide +kernel
theorem dX11_bale_41 : decode cX11_bale 41 = .ok (.iconst 0, 1) := by decide +kernel
theorem dX11_bale_42 : decode cX11_bale 42 = .ok (.istore 5, 2) := by decide +kernel
theorem dX11_bale_44 : decode cX11_bale 44 = .ok (.iload 5, 2) := by decide +kernel
theorem dX11_bale_46 : decode cX11_bale 46 = .ok (.ifCond .eq 30, 3) := by decide +kernel
theorem dX11_bale_49 : decode cX11_bale 49 = .ok (.aload_n 0, 1) := by decide +kernel
theorem dX11_bale_50 : decode cX11_bale 50 = .ok (.getfield 19, 3) := by decide +kernel
theorem dX11_bale_53 : decode cX11_bale 53 = .ok (.getfield 133, 3) := by decide +kernel
theorem dX11_bale_56 : decode cX11_bale 56 = .ok (.bipush 24, 2) := by decide +kernel
theorem dX11_bale_58 : decode cX11_bale 58 = .ok (.if_icmp .ge 18, 3) := by decide +kernel
theorem dX11_bale_61 : decode cX11_bale 61 = .ok (.aload_n 0, 1) := by decide +kernel
theorem dX11_bale_62 : decode cX11_bale 62 = .ok (.getfield 19, 3) := by decide +kernel
theorem dX11_bale_65 : decode cX11_bale 65 = .ok (.iload_n 1, 1) := by decide +kernel
theorem dX11_bale_66 : decode cX11_bale 66 = .ok (.iload_n 2, 1) := by decide +kernel
theorem dX11_bale_67 : decode cX11_bale 67 = .ok (.iload_n 3, 1) := by decide +kernel
theorem dX11_bale_68 : decode cX11_bale 68 = .ok (.iload 4, 2) := by decide +kernel
theorem dX11_bale_7 : decode cX11_bale 7 = .ok (.iload_n 2, 1) := by decide +kernel
theorem dX11_bale_70 : decode cX11_bale 70 = .ok (.invokevirtual 134, 3) := by decide +kernel
theorem dX11_bale_73 : decode cX11_bale 73 = .ok (.goto 4, 3) := by decide +kernel
theorem dX11_bale_76 : decode cX11_bale 76 = .ok (.iconst (-1), 1) := by decide +kernel
theorem dX11_bale_77 : decode cX11_bale 77 = .ok (.ireturn, 1) := by decide +kernel
theorem dX11_bale_8 : decode cX11_bale 8 = .ok (.invokestatic 130, 3) := by decide +kernel
theorem dX11_called_0 : decode cX11_called 0 = .ok (.iload_n 1, 1) := by decide +kernel
theorem dX11_called_1 : decode cX11_called 1 = .ok (.invokestatic 138, 3) := by decide +kernel
theorem dX11_called_11 : decode cX11_called 11 = .ok (.iload_n 2, 1) := by decide +kernel
theorem dX11_called_12 : decode cX11_called 12 = .ok (.invokevirtual 98, 3) := by decide +kernel
theorem dX11_called_15 : decode cX11_called 15 = .ok (.ifCond .eq 15, 3) := by decide +kernel
theorem dX11_called_18 : decode cX11_called 18 = .ok (.aload_n 0, 1) := by decide +kernel
theorem dX11_called_19 : decode cX11_called 19 = .ok (.getfield 75, 3) := by decide +kernel
theorem dX11_called_22 : decode cX11_called 22 = .ok (.iload_n 1, 1) := by decide +kernel
theorem dX11_called_23 : decode cX11_called 23 = .ok (.iload_n 2, 1) := by decide +kernel
theorem dX11_called_24 : decode cX11_called 24 = .ok (.invokevirtual 376, 3) := by decide +kernel
theorem dX11_called_27 : decode cX11_called 27 = .ok (.goto 4, 3) := by decide +kernel
theorem dX11_called_30 : decode cX11_called 30 = .ok (.iconst (-1), 1) := by decide +kernel
theorem dX11_called_31 : decode cX11_called 31 = .ok (.ireturn, 1) := by decide +kernel
theorem dX11_called_4 : decode cX11_called 4 = .ok (.ifCond .eq 26, 3) := by decide +kernel
theorem dX11_called_7 : decode cX11_called 7 = .ok (.aload_n 0, 1) := by decide +kernel
theorem dX11_called_8 : decode cX11_called 8 = .ok (.getfield 12, 3) := by decide +kernel
theorem dX11_cheapest_0 : decode cX11_cheapest 0 = .ok (.bipush (-2), 2) := by decide +kernel
theorem dX11_cheapest_10 : decode cX11_cheapest 10 = .ok (.istore_n 3, 1) := by decide +kernel
theorem dX11_cheapest_11 : decode cX11_cheapest 11 = .ok (.iconst 0, 1) := by decide +kernel
theorem dX11_cheapest_12 : decode cX11_cheapest 12 = .ok (.istore 4, 2) := by decide +kernel
theorem dX11_cheapest_14 : decode cX11_cheapest 14 = .ok (.iload_n 3, 1) := by decide +kernel
theorem dX11_cheapest_15 : decode cX11_cheapest 15 = .ok (.ifCond .eq 79, 3) := by decide +kernel
theorem dX11_cheapest_18 : decode cX11_cheapest 18 = .ok (.iload 4, 2) := by decide +kernel
theorem dX11_cheapest_2 : decode cX11_cheapest 2 = .ok (.istore_n 2, 1) := by decide +kernel
theorem dX11_cheapest_20 : decode cX11_cheapest 20 = .ok (.sipush 6188, 3) := by decide +kernel
theorem dX11_cheapest_23 : decode cX11_cheapest 23 = .ok (.if_icmp .ge 71, 3) := by decide +kernel
theorem dX11_cheapest_26 : decode cX11_cheapest 26 = .ok (.aload_n 0, 1) := by decide +kernel
theorem dX11_cheapest_27 : decode cX11_cheapest 27 = .ok (.getfield 61, 3) := by decide +kernel
theorem dX11_cheapest_3 : decode cX11_cheapest 3 = .ok (.aload_n 0, 1) := by decide +kernel
theorem dX11_cheapest_30 : decode cX11_cheapest 30 = .ok (.invokevirtual 336, 3) := by decide +kernel
theorem dX11_cheapest_33 : decode cX11_cheapest 33 = .ok (.istore 5, 2) := by decide +kernel
theorem dX11_cheapest_35 : decode cX11_cheapest 35 = .ok (.iload 5, 2) := by decide +kernel
theorem dX11_cheapest_37 : decode cX11_cheapest 37 = .ok (.ifCond .lt 17, 3) := by decide +kernel
theorem dX11_cheapest_4 : decode cX11_cheapest 4 = .ok (.getfield 61, 3) := by decide +kernel
theorem dX11_cheapest_40 : decode cX11_cheapest 40 = .ok (.iload_n 2, 1) := by decide +kernel
theorem dX11_cheapest_41 : decode cX11_cheapest 41 = .ok (.ifCond .lt 9, 3) := by decide +kernel
theorem dX11_cheapest_44 : decode cX11_cheapest 44 = .ok (.iload 5, 2) := by decide +kernel
theorem dX11_cheapest_46 : decode cX11_cheapest 46 = .ok (.iload_n 2, 1) := by decide +kernel
theorem dX11_cheapest_47 : decode cX11_cheapest 47 = .ok (.if_icmp .ge 7, 3) := by decide +kernel
theorem dX11_cheapest_50 : decode cX11_cheapest 50 = .ok (.iconst 1, 1) := by decide +kernel
theorem dX11_cheapest_51 : decode cX11_cheapest 51 = .ok (.goto 4, 3) := by decide +kernel
theorem dX11_cheapest_54 : decode cX11_cheapest 54 = .ok (.iconst 0, 1) := by decide +kernel
theorem dX11_cheapest_55 : decode cX11_cheapest 55 = .ok (.istore 6, 2) := by decide +kernel
theorem dX11_cheapest_57 : decode cX11_cheapest 57 = .ok (.iload 6, 2) := by decide +kernel
theorem dX11_cheapest_59 : decode cX11_cheapest 59 = .ok (.ifCond .eq 21, 3) := by decide +kernel
theorem dX11_cheapest_62 : decode cX11_cheapest 62 = .ok (.aload_n 0, 1) := by decide +kernel
theorem dX11_cheapest_63 : decode cX11_cheapest 63 = .ok (.iload_n 1, 1) := by decide +kernel
theorem dX11_cheapest_64 : decode cX11_cheapest 64 = .ok (.invokevirtual 339, 3) := by decide +kernel
theorem dX11_cheapest_67 : decode cX11_cheapest 67 = .ok (.ifCond .eq 13, 3) := by decide +kernel
theorem dX11_cheapest_7 : decode cX11_cheapest 7 = .ok (.invokevirtual 332, 3) := by decide +kernel
theorem dX11_cheapest_70 : decode cX11_cheapest 70 = .ok (.iload 5, 2) := by decide +kernel
theorem dX11_cheapest_72 : decode cX11_cheapest 72 = .ok (.istore_n 2, 1) := by decide +kernel
theorem dX11_cheapest_73 : decode cX11_cheapest 73 = .ok (.aload_n 0, 1) := by decide +kernel
theorem dX11_cheapest_74 : decode cX11_cheapest 74 = .ok (.getfield 61, 3) := by decide +kernel
theorem dX11_cheapest_77 : decode cX11_cheapest 77 = .ok (.invokevirtual 342, 3) := by decide +kernel
theorem dX11_cheapest_80 : decode cX11_cheapest 80 = .ok (.aload_n 0, 1) := by decide +kernel
theorem dX11_cheapest_81 : decode cX11_cheapest 81 = .ok (.getfield 61, 3) := by decide +kernel
theorem dX11_cheapest_84 : decode cX11_cheapest 84 = .ok (.invokevirtual 345, 3) := by decide +kernel
theorem dX11_cheapest_87 : decode cX11_cheapest 87 = .ok (.istore_n 3, 1) := by decide +kernel
theorem dX11_cheapest_88 : decode cX11_cheapest 88 = .ok (.iinc 4 1, 3) := by decide +kernel
theorem dX11_cheapest_91 : decode cX11_cheapest 91 = .ok (.goto (-77), 3) := by decide +kernel
theorem dX11_cheapest_94 : decode cX11_cheapest 94 = .ok (.iload_n 2, 1) := by decide +kernel
theorem dX11_cheapest_95 : decode cX11_cheapest 95 = .ok (.ireturn, 1) := by decide +kernel
theorem dX11_cost_0 : decode cX11_cost 0 = .ok (.iload_n 1, 1) := by decide +kernel
theorem dX11_cost_1 : decode cX11_cost 1 = .ok (.invokestatic 109, 3) := by decide +kernel
theorem dX11_cost_11 : decode cX11_cost 11 = .ok (.invokevirtual 289, 3) := by decide +kernel
theorem dX11_cost_14 : decode cX11_cost 14 = .ok (.bipush 12, 2) := by decide +kernel
theorem dX11_cost_16 : decode cX11_cost 16 = .ok (.if_icmp .eq 5, 3) := by decide +kernel
theorem dX11_cost_19 : decode cX11_cost 19 = .ok (.iconst (-1), 1) := by decide +kernel
theorem dX11_cost_20 : decode cX11_cost 20 = .ok (.ireturn, 1) := by decide +kernel
theorem dX11_cost_21 : decode cX11_cost 21 = .ok (.iconst 0, 1) := by decide +kernel
theorem dX11_cost_22 : decode cX11_cost 22 = .ok (.istore_n 2, 1) := by decide +kernel
theorem dX11_cost_23 : decode cX11_cost 23 = .ok (.iconst 0, 1) := by decide +kernel
theorem dX11_cost_24 : decode cX11_cost 24 = .ok (.istore_n 3, 1) := by decide +kernel
theorem dX11_cost_25 : decode cX11_cost 25 = .ok (.iload_n 3, 1) := by decide +kernel
theorem dX11_cost_26 : decode cX11_cost 26 = .ok (.aload_n 0, 1) := by decide +kernel
theorem dX11_cost_27 : decode cX11_cost 27 = .ok (.getfield 12, 3) := by decide +kernel
theorem dX11_cost_30 : decode cX11_cost 30 = .ok (.getfield 102, 3) := by decide +kernel
theorem dX11_cost_33 : decode cX11_cost 33 = .ok (.if_icmp .ge 31, 3) := by decide +kernel
theorem dX11_cost_36 : decode cX11_cost 36 = .ok (.iload_n 2, 1) := by decide +kernel
theorem dX11_cost_37 : decode cX11_cost 37 = .ok (.aload_n 0, 1) := by decide +kernel
theorem dX11_cost_38 : decode cX11_cost 38 = .ok (.getfield 61, 3) := by decide +kernel
theorem dX11_cost_4 : decode cX11_cost 4 = .ok (.ifCond .eq 15, 3) := by decide +kernel
theorem dX11_cost_41 : decode cX11_cost 41 = .ok (.getfield 286, 3) := by decide +kernel
theorem dX11_cost_44 : decode cX11_cost 44 = .ok (.iload_n 3, 1) := by decide +kernel
theorem dX11_cost_45 : decode cX11_cost 45 = .ok (.iaload, 1) := by decide +kernel
theorem dX11_cost_46 : decode cX11_cost 46 = .ok (.aload_n 0, 1) := by decide +kernel
theorem dX11_cost_47 : decode cX11_cost 47 = .ok (.getfield 12, 3) := by decide +kernel
theorem dX11_cost_50 : decode cX11_cost 50 = .ok (.iload_n 3, 1) := by decide +kernel
theorem dX11_cost_51 : decode cX11_cost 51 = .ok (.iload_n 1, 1) := by decide +kernel
theorem dX11_cost_52 : decode cX11_cost 52 = .ok (.invokevirtual 119, 3) := by decide +kernel
theorem dX11_cost_55 : decode cX11_cost 55 = .ok (.imul, 1) := by decide +kernel
theorem dX11_cost_56 : decode cX11_cost 56 = .ok (.iadd, 1) := by decide +kernel
theorem dX11_cost_57 : decode cX11_cost 57 = .ok (.istore_n 2, 1) := by decide +kernel
theorem dX11_cost_58 : decode cX11_cost 58 = .ok (.iinc 3 1, 3) := by decide +kernel
theorem dX11_cost_61 : decode cX11_cost 61 = .ok (.goto (-36), 3) := by decide +kernel
theorem dX11_cost_64 : decode cX11_cost 64 = .ok (.iload_n 2, 1) := by decide +kernel
theorem dX11_cost_65 : decode cX11_cost 65 = .ok (.ireturn, 1) := by decide +kernel
theorem dX11_cost_7 : decode cX11_cost 7 = .ok (.aload_n 0, 1) := by decide +kernel
theorem dX11_cost_8 : decode cX11_cost 8 = .ok (.getfield 61, 3) := by decide +kernel
theorem dX11_count_0 : decode cX11_count 0 = .ok (.iload_n 1, 1) := by decide +kernel
theorem dX11_count_1 : decode cX11_count 1 = .ok (.tableswitch 168 0 12 #[67, 75, 83, 91, 99, 107, 115, 123, 131, 139, 144, 152, 160], 67) := by decide +kernel
theorem dX11_count_100 : decode cX11_count 100 = .ok (.aload_n 0, 1) := by decide +kernel
theorem dX11_count_101 : decode cX11_count 101 = .ok (.getfield 47, 3) := by decide +kernel
theorem dX11_count_104 : decode cX11_count 104 = .ok (.getfield 238, 3) := by decide +kernel
theorem dX11_count_107 : decode cX11_count 107 = .ok (.ireturn, 1) := by decide +kernel
theorem dX11_count_108 : decode cX11_count 108 = .ok (.aload_n 0, 1) := by decide +kernel
theorem dX11_count_109 : decode cX11_count 109 = .ok (.getfield 54, 3) := by decide +kernel
theorem dX11_count_112 : decode cX11_count 112 = .ok (.invokevirtual 415, 3) := by decide +kernel
theorem dX11_count_115 : decode cX11_count 115 = .ok (.ireturn, 1) := by decide +kernel
theorem dX11_count_116 : decode cX11_count 116 = .ok (.aload_n 0, 1) := by decide +kernel
theorem dX11_count_117 : decode cX11_count 117 = .ok (.getfield 68, 3) := by decide +kernel
theorem dX11_count_120 : decode cX11_count 120 = .ok (.getfield 351, 3) := by decide +kernel
theorem dX11_count_123 : decode cX11_count 123 = .ok (.ireturn, 1) := by decide +kernel
theorem dX11_count_124 : decode cX11_count 124 = .ok (.aload_n 0, 1) := by decide +kernel
theorem dX11_count_125 : decode cX11_count 125 = .ok (.getfield 75, 3) := by decide +kernel
theorem dX11_count_128 : decode cX11_count 128 = .ok (.getfield 374, 3) := by decide +kernel
theorem dX11_count_131 : decode cX11_count 131 = .ok (.ireturn, 1) := by decide +kernel
theorem dX11_count_132 : decode cX11_count 132 = .ok (.aload_n 0, 1) := by decide +kernel
theorem dX11_count_133 : decode cX11_count 133 = .ok (.getfield 82, 3) := by decide +kernel
theorem dX11_count_136 : decode cX11_count 136 = .ok (.getfield 391, 3) := by decide +kernel
theorem dX11_count_139 : decode cX11_count 139 = .ok (.ireturn, 1) := by decide +kernel
theorem dX11_count_140 : decode cX11_count 140 = .ok (.aload_n 0, 1) := by decide +kernel
theorem dX11_count_141 : decode cX11_count 141 = .ok (.getfield 90, 3) := by decide +kernel
theorem dX11_count_144 : decode cX11_count 144 = .ok (.ireturn, 1) := by decide +kernel
theorem dX11_count_145 : decode cX11_count 145 = .ok (.aload_n 0, 1) := by decide +kernel
theorem dX11_count_146 : decode cX11_count 146 = .ok (.getfield 33, 3) := by decide +kernel
theorem dX11_count_149 : decode cX11_count 149 = .ok (.getfield 233, 3) := by decide +kernel
theorem dX11_count_152 : decode cX11_count 152 = .ok (.ireturn, 1) := by decide +kernel
theorem dX11_count_153 : decode cX11_count 153 = .ok (.aload_n 0, 1) := by decide +kernel
theorem dX11_count_154 : decode cX11_count 154 = .ok (.getfield 26, 3) := by decide +kernel
theorem dX11_count_157 : decode cX11_count 157 = .ok (.getfield 182, 3) := by decide +kernel
theorem dX11_count_160 : decode cX11_count 160 = .ok (.ireturn, 1) := by decide +kernel
theorem dX11_count_161 : decode cX11_count 161 = .ok (.aload_n 0, 1) := by decide +kernel
theorem dX11_count_162 : decode cX11_count 162 = .ok (.getfield 61, 3) := by decide +kernel
theorem dX11_count_165 : decode cX11_count 165 = .ok (.invokevirtual 289, 3) := by decide +kernel
theorem dX11_count_168 : decode cX11_count 168 = .ok (.ireturn, 1) := by decide +kernel
theorem dX11_count_169 : decode cX11_count 169 = .ok (.iconst (-1), 1) := by decide +kernel
theorem dX11_count_170 : decode cX11_count 170 = .ok (.ireturn, 1) := by decide +kernel
theorem dX11_count_68 : decode cX11_count 68 = .ok (.aload_n 0, 1) := by decide +kernel
theorem dX11_count_69 : decode cX11_count 69 = .ok (.getfield 12, 3) := by decide +kernel
theorem dX11_count_72 : decode cX11_count 72 = .ok (.getfield 102, 3) := by decide +kernel
theorem dX11_count_75 : decode cX11_count 75 = .ok (.ireturn, 1) := by decide +kernel
theorem dX11_count_76 : decode cX11_count 76 = .ok (.aload_n 0, 1) := by decide +kernel
theorem dX11_count_77 : decode cX11_count 77 = .ok (.getfield 12, 3) := by decide +kernel
theorem dX11_count_80 : decode cX11_count 80 = .ok (.getfield 112, 3) := by decide +kernel
theorem dX11_count_83 : decode cX11_count 83 = .ok (.ireturn, 1) := by decide +kernel
theorem dX11_count_84 : decode cX11_count 84 = .ok (.aload_n 0, 1) := by decide +kernel
theorem dX11_count_85 : decode cX11_count 85 = .ok (.getfield 19, 3) := by decide +kernel
theorem dX11_count_88 : decode cX11_count 88 = .ok (.getfield 133, 3) := by decide +kernel
theorem dX11_count_91 : decode cX11_count 91 = .ok (.ireturn, 1) := by decide +kernel
theorem dX11_count_92 : decode cX11_count 92 = .ok (.aload_n 0, 1) := by decide +kernel
theorem dX11_count_93 : decode cX11_count 93 = .ok (.getfield 26, 3) := by decide +kernel
theorem dX11_count_96 : decode cX11_count 96 = .ok (.getfield 179, 3) := by decide +kernel
theorem dX11_count_99 : decode cX11_count 99 = .ok (.ireturn, 1) := by decide +kernel
theorem dX11_due_0 : decode cX11_due 0 = .ok (.aload_n 0, 1) := by decide +kernel
theorem dX11_due_1 : decode cX11_due 1 = .ok (.getfield 19, 3) := by decide +kernel
theorem dX11_due_11 : decode cX11_due 11 = .ok (.iconst (-1), 1) := by decide +kernel
theorem dX11_due_12 : decode cX11_due 12 = .ok (.ireturn, 1) := by decide +kernel
theorem dX11_due_13 : decode cX11_due 13 = .ok (.aload_n 0, 1) := by decide +kernel
theorem dX11_due_14 : decode cX11_due 14 = .ok (.iload_n 1, 1) := by decide +kernel
theorem dX11_due_15 : decode cX11_due 15 = .ok (.iconst 0, 1) := by decide +kernel
theorem dX11_due_16 : decode cX11_due 16 = .ok (.invokevirtual 185, 3) := by decide +kernel
theorem dX11_due_19 : decode cX11_due 19 = .ok (.istore_n 2, 1) := by decide +kernel
theorem dX11_due_20 : decode cX11_due 20 = .ok (.aload_n 0, 1) := by decide +kernel
theorem dX11_due_21 : decode cX11_due 21 = .ok (.iload_n 1, 1) := by decide +kernel
theorem dX11_due_22 : decode cX11_due 22 = .ok (.iconst 1, 1) := by decide +kernel
theorem dX11_due_23 : decode cX11_due 23 = .ok (.invokevirtual 185, 3) := by decide +kernel
theorem dX11_due_26 : decode cX11_due 26 = .ok (.istore_n 3, 1) := by decide +kernel
theorem dX11_due_27 : decode cX11_due 27 = .ok (.iload_n 2, 1) := by decide +kernel
theorem dX11_due_28 : decode cX11_due 28 = .ok (.iconst (-1), 1) := by decide +kernel
theorem dX11_due_29 : decode cX11_due 29 = .ok (.if_icmp .eq 18, 3) := by decide +kernel
theorem dX11_due_32 : decode cX11_due 32 = .ok (.iload_n 3, 1) := by decide +kernel
theorem dX11_due_33 : decode cX11_due 33 = .ok (.iconst (-1), 1) := by decide +kernel
theorem dX11_due_34 : decode cX11_due 34 = .ok (.if_icmp .eq 13, 3) := by decide +kernel
theorem dX11_due_37 : decode cX11_due 37 = .ok (.iload_n 2, 1) := by decide +kernel
theorem dX11_due_38 : decode cX11_due 38 = .ok (.iload_n 3, 1) := by decide +kernel
theorem dX11_due_39 : decode cX11_due 39 = .ok (.iadd, 1) := by decide +kernel
theorem dX11_due_4 : decode cX11_due 4 = .ok (.iload_n 1, 1) := by decide +kernel
theorem dX11_due_40 : decode cX11_due 40 = .ok (.iconst 2, 1) := by decide +kernel
theorem dX11_due_41 : decode cX11_due 41 = .ok (.idiv, 1) := by decide +kernel
theorem dX11_due_42 : decode cX11_due 42 = .ok (.istore 4, 2) := by decide +kernel
theorem dX11_due_44 : decode cX11_due 44 = .ok (.goto 14, 3) := by decide +kernel
theorem dX11_due_47 : decode cX11_due 47 = .ok (.iconst 0, 1) := by decide +kernel
theorem dX11_due_48 : decode cX11_due 48 = .ok (.iload_n 2, 1) := by decide +kernel
theorem dX11_due_49 : decode cX11_due 49 = .ok (.iload_n 3, 1) := by decide +kernel
theorem dX11_due_5 : decode cX11_due 5 = .ok (.invokevirtual 137, 3) := by decide +kernel
theorem dX11_due_50 : decode cX11_due 50 = .ok (.invokestatic 188, 3) := by decide +kernel
theorem dX11_due_53 : decode cX11_due 53 = .ok (.invokestatic 188, 3) := by decide +kernel
theorem dX11_due_56 : decode cX11_due 56 = .ok (.istore 4, 2) := by decide +kernel
theorem dX11_due_58 : decode cX11_due 58 = .ok (.aload_n 0, 1) := by decide +kernel
theorem dX11_due_59 : decode cX11_due 59 = .ok (.getfield 19, 3) := by decide +kernel
theorem dX11_due_62 : decode cX11_due 62 = .ok (.getfield 144, 3) := by decide +kernel
theorem dX11_due_65 : decode cX11_due 65 = .ok (.iload_n 1, 1) := by decide +kernel
theorem dX11_due_66 : decode cX11_due 66 = .ok (.iaload, 1) := by decide +kernel
theorem dX11_due_67 : decode cX11_due 67 = .ok (.i2l, 1) := by decide +kernel
theorem dX11_due_68 : decode cX11_due 68 = .ok (.aload_n 0, 1) := by decide +kernel
theorem dX11_due_69 : decode cX11_due 69 = .ok (.getfield 19, 3) := by decide +kernel
theorem dX11_due_72 : decode cX11_due 72 = .ok (.getfield 193, 3) := by decide +kernel
theorem dX11_due_75 : decode cX11_due 75 = .ok (.iload_n 1, 1) := by decide +kernel
theorem dX11_due_76 : decode cX11_due 76 = .ok (.iaload, 1) := by decide +kernel
theorem dX11_due_77 : decode cX11_due 77 = .ok (.i2l, 1) := by decide +kernel
theorem dX11_due_78 : decode cX11_due 78 = .ok (.lmul, 1) := by decide +kernel
theorem dX11_due_79 : decode cX11_due 79 = .ok (.sipush 1000, 3) := by decide +kernel
theorem dX11_due_8 : decode cX11_due 8 = .ok (.ifCond .ne 5, 3) := by decide +kernel
theorem dX11_due_82 : decode cX11_due 82 = .ok (.iload 4, 2) := by decide +kernel
theorem dX11_due_84 : decode cX11_due 84 = .ok (.isub, 1) := by decide +kernel
theorem dX11_due_85 : decode cX11_due 85 = .ok (.i2l, 1) := by decide +kernel
theorem dX11_due_86 : decode cX11_due 86 = .ok (.lmul, 1) := by decide +kernel
theorem dX11_due_87 : decode cX11_due 87 = .ok (.ldc2_w 196, 3) := by decide +kernel
theorem dX11_due_90 : decode cX11_due 90 = .ok (.ldiv, 1) := by decide +kernel
theorem dX11_due_91 : decode cX11_due 91 = .ok (.l2i, 1) := by decide +kernel
theorem dX11_due_92 : decode cX11_due 92 = .ok (.ireturn, 1) := by decide +kernel
theorem dX11_end_0 : decode cX11_end 0 = .ok (.iload_n 1, 1) := by decide +kernel
theorem dX11_end_1 : decode cX11_end 1 = .ok (.iconst 0, 1) := by decide +kernel
theorem dX11_end_12 : decode cX11_end 12 = .ok (.ifCond .ne 5, 3) := by decide +kernel
theorem dX11_end_15 : decode cX11_end 15 = .ok (.iconst 0, 1) := by decide +kernel
theorem dX11_end_16 : decode cX11_end 16 = .ok (.ireturn, 1) := by decide +kernel
theorem dX11_end_17 : decode cX11_end 17 = .ok (.aload_n 0, 1) := by decide +kernel
theorem dX11_end_18 : decode cX11_end 18 = .ok (.getfield 33, 3) := by decide +kernel
theorem dX11_end_2 : decode cX11_end 2 = .ok (.aload_n 0, 1) := by decide +kernel
theorem dX11_end_21 : decode cX11_end 21 = .ok (.iload_n 1, 1) := by decide +kernel
theorem dX11_end_22 : decode cX11_end 22 = .ok (.putfield 233, 3) := by decide +kernel
theorem dX11_end_25 : decode cX11_end 25 = .ok (.iconst 1, 1) := by decide +kernel
theorem dX11_end_26 : decode cX11_end 26 = .ok (.ireturn, 1) := by decide +kernel
theorem dX11_end_3 : decode cX11_end 3 = .ok (.getfield 33, 3) := by decide +kernel
theorem dX11_end_6 : decode cX11_end 6 = .ok (.getfield 233, 3) := by decide +kernel
theorem dX11_end_9 : decode cX11_end 9 = .ok (.invokestatic 94, 3) := by decide +kernel
theorem dX11_entry_0 : decode cX11_entry 0 = .ok (.iload_n 0, 1) := by decide +kernel
theorem dX11_entry_1 : decode cX11_entry 1 = .ok (.lookupswitch 33 #[(0, 27), (1, 30)], 27) := by decide +kernel
theorem dX11_entry_28 : decode cX11_entry 28 = .ok (.iload_n 1, 1) := by decide +kernel
theorem dX11_entry_29 : decode cX11_entry 29 = .ok (.i2b, 1) := by decide +kernel
theorem dX11_entry_30 : decode cX11_entry 30 = .ok (.ireturn, 1) := by decide +kernel
theorem dX11_entry_31 : decode cX11_entry 31 = .ok (.iload_n 1, 1) := by decide +kernel
theorem dX11_entry_32 : decode cX11_entry 32 = .ok (.i2s, 1) := by decide +kernel
theorem dX11_entry_33 : decode cX11_entry 33 = .ok (.ireturn, 1) := by decide +kernel
theorem dX11_entry_34 : decode cX11_entry 34 = .ok (.iload_n 1, 1) := by decide +kernel
theorem dX11_entry_35 : decode cX11_entry 35 = .ok (.ireturn, 1) := by decide +kernel
theorem dX11_eye_0 : decode cX11_eye 0 = .ok (.iload_n 1, 1) := by decide +kernel
theorem dX11_eye_1 : decode cX11_eye 1 = .ok (.invokestatic 138, 3) := by decide +kernel
theorem dX11_eye_11 : decode cX11_eye 11 = .ok (.iload_n 1, 1) := by decide +kernel
theorem dX11_eye_12 : decode cX11_eye 12 = .ok (.iconst (-1), 1) := by decide +kernel
theorem dX11_eye_13 : decode cX11_eye 13 = .ok (.invokevirtual 260, 3) := by decide +kernel
theorem dX11_eye_16 : decode cX11_eye 16 = .ok (.goto 4, 3) := by decide +kernel
theorem dX11_eye_19 : decode cX11_eye 19 = .ok (.iconst (-1), 1) := by decide +kernel
theorem dX11_eye_20 : decode cX11_eye 20 = .ok (.ireturn, 1) := by decide +kernel
theorem dX11_eye_4 : decode cX11_eye 4 = .ok (.ifCond .eq 15, 3) := by decide +kernel
theorem dX11_eye_7 : decode cX11_eye 7 = .ok (.aload_n 0, 1) := by decide +kernel
theorem dX11_eye_8 : decode cX11_eye 8 = .ok (.getfield 75, 3) := by decide +kernel
theorem dX11_fault_0 : decode cX11_fault 0 = .ok (.aload_n 0, 1) := by decide +kernel
theorem dX11_fault_1 : decode cX11_fault 1 = .ok (.getfield 68, 3) := by decide +kernel
theorem dX11_fault_11 : decode cX11_fault 11 = .ok (.iload_n 2, 1) := by decide +kernel
theorem dX11_fault_12 : decode cX11_fault 12 = .ok (.iconst 0, 1) := by decide +kernel
theorem dX11_fault_13 : decode cX11_fault 13 = .ok (.iconst 2, 1) := by decide +kernel
theorem dX11_fault_14 : decode cX11_fault 14 = .ok (.invokestatic 94, 3) := by decide +kernel
theorem dX11_fault_17 : decode cX11_fault 17 = .ok (.ifCond .ne 5, 3) := by decide +kernel
theorem dX11_fault_20 : decode cX11_fault 20 = .ok (.iconst (-1), 1) := by decide +kernel
theorem dX11_fault_21 : decode cX11_fault 21 = .ok (.ireturn, 1) := by decide +kernel
theorem dX11_fault_22 : decode cX11_fault 22 = .ok (.aload_n 0, 1) := by decide +kernel
theorem dX11_fault_23 : decode cX11_fault 23 = .ok (.getfield 68, 3) := by decide +kernel
theorem dX11_fault_26 : decode cX11_fault 26 = .ok (.getfield 362, 3) := by decide +kernel
theorem dX11_fault_29 : decode cX11_fault 29 = .ok (.iload_n 1, 1) := by decide +kernel
theorem dX11_fault_30 : decode cX11_fault 30 = .ok (.iaload, 1) := by decide +kernel
theorem dX11_fault_31 : decode cX11_fault 31 = .ok (.istore_n 3, 1) := by decide +kernel
theorem dX11_fault_32 : decode cX11_fault 32 = .ok (.aload_n 0, 1) := by decide +kernel
theorem dX11_fault_33 : decode cX11_fault 33 = .ok (.getfield 68, 3) := by decide +kernel
theorem dX11_fault_36 : decode cX11_fault 36 = .ok (.getfield 362, 3) := by decide +kernel
theorem dX11_fault_39 : decode cX11_fault 39 = .ok (.iload_n 1, 1) := by decide +kernel
theorem dX11_fault_4 : decode cX11_fault 4 = .ok (.iload_n 1, 1) := by decide +kernel
theorem dX11_fault_40 : decode cX11_fault 40 = .ok (.iload_n 2, 1) := by decide +kernel
theorem dX11_fault_41 : decode cX11_fault 41 = .ok (.iastore, 1) := by decide +kernel
theorem dX11_fault_42 : decode cX11_fault 42 = .ok (.iload_n 3, 1) := by decide +kernel
theorem dX11_fault_43 : decode cX11_fault 43 = .ok (.ireturn, 1) := by decide +kernel
theorem dX11_fault_5 : decode cX11_fault 5 = .ok (.invokevirtual 358, 3) := by decide +kernel
theorem dX11_fault_8 : decode cX11_fault 8 = .ok (.ifCond .eq 12, 3) := by decide +kernel
theorem dX11_fire_0 : decode cX11_fire 0 = .ok (.iload_n 1, 1) := by decide +kernel
theorem dX11_fire_1 : decode cX11_fire 1 = .ok (.iconst 0, 1) := by decide +kernel
theorem dX11_fire_11 : decode cX11_fire 11 = .ok (.aload_n 0, 1) := by decide +kernel
theorem dX11_fire_12 : decode cX11_fire 12 = .ok (.getfield 54, 3) := by decide +kernel
theorem dX11_fire_15 : decode cX11_fire 15 = .ok (.iload_n 1, 1) := by decide +kernel
theorem dX11_fire_16 : decode cX11_fire 16 = .ok (.aload_n 0, 1) := by decide +kernel
theorem dX11_fire_17 : decode cX11_fire 17 = .ok (.getfield 19, 3) := by decide +kernel
theorem dX11_fire_2 : decode cX11_fire 2 = .ok (.sipush 1000, 3) := by decide +kernel
theorem dX11_fire_20 : decode cX11_fire 20 = .ok (.getfield 176, 3) := by decide +kernel
theorem dX11_fire_23 : decode cX11_fire 23 = .ok (.invokevirtual 266, 3) := by decide +kernel
theorem dX11_fire_26 : decode cX11_fire 26 = .ok (.goto 4, 3) := by decide +kernel
theorem dX11_fire_29 : decode cX11_fire 29 = .ok (.iconst (-1), 1) := by decide +kernel
theorem dX11_fire_30 : decode cX11_fire 30 = .ok (.ireturn, 1) := by decide +kernel
theorem dX11_fire_5 : decode cX11_fire 5 = .ok (.invokestatic 94, 3) := by decide +kernel
theorem dX11_fire_8 : decode cX11_fire 8 = .ok (.ifCond .eq 21, 3) := by decide +kernel
theorem dX11_foretell_0 : decode cX11_foretell 0 = .ok (.iload_n 1, 1) := by decide +kernel
theorem dX11_foretell_1 : decode cX11_foretell 1 = .ok (.invokestatic 127, 3) := by decide +kernel
theorem dX11_foretell_101 : decode cX11_foretell 101 = .ok (.aload_n 0, 1) := by decide +kernel
theorem dX11_foretell_102 : decode cX11_foretell 102 = .ok (.iload 7, 2) := by decide +kernel
theorem dX11_foretell_104 : decode cX11_foretell 104 = .ok (.iload_n 3, 1) := by decide +kernel
theorem dX11_foretell_105 : decode cX11_foretell 105 = .ok (.invokevirtual 371, 3) := by decide +kernel
theorem dX11_foretell_108 : decode cX11_foretell 108 = .ok (.aload_n 0, 1) := by decide +kernel
theorem dX11_foretell_109 : decode cX11_foretell 109 = .ok (.getfield 19, 3) := by decide +kernel
theorem dX11_foretell_112 : decode cX11_foretell 112 = .ok (.getfield 144, 3) := by decide +kernel
theorem dX11_foretell_115 : decode cX11_foretell 115 = .ok (.iload 7, 2) := by decide +kernel
theorem dX11_foretell_117 : decode cX11_foretell 117 = .ok (.iaload, 1) := by decide +kernel
theorem dX11_foretell_118 : decode cX11_foretell 118 = .ok (.invokestatic 208, 3) := by decide +kernel
theorem dX11_foretell_12 : decode cX11_foretell 12 = .ok (.iload_n 2, 1) := by decide +kernel
theorem dX11_foretell_121 : decode cX11_foretell 121 = .ok (.istore 8, 2) := by decide +kernel
theorem dX11_foretell_123 : decode cX11_foretell 123 = .ok (.iload 6, 2) := by decide +kernel
theorem dX11_foretell_125 : decode cX11_foretell 125 = .ok (.ifCond .ne 8, 3) := by decide +kernel
theorem dX11_foretell_128 : decode cX11_foretell 128 = .ok (.iload 8, 2) := by decide +kernel
theorem dX11_foretell_13 : decode cX11_foretell 13 = .ok (.invokestatic 130, 3) := by decide +kernel
theorem dX11_foretell_130 : decode cX11_foretell 130 = .ok (.goto 10, 3) := by decide +kernel
theorem dX11_foretell_133 : decode cX11_foretell 133 = .ok (.iload 4, 2) := by decide +kernel
theorem dX11_foretell_135 : decode cX11_foretell 135 = .ok (.iload 8, 2) := by decide +kernel
theorem dX11_foretell_137 : decode cX11_foretell 137 = .ok (.invokestatic 227, 3) := by decide +kernel
theorem dX11_foretell_140 : decode cX11_foretell 140 = .ok (.istore 4, 2) := by decide +kernel
theorem dX11_foretell_142 : decode cX11_foretell 142 = .ok (.iload 5, 2) := by decide +kernel
theorem dX11_foretell_144 : decode cX11_foretell 144 = .ok (.iload 8, 2) := by decide +kernel
theorem dX11_foretell_146 : decode cX11_foretell 146 = .ok (.invokestatic 188, 3) := by decide +kernel
theorem dX11_foretell_149 : decode cX11_foretell 149 = .ok (.istore 5, 2) := by decide +kernel
theorem dX11_foretell_151 : decode cX11_foretell 151 = .ok (.iinc 6 1, 3) := by decide +kernel
theorem dX11_foretell_154 : decode cX11_foretell 154 = .ok (.iinc 7 1, 3) := by decide +kernel
theorem dX11_foretell_157 : decode cX11_foretell 157 = .ok (.goto (-113), 3) := by decide +kernel
theorem dX11_foretell_16 : decode cX11_foretell 16 = .ok (.ifCond .eq 14, 3) := by decide +kernel
theorem dX11_foretell_160 : decode cX11_foretell 160 = .ok (.iload 6, 2) := by decide +kernel
theorem dX11_foretell_162 : decode cX11_foretell 162 = .ok (.ifCond .ne 5, 3) := by decide +kernel
theorem dX11_foretell_165 : decode cX11_foretell 165 = .ok (.iconst (-1), 1) := by decide +kernel
theorem dX11_foretell_166 : decode cX11_foretell 166 = .ok (.ireturn, 1) := by decide +kernel
theorem dX11_foretell_167 : decode cX11_foretell 167 = .ok (.aload_n 0, 1) := by decide +kernel
theorem dX11_foretell_168 : decode cX11_foretell 168 = .ok (.iconst 0, 1) := by decide +kernel
theorem dX11_foretell_169 : decode cX11_foretell 169 = .ok (.putfield 90, 3) := by decide +kernel
theorem dX11_foretell_172 : decode cX11_foretell 172 = .ok (.aload_n 0, 1) := by decide +kernel
theorem dX11_foretell_173 : decode cX11_foretell 173 = .ok (.iload 4, 2) := by decide +kernel
theorem dX11_foretell_175 : decode cX11_foretell 175 = .ok (.invokevirtual 359, 3) := by decide +kernel
theorem dX11_foretell_178 : decode cX11_foretell 178 = .ok (.aload_n 0, 1) := by decide +kernel
theorem dX11_foretell_179 : decode cX11_foretell 179 = .ok (.iload 5, 2) := by decide +kernel
theorem dX11_foretell_181 : decode cX11_foretell 181 = .ok (.invokevirtual 359, 3) := by decide +kernel
theorem dX11_foretell_184 : decode cX11_foretell 184 = .ok (.aload_n 0, 1) := by decide +kernel
theorem dX11_foretell_185 : decode cX11_foretell 185 = .ok (.iload 6, 2) := by decide +kernel
theorem dX11_foretell_187 : decode cX11_foretell 187 = .ok (.invokevirtual 359, 3) := by decide +kernel
theorem dX11_foretell_19 : decode cX11_foretell 19 = .ok (.aload_n 0, 1) := by decide +kernel
theorem dX11_foretell_190 : decode cX11_foretell 190 = .ok (.iload 4, 2) := by decide +kernel
theorem dX11_foretell_192 : decode cX11_foretell 192 = .ok (.ireturn, 1) := by decide +kernel
theorem dX11_foretell_20 : decode cX11_foretell 20 = .ok (.getfield 12, 3) := by decide +kernel
theorem dX11_foretell_23 : decode cX11_foretell 23 = .ok (.iload_n 3, 1) := by decide +kernel
theorem dX11_foretell_24 : decode cX11_foretell 24 = .ok (.invokevirtual 98, 3) := by decide +kernel
theorem dX11_foretell_27 : decode cX11_foretell 27 = .ok (.ifCond .ne 5, 3) := by decide +kernel
theorem dX11_foretell_30 : decode cX11_foretell 30 = .ok (.iconst (-1), 1) := by decide +kernel
theorem dX11_foretell_31 : decode cX11_foretell 31 = .ok (.ireturn, 1) := by decide +kernel
theorem dX11_foretell_32 : decode cX11_foretell 32 = .ok (.iconst (-1), 1) := by decide +kernel
theorem dX11_foretell_33 : decode cX11_foretell 33 = .ok (.istore 4, 2) := by decide +kernel
theorem dX11_foretell_35 : decode cX11_foretell 35 = .ok (.iconst (-1), 1) := by decide +kernel
theorem dX11_foretell_36 : decode cX11_foretell 36 = .ok (.istore 5, 2) := by decide +kernel
theorem dX11_foretell_38 : decode cX11_foretell 38 = .ok (.iconst 0, 1) := by decide +kernel
theorem dX11_foretell_39 : decode cX11_foretell 39 = .ok (.istore 6, 2) := by decide +kernel
theorem dX11_foretell_4 : decode cX11_foretell 4 = .ok (.ifCond .eq 26, 3) := by decide +kernel
theorem dX11_foretell_41 : decode cX11_foretell 41 = .ok (.iconst 0, 1) := by decide +kernel
theorem dX11_foretell_42 : decode cX11_foretell 42 = .ok (.istore 7, 2) := by decide +kernel
theorem dX11_foretell_44 : decode cX11_foretell 44 = .ok (.iload 7, 2) := by decide +kernel
theorem dX11_foretell_46 : decode cX11_foretell 46 = .ok (.aload_n 0, 1) := by decide +kernel
theorem dX11_foretell_47 : decode cX11_foretell 47 = .ok (.getfield 19, 3) := by decide +kernel
theorem dX11_foretell_50 : decode cX11_foretell 50 = .ok (.getfield 133, 3) := by decide +kernel
theorem dX11_foretell_53 : decode cX11_foretell 53 = .ok (.if_icmp .ge 107, 3) := by decide +kernel
theorem dX11_foretell_56 : decode cX11_foretell 56 = .ok (.aload_n 0, 1) := by decide +kernel
theorem dX11_foretell_57 : decode cX11_foretell 57 = .ok (.getfield 19, 3) := by decide +kernel
theorem dX11_foretell_60 : decode cX11_foretell 60 = .ok (.iload 7, 2) := by decide +kernel
theorem dX11_foretell_62 : decode cX11_foretell 62 = .ok (.invokevirtual 141, 3) := by decide +kernel
theorem dX11_foretell_65 : decode cX11_foretell 65 = .ok (.ifCond .eq 89, 3) := by decide +kernel
theorem dX11_foretell_68 : decode cX11_foretell 68 = .ok (.aload_n 0, 1) := by decide +kernel
theorem dX11_foretell_69 : decode cX11_foretell 69 = .ok (.getfield 19, 3) := by decide +kernel
theorem dX11_foretell_7 : decode cX11_foretell 7 = .ok (.iload_n 2, 1) := by decide +kernel
theorem dX11_foretell_72 : decode cX11_foretell 72 = .ok (.getfield 221, 3) := by decide +kernel
theorem dX11_foretell_75 : decode cX11_foretell 75 = .ok (.iload 7, 2) := by decide +kernel
theorem dX11_foretell_77 : decode cX11_foretell 77 = .ok (.iaload, 1) := by decide +kernel
theorem dX11_foretell_78 : decode cX11_foretell 78 = .ok (.iload_n 1, 1) := by decide +kernel
theorem dX11_foretell_79 : decode cX11_foretell 79 = .ok (.if_icmp .ne 75, 3) := by decide +kernel
theorem dX11_foretell_8 : decode cX11_foretell 8 = .ok (.iconst (-1), 1) := by decide +kernel
theorem dX11_foretell_82 : decode cX11_foretell 82 = .ok (.iload_n 2, 1) := by decide +kernel
theorem dX11_foretell_83 : decode cX11_foretell 83 = .ok (.iconst (-1), 1) := by decide +kernel
theorem dX11_foretell_84 : decode cX11_foretell 84 = .ok (.if_icmp .eq 17, 3) := by decide +kernel
theorem dX11_foretell_87 : decode cX11_foretell 87 = .ok (.aload_n 0, 1) := by decide +kernel
theorem dX11_foretell_88 : decode cX11_foretell 88 = .ok (.getfield 19, 3) := by decide +kernel
theorem dX11_foretell_9 : decode cX11_foretell 9 = .ok (.if_icmp .eq 10, 3) := by decide +kernel
theorem dX11_foretell_91 : decode cX11_foretell 91 = .ok (.getfield 215, 3) := by decide +kernel
theorem dX11_foretell_94 : decode cX11_foretell 94 = .ok (.iload 7, 2) := by decide +kernel
theorem dX11_foretell_96 : decode cX11_foretell 96 = .ok (.iaload, 1) := by decide +kernel
theorem dX11_foretell_97 : decode cX11_foretell 97 = .ok (.iload_n 2, 1) := by decide +kernel
theorem dX11_foretell_98 : decode cX11_foretell 98 = .ok (.if_icmp .ne 56, 3) := by decide +kernel
theorem dX11_gives_0 : decode cX11_gives 0 = .ok (.iload_n 1, 1) := by decide +kernel
theorem dX11_gives_1 : decode cX11_gives 1 = .ok (.invokestatic 382, 3) := by decide +kernel
theorem dX11_gives_11 : decode cX11_gives 11 = .ok (.iload_n 2, 1) := by decide +kernel
theorem dX11_gives_12 : decode cX11_gives 12 = .ok (.invokevirtual 397, 3) := by decide +kernel
theorem dX11_gives_15 : decode cX11_gives 15 = .ok (.ifCond .eq 15, 3) := by decide +kernel
theorem dX11_gives_18 : decode cX11_gives 18 = .ok (.aload_n 0, 1) := by decide +kernel
theorem dX11_gives_19 : decode cX11_gives 19 = .ok (.getfield 82, 3) := by decide +kernel
theorem dX11_gives_22 : decode cX11_gives 22 = .ok (.iload_n 1, 1) := by decide +kernel
theorem dX11_gives_23 : decode cX11_gives 23 = .ok (.iload_n 2, 1) := by decide +kernel
theorem dX11_gives_24 : decode cX11_gives 24 = .ok (.invokevirtual 400, 3) := by decide +kernel
theorem dX11_gives_27 : decode cX11_gives 27 = .ok (.goto 4, 3) := by decide +kernel
theorem dX11_gives_30 : decode cX11_gives 30 = .ok (.iconst (-1), 1) := by decide +kernel
theorem dX11_gives_31 : decode cX11_gives 31 = .ok (.ireturn, 1) := by decide +kernel
theorem dX11_gives_4 : decode cX11_gives 4 = .ok (.ifCond .eq 26, 3) := by decide +kernel
theorem dX11_gives_7 : decode cX11_gives 7 = .ok (.aload_n 0, 1) := by decide +kernel
theorem dX11_gives_8 : decode cX11_gives 8 = .ok (.getfield 82, 3) := by decide +kernel
theorem dX11_hasFor_0 : decode cX11_hasFor 0 = .ok (.iconst 0, 1) := by decide +kernel
theorem dX11_hasFor_1 : decode cX11_hasFor 1 = .ok (.istore_n 2, 1) := by decide +kernel
theorem dX11_hasFor_10 : decode cX11_hasFor 10 = .ok (.if_icmp .ge 33, 3) := by decide +kernel
theorem dX11_hasFor_13 : decode cX11_hasFor 13 = .ok (.aload_n 0, 1) := by decide +kernel
theorem dX11_hasFor_14 : decode cX11_hasFor 14 = .ok (.getfield 54, 3) := by decide +kernel
theorem dX11_hasFor_17 : decode cX11_hasFor 17 = .ok (.iload_n 2, 1) := by decide +kernel
theorem dX11_hasFor_18 : decode cX11_hasFor 18 = .ok (.invokevirtual 263, 3) := by decide +kernel
theorem dX11_hasFor_2 : decode cX11_hasFor 2 = .ok (.iload_n 2, 1) := by decide +kernel
theorem dX11_hasFor_21 : decode cX11_hasFor 21 = .ok (.aload_n 0, 1) := by decide +kernel
theorem dX11_hasFor_22 : decode cX11_hasFor 22 = .ok (.getfield 61, 3) := by decide +kernel
theorem dX11_hasFor_25 : decode cX11_hasFor 25 = .ok (.getfield 286, 3) := by decide +kernel
theorem dX11_hasFor_28 : decode cX11_hasFor 28 = .ok (.iload_n 2, 1) := by decide +kernel
theorem dX11_hasFor_29 : decode cX11_hasFor 29 = .ok (.iaload, 1) := by decide +kernel
theorem dX11_hasFor_3 : decode cX11_hasFor 3 = .ok (.aload_n 0, 1) := by decide +kernel
theorem dX11_hasFor_30 : decode cX11_hasFor 30 = .ok (.iload_n 1, 1) := by decide +kernel
theorem dX11_hasFor_31 : decode cX11_hasFor 31 = .ok (.imul, 1) := by decide +kernel
theorem dX11_hasFor_32 : decode cX11_hasFor 32 = .ok (.if_icmp .ge 5, 3) := by decide +kernel
theorem dX11_hasFor_35 : decode cX11_hasFor 35 = .ok (.iconst 0, 1) := by decide +kernel
theorem dX11_hasFor_36 : decode cX11_hasFor 36 = .ok (.ireturn, 1) := by decide +kernel
theorem dX11_hasFor_37 : decode cX11_hasFor 37 = .ok (.iinc 2 1, 3) := by decide +kernel
theorem dX11_hasFor_4 : decode cX11_hasFor 4 = .ok (.getfield 12, 3) := by decide +kernel
theorem dX11_hasFor_40 : decode cX11_hasFor 40 = .ok (.goto (-38), 3) := by decide +kernel
theorem dX11_hasFor_43 : decode cX11_hasFor 43 = .ok (.iconst 1, 1) := by decide +kernel
theorem dX11_hasFor_44 : decode cX11_hasFor 44 = .ok (.ireturn, 1) := by decide +kernel
theorem dX11_hasFor_7 : decode cX11_hasFor 7 = .ok (.getfield 102, 3) := by decide +kernel
theorem dX11_holdsTrial_0 : decode cX11_holdsTrial 0 = .ok (.aload_n 0, 1) := by decide +kernel
theorem dX11_holdsTrial_1 : decode cX11_holdsTrial 1 = .ok (.aload_n 0, 1) := by decide +kernel
theorem dX11_holdsTrial_11 : decode cX11_holdsTrial 11 = .ok (.aload_n 0, 1) := by decide +kernel
theorem dX11_holdsTrial_12 : decode cX11_holdsTrial 12 = .ok (.getfield 47, 3) := by decide +kernel
theorem dX11_holdsTrial_15 : decode cX11_holdsTrial 15 = .ok (.iload_n 1, 1) := by decide +kernel
theorem dX11_holdsTrial_16 : decode cX11_holdsTrial 16 = .ok (.invokevirtual 300, 3) := by decide +kernel
theorem dX11_holdsTrial_19 : decode cX11_holdsTrial 19 = .ok (.bipush (-2), 2) := by decide +kernel
theorem dX11_holdsTrial_2 : decode cX11_holdsTrial 2 = .ok (.getfield 61, 3) := by decide +kernel
theorem dX11_holdsTrial_21 : decode cX11_holdsTrial 21 = .ok (.if_icmp .ne 7, 3) := by decide +kernel
theorem dX11_holdsTrial_24 : decode cX11_holdsTrial 24 = .ok (.iconst 1, 1) := by decide +kernel
theorem dX11_holdsTrial_25 : decode cX11_holdsTrial 25 = .ok (.goto 4, 3) := by decide +kernel
theorem dX11_holdsTrial_28 : decode cX11_holdsTrial 28 = .ok (.iconst 0, 1) := by decide +kernel
theorem dX11_holdsTrial_29 : decode cX11_holdsTrial 29 = .ok (.ireturn, 1) := by decide +kernel
theorem dX11_holdsTrial_5 : decode cX11_holdsTrial 5 = .ok (.getfield 348, 3) := by decide +kernel
theorem dX11_holdsTrial_8 : decode cX11_holdsTrial 8 = .ok (.invokevirtual 296, 3) := by decide +kernel
theorem dX11_inThousand_0 : decode cX11_inThousand 0 = .ok (.iload_n 1, 1) := by decide +kernel
theorem dX11_inThousand_1 : decode cX11_inThousand 1 = .ok (.ifCond .le 16, 3) := by decide +kernel
theorem dX11_inThousand_10 : decode cX11_inThousand 10 = .ok (.iload_n 1, 1) := by decide +kernel
theorem dX11_inThousand_11 : decode cX11_inThousand 11 = .ok (.i2l, 1) := by decide +kernel
theorem dX11_inThousand_12 : decode cX11_inThousand 12 = .ok (.ldiv, 1) := by decide +kernel
theorem dX11_inThousand_13 : decode cX11_inThousand 13 = .ok (.l2i, 1) := by decide +kernel
theorem dX11_inThousand_14 : decode cX11_inThousand 14 = .ok (.goto 4, 3) := by decide +kernel
theorem dX11_inThousand_17 : decode cX11_inThousand 17 = .ok (.iconst 0, 1) := by decide +kernel
theorem dX11_inThousand_18 : decode cX11_inThousand 18 = .ok (.ireturn, 1) := by decide +kernel
theorem dX11_inThousand_4 : decode cX11_inThousand 4 = .ok (.iload_n 0, 1) := by decide +kernel
theorem dX11_inThousand_5 : decode cX11_inThousand 5 = .ok (.i2l, 1) := by decide +kernel
theorem dX11_inThousand_6 : decode cX11_inThousand 6 = .ok (.ldc2_w 196, 3) := by decide +kernel
theorem dX11_inThousand_9 : decode cX11_inThousand 9 = .ok (.lmul, 1) := by decide +kernel
theorem dX11_init_0 : decode cX11_init 0 = .ok (.aload_n 0, 1) := by decide +kernel
theorem dX11_init_1 : decode cX11_init 1 = .ok (.invokespecial 3, 3) := by decide +kernel
theorem dX11_init_100 : decode cX11_init 100 = .ok (.putfield 68, 3) := by decide +kernel
theorem dX11_init_103 : decode cX11_init 103 = .ok (.aload_n 0, 1) := by decide +kernel
theorem dX11_init_104 : decode cX11_init 104 = .ok (.new 72, 3) := by decide +kernel
theorem dX11_init_107 : decode cX11_init 107 = .ok (.dup, 1) := by decide +kernel
theorem dX11_init_108 : decode cX11_init 108 = .ok (.invokespecial 74, 3) := by decide +kernel
theorem dX11_init_111 : decode cX11_init 111 = .ok (.putfield 75, 3) := by decide +kernel
theorem dX11_init_114 : decode cX11_init 114 = .ok (.aload_n 0, 1) := by decide +kernel
theorem dX11_init_115 : decode cX11_init 115 = .ok (.new 79, 3) := by decide +kernel
theorem dX11_init_118 : decode cX11_init 118 = .ok (.dup, 1) := by decide +kernel
theorem dX11_init_119 : decode cX11_init 119 = .ok (.invokespecial 81, 3) := by decide +kernel
theorem dX11_init_12 : decode cX11_init 12 = .ok (.putfield 12, 3) := by decide +kernel
theorem dX11_init_122 : decode cX11_init 122 = .ok (.putfield 82, 3) := by decide +kernel
theorem dX11_init_125 : decode cX11_init 125 = .ok (.aload_n 0, 1) := by decide +kernel
theorem dX11_init_126 : decode cX11_init 126 = .ok (.bipush 48, 2) := by decide +kernel
theorem dX11_init_128 : decode cX11_init 128 = .ok (.newarray .int, 2) := by decide +kernel
theorem dX11_init_130 : decode cX11_init 130 = .ok (.putfield 86, 3) := by decide +kernel
theorem dX11_init_133 : decode cX11_init 133 = .ok (.aload_n 0, 1) := by decide +kernel
theorem dX11_init_134 : decode cX11_init 134 = .ok (.iconst 0, 1) := by decide +kernel
theorem dX11_init_135 : decode cX11_init 135 = .ok (.putfield 90, 3) := by decide +kernel
theorem dX11_init_138 : decode cX11_init 138 = .ok (.return_, 1) := by decide +kernel
theorem dX11_init_15 : decode cX11_init 15 = .ok (.aload_n 0, 1) := by decide +kernel
theorem dX11_init_16 : decode cX11_init 16 = .ok (.new 16, 3) := by decide +kernel
theorem dX11_init_19 : decode cX11_init 19 = .ok (.dup, 1) := by decide +kernel
theorem dX11_init_20 : decode cX11_init 20 = .ok (.invokespecial 18, 3) := by decide +kernel
theorem dX11_init_23 : decode cX11_init 23 = .ok (.putfield 19, 3) := by decide +kernel
theorem dX11_init_26 : decode cX11_init 26 = .ok (.aload_n 0, 1) := by decide +kernel
theorem dX11_init_27 : decode cX11_init 27 = .ok (.new 23, 3) := by decide +kernel
theorem dX11_init_30 : decode cX11_init 30 = .ok (.dup, 1) := by decide +kernel
theorem dX11_init_31 : decode cX11_init 31 = .ok (.invokespecial 25, 3) := by decide +kernel
theorem dX11_init_34 : decode cX11_init 34 = .ok (.putfield 26, 3) := by decide +kernel
theorem dX11_init_37 : decode cX11_init 37 = .ok (.aload_n 0, 1) := by decide +kernel
theorem dX11_init_38 : decode cX11_init 38 = .ok (.new 30, 3) := by decide +kernel
theorem dX11_init_4 : decode cX11_init 4 = .ok (.aload_n 0, 1) := by decide +kernel
theorem dX11_init_41 : decode cX11_init 41 = .ok (.dup, 1) := by decide +kernel
theorem dX11_init_42 : decode cX11_init 42 = .ok (.invokespecial 32, 3) := by decide +kernel
theorem dX11_init_45 : decode cX11_init 45 = .ok (.putfield 33, 3) := by decide +kernel
theorem dX11_init_48 : decode cX11_init 48 = .ok (.aload_n 0, 1) := by decide +kernel
theorem dX11_init_49 : decode cX11_init 49 = .ok (.new 37, 3) := by decide +kernel
theorem dX11_init_5 : decode cX11_init 5 = .ok (.new 9, 3) := by decide +kernel
theorem dX11_init_52 : decode cX11_init 52 = .ok (.dup, 1) := by decide +kernel
theorem dX11_init_53 : decode cX11_init 53 = .ok (.invokespecial 39, 3) := by decide +kernel
theorem dX11_init_56 : decode cX11_init 56 = .ok (.putfield 40, 3) := by decide +kernel
theorem dX11_init_59 : decode cX11_init 59 = .ok (.aload_n 0, 1) := by decide +kernel
theorem dX11_init_60 : decode cX11_init 60 = .ok (.new 44, 3) := by decide +kernel
theorem dX11_init_63 : decode cX11_init 63 = .ok (.dup, 1) := by decide +kernel
theorem dX11_init_64 : decode cX11_init 64 = .ok (.invokespecial 46, 3) := by decide +kernel
theorem dX11_init_67 : decode cX11_init 67 = .ok (.putfield 47, 3) := by decide +kernel
theorem dX11_init_70 : decode cX11_init 70 = .ok (.aload_n 0, 1) := by decide +kernel
theorem dX11_init_71 : decode cX11_init 71 = .ok (.new 51, 3) := by decide +kernel
theorem dX11_init_74 : decode cX11_init 74 = .ok (.dup, 1) := by decide +kernel
theorem dX11_init_75 : decode cX11_init 75 = .ok (.invokespecial 53, 3) := by decide +kernel
theorem dX11_init_78 : decode cX11_init 78 = .ok (.putfield 54, 3) := by decide +kernel
theorem dX11_init_8 : decode cX11_init 8 = .ok (.dup, 1) := by decide +kernel
theorem dX11_init_81 : decode cX11_init 81 = .ok (.aload_n 0, 1) := by decide +kernel
theorem dX11_init_82 : decode cX11_init 82 = .ok (.new 58, 3) := by decide +kernel
theorem dX11_init_85 : decode cX11_init 85 = .ok (.dup, 1) := by decide +kernel
theorem dX11_init_86 : decode cX11_init 86 = .ok (.invokespecial 60, 3) := by decide +kernel
theorem dX11_init_89 : decode cX11_init 89 = .ok (.putfield 61, 3) := by decide +kernel
theorem dX11_init_9 : decode cX11_init 9 = .ok (.invokespecial 11, 3) := by decide +kernel
theorem dX11_init_92 : decode cX11_init 92 = .ok (.aload_n 0, 1) := by decide +kernel
theorem dX11_init_93 : decode cX11_init 93 = .ok (.new 65, 3) := by decide +kernel
theorem dX11_init_96 : decode cX11_init 96 = .ok (.dup, 1) := by decide +kernel
theorem dX11_init_97 : decode cX11_init 97 = .ok (.invokespecial 67, 3) := by decide +kernel
theorem dX11_isDay_0 : decode cX11_isDay 0 = .ok (.iload_n 0, 1) := by decide +kernel
theorem dX11_isDay_1 : decode cX11_isDay 1 = .ok (.iconst 0, 1) := by decide +kernel
theorem dX11_isDay_2 : decode cX11_isDay 2 = .ok (.bipush 99, 2) := by decide +kernel
theorem dX11_isDay_4 : decode cX11_isDay 4 = .ok (.invokestatic 94, 3) := by decide +kernel
theorem dX11_isDay_7 : decode cX11_isDay 7 = .ok (.ireturn, 1) := by decide +kernel
theorem dX11_isLand_0 : decode cX11_isLand 0 = .ok (.iload_n 0, 1) := by decide +kernel
theorem dX11_isLand_1 : decode cX11_isLand 1 = .ok (.iconst 0, 1) := by decide +kernel
theorem dX11_isLand_2 : decode cX11_isLand 2 = .ok (.iconst 3, 1) := by decide +kernel
theorem dX11_isLand_3 : decode cX11_isLand 3 = .ok (.invokestatic 94, 3) := by decide +kernel
theorem dX11_isLand_6 : decode cX11_isLand 6 = .ok (.ireturn, 1) := by decide +kernel
theorem dX11_isMark_0 : decode cX11_isMark 0 = .ok (.iload_n 0, 1) := by decide +kernel
theorem dX11_isMark_1 : decode cX11_isMark 1 = .ok (.iconst 0, 1) := by decide +kernel
theorem dX11_isMark_2 : decode cX11_isMark 2 = .ok (.bipush 7, 2) := by decide +kernel
theorem dX11_isMark_4 : decode cX11_isMark 4 = .ok (.invokestatic 94, 3) := by decide +kernel
theorem dX11_isMark_7 : decode cX11_isMark 7 = .ok (.ireturn, 1) := by decide +kernel
theorem dX11_isSeller_0 : decode cX11_isSeller 0 = .ok (.iload_n 0, 1) := by decide +kernel
theorem dX11_isSeller_1 : decode cX11_isSeller 1 = .ok (.iconst 0, 1) := by decide +kernel
theorem dX11_isSeller_2 : decode cX11_isSeller 2 = .ok (.iconst 3, 1) := by decide +kernel
theorem dX11_isSeller_3 : decode cX11_isSeller 3 = .ok (.invokestatic 94, 3) := by decide +kernel
theorem dX11_isSeller_6 : decode cX11_isSeller 6 = .ok (.ireturn, 1) := by decide +kernel
theorem dX11_isSorter_0 : decode cX11_isSorter 0 = .ok (.iload_n 0, 1) := by decide +kernel
theorem dX11_isSorter_1 : decode cX11_isSorter 1 = .ok (.iconst 0, 1) := by decide +kernel
theorem dX11_isSorter_2 : decode cX11_isSorter 2 = .ok (.iconst 5, 1) := by decide +kernel
theorem dX11_isSorter_3 : decode cX11_isSorter 3 = .ok (.invokestatic 94, 3) := by decide +kernel
theorem dX11_isSorter_6 : decode cX11_isSorter 6 = .ok (.ireturn, 1) := by decide +kernel
theorem dX11_judge_0 : decode cX11_judge 0 = .ok (.aload_n 0, 1) := by decide +kernel
theorem dX11_judge_1 : decode cX11_judge 1 = .ok (.getfield 47, 3) := by decide +kernel
theorem dX11_judge_11 : decode cX11_judge 11 = .ok (.aload_n 0, 1) := by decide +kernel
theorem dX11_judge_12 : decode cX11_judge 12 = .ok (.getfield 61, 3) := by decide +kernel
theorem dX11_judge_15 : decode cX11_judge 15 = .ok (.invokevirtual 289, 3) := by decide +kernel
theorem dX11_judge_18 : decode cX11_judge 18 = .ok (.bipush 12, 2) := by decide +kernel
theorem dX11_judge_20 : decode cX11_judge 20 = .ok (.if_icmp .eq 5, 3) := by decide +kernel
theorem dX11_judge_23 : decode cX11_judge 23 = .ok (.iconst (-1), 1) := by decide +kernel
theorem dX11_judge_24 : decode cX11_judge 24 = .ok (.ireturn, 1) := by decide +kernel
theorem dX11_judge_25 : decode cX11_judge 25 = .ok (.aload_n 0, 1) := by decide +kernel
theorem dX11_judge_26 : decode cX11_judge 26 = .ok (.aload_n 0, 1) := by decide +kernel
theorem dX11_judge_27 : decode cX11_judge 27 = .ok (.getfield 61, 3) := by decide +kernel
theorem dX11_judge_30 : decode cX11_judge 30 = .ok (.getfield 286, 3) := by decide +kernel
theorem dX11_judge_33 : decode cX11_judge 33 = .ok (.invokevirtual 296, 3) := by decide +kernel
theorem dX11_judge_36 : decode cX11_judge 36 = .ok (.aload_n 0, 1) := by decide +kernel
theorem dX11_judge_37 : decode cX11_judge 37 = .ok (.getfield 47, 3) := by decide +kernel
theorem dX11_judge_4 : decode cX11_judge 4 = .ok (.iload_n 1, 1) := by decide +kernel
theorem dX11_judge_40 : decode cX11_judge 40 = .ok (.iload_n 1, 1) := by decide +kernel
theorem dX11_judge_41 : decode cX11_judge 41 = .ok (.invokevirtual 300, 3) := by decide +kernel
theorem dX11_judge_44 : decode cX11_judge 44 = .ok (.ireturn, 1) := by decide +kernel
theorem dX11_judge_5 : decode cX11_judge 5 = .ok (.invokevirtual 293, 3) := by decide +kernel
theorem dX11_judge_8 : decode cX11_judge 8 = .ok (.ifCond .eq 15, 3) := by decide +kernel
theorem dX11_led_0 : decode cX11_led 0 = .ok (.aload_n 0, 1) := by decide +kernel
theorem dX11_led_1 : decode cX11_led 1 = .ok (.getfield 68, 3) := by decide +kernel
theorem dX11_led_11 : decode cX11_led 11 = .ok (.iconst (-1), 1) := by decide +kernel
theorem dX11_led_12 : decode cX11_led 12 = .ok (.ireturn, 1) := by decide +kernel
theorem dX11_led_13 : decode cX11_led 13 = .ok (.iconst 0, 1) := by decide +kernel
theorem dX11_led_14 : decode cX11_led 14 = .ok (.istore_n 2, 1) := by decide +kernel
theorem dX11_led_15 : decode cX11_led 15 = .ok (.aload_n 0, 1) := by decide +kernel
theorem dX11_led_16 : decode cX11_led 16 = .ok (.iconst 0, 1) := by decide +kernel
theorem dX11_led_17 : decode cX11_led 17 = .ok (.putfield 90, 3) := by decide +kernel
theorem dX11_led_20 : decode cX11_led 20 = .ok (.iconst 0, 1) := by decide +kernel
theorem dX11_led_21 : decode cX11_led 21 = .ok (.istore_n 3, 1) := by decide +kernel
theorem dX11_led_22 : decode cX11_led 22 = .ok (.iload_n 3, 1) := by decide +kernel
theorem dX11_led_23 : decode cX11_led 23 = .ok (.aload_n 0, 1) := by decide +kernel
theorem dX11_led_24 : decode cX11_led 24 = .ok (.getfield 19, 3) := by decide +kernel
theorem dX11_led_27 : decode cX11_led 27 = .ok (.getfield 133, 3) := by decide +kernel
theorem dX11_led_30 : decode cX11_led 30 = .ok (.if_icmp .ge 46, 3) := by decide +kernel
theorem dX11_led_33 : decode cX11_led 33 = .ok (.aload_n 0, 1) := by decide +kernel
theorem dX11_led_34 : decode cX11_led 34 = .ok (.getfield 68, 3) := by decide +kernel
theorem dX11_led_37 : decode cX11_led 37 = .ok (.getfield 357, 3) := by decide +kernel
theorem dX11_led_4 : decode cX11_led 4 = .ok (.iload_n 1, 1) := by decide +kernel
theorem dX11_led_40 : decode cX11_led 40 = .ok (.iload_n 1, 1) := by decide +kernel
theorem dX11_led_41 : decode cX11_led 41 = .ok (.aaload, 1) := by decide +kernel
theorem dX11_led_42 : decode cX11_led 42 = .ok (.iload_n 3, 1) := by decide +kernel
theorem dX11_led_43 : decode cX11_led 43 = .ok (.iaload, 1) := by decide +kernel
theorem dX11_led_44 : decode cX11_led 44 = .ok (.ifCond .le 26, 3) := by decide +kernel
theorem dX11_led_47 : decode cX11_led 47 = .ok (.aload_n 0, 1) := by decide +kernel
theorem dX11_led_48 : decode cX11_led 48 = .ok (.iload_n 3, 1) := by decide +kernel
theorem dX11_led_49 : decode cX11_led 49 = .ok (.invokevirtual 359, 3) := by decide +kernel
theorem dX11_led_5 : decode cX11_led 5 = .ok (.invokevirtual 358, 3) := by decide +kernel
theorem dX11_led_52 : decode cX11_led 52 = .ok (.aload_n 0, 1) := by decide +kernel
theorem dX11_led_53 : decode cX11_led 53 = .ok (.aload_n 0, 1) := by decide +kernel
theorem dX11_led_54 : decode cX11_led 54 = .ok (.getfield 68, 3) := by decide +kernel
theorem dX11_led_57 : decode cX11_led 57 = .ok (.getfield 357, 3) := by decide +kernel
theorem dX11_led_60 : decode cX11_led 60 = .ok (.iload_n 1, 1) := by decide +kernel
theorem dX11_led_61 : decode cX11_led 61 = .ok (.aaload, 1) := by decide +kernel
theorem dX11_led_62 : decode cX11_led 62 = .ok (.iload_n 3, 1) := by decide +kernel
theorem dX11_led_63 : decode cX11_led 63 = .ok (.iaload, 1) := by decide +kernel
theorem dX11_led_64 : decode cX11_led 64 = .ok (.invokevirtual 359, 3) := by decide +kernel
theorem dX11_led_67 : decode cX11_led 67 = .ok (.iinc 2 1, 3) := by decide +kernel
theorem dX11_led_70 : decode cX11_led 70 = .ok (.iinc 3 1, 3) := by decide +kernel
theorem dX11_led_73 : decode cX11_led 73 = .ok (.goto (-51), 3) := by decide +kernel
theorem dX11_led_76 : decode cX11_led 76 = .ok (.iload_n 2, 1) := by decide +kernel
theorem dX11_led_77 : decode cX11_led 77 = .ok (.ireturn, 1) := by decide +kernel
theorem dX11_led_8 : decode cX11_led 8 = .ok (.ifCond .ne 5, 3) := by decide +kernel
theorem dX11_lies_0 : decode cX11_lies 0 = .ok (.iload_n 0, 1) := by decide +kernel
theorem dX11_lies_1 : decode cX11_lies 1 = .ok (.iload_n 1, 1) := by decide +kernel
theorem dX11_lies_10 : decode cX11_lies 10 = .ok (.iconst 1, 1) := by decide +kernel
theorem dX11_lies_11 : decode cX11_lies 11 = .ok (.goto 4, 3) := by decide +kernel
theorem dX11_lies_14 : decode cX11_lies 14 = .ok (.iconst 0, 1) := by decide +kernel
theorem dX11_lies_15 : decode cX11_lies 15 = .ok (.ireturn, 1) := by decide +kernel
theorem dX11_lies_2 : decode cX11_lies 2 = .ok (.if_icmp .lt 12, 3) := by decide +kernel
theorem dX11_lies_5 : decode cX11_lies 5 = .ok (.iload_n 0, 1) := by decide +kernel
theorem dX11_lies_6 : decode cX11_lies 6 = .ok (.iload_n 2, 1) := by decide +kernel
theorem dX11_lies_7 : decode cX11_lies 7 = .ok (.if_icmp .gt 7, 3) := by decide +kernel
theorem dX11_look_0 : decode cX11_look 0 = .ok (.aload_n 0, 1) := by decide +kernel
theorem dX11_look_1 : decode cX11_look 1 = .ok (.getfield 19, 3) := by decide +kernel
theorem dX11_look_11 : decode cX11_look 11 = .ok (.iload_n 2, 1) := by decide +kernel
theorem dX11_look_12 : decode cX11_look 12 = .ok (.iconst 0, 1) := by decide +kernel
theorem dX11_look_13 : decode cX11_look 13 = .ok (.iconst 1, 1) := by decide +kernel
theorem dX11_look_14 : decode cX11_look 14 = .ok (.invokestatic 94, 3) := by decide +kernel
theorem dX11_look_17 : decode cX11_look 17 = .ok (.ifCond .eq 14, 3) := by decide +kernel
theorem dX11_look_20 : decode cX11_look 20 = .ok (.iload_n 3, 1) := by decide +kernel
theorem dX11_look_21 : decode cX11_look 21 = .ok (.invokestatic 109, 3) := by decide +kernel
theorem dX11_look_24 : decode cX11_look 24 = .ok (.ifCond .eq 7, 3) := by decide +kernel
theorem dX11_look_27 : decode cX11_look 27 = .ok (.iconst 1, 1) := by decide +kernel
theorem dX11_look_28 : decode cX11_look 28 = .ok (.goto 4, 3) := by decide +kernel
theorem dX11_look_31 : decode cX11_look 31 = .ok (.iconst 0, 1) := by decide +kernel
theorem dX11_look_32 : decode cX11_look 32 = .ok (.istore 6, 2) := by decide +kernel
theorem dX11_look_34 : decode cX11_look 34 = .ok (.iload 6, 2) := by decide +kernel
theorem dX11_look_36 : decode cX11_look 36 = .ok (.ifCond .eq 39, 3) := by decide +kernel
theorem dX11_look_39 : decode cX11_look 39 = .ok (.iload 4, 2) := by decide +kernel
theorem dX11_look_4 : decode cX11_look 4 = .ok (.iload_n 1, 1) := by decide +kernel
theorem dX11_look_41 : decode cX11_look 41 = .ok (.iconst 0, 1) := by decide +kernel
theorem dX11_look_42 : decode cX11_look 42 = .ok (.sipush 9999, 3) := by decide +kernel
theorem dX11_look_45 : decode cX11_look 45 = .ok (.invokestatic 94, 3) := by decide +kernel
theorem dX11_look_48 : decode cX11_look 48 = .ok (.ifCond .eq 27, 3) := by decide +kernel
theorem dX11_look_5 : decode cX11_look 5 = .ok (.invokevirtual 137, 3) := by decide +kernel
theorem dX11_look_51 : decode cX11_look 51 = .ok (.iload 5, 2) := by decide +kernel
theorem dX11_look_53 : decode cX11_look 53 = .ok (.iconst 0, 1) := by decide +kernel
theorem dX11_look_54 : decode cX11_look 54 = .ok (.sipush 1000, 3) := by decide +kernel
theorem dX11_look_57 : decode cX11_look 57 = .ok (.invokestatic 94, 3) := by decide +kernel
theorem dX11_look_60 : decode cX11_look 60 = .ok (.ifCond .eq 15, 3) := by decide +kernel
theorem dX11_look_63 : decode cX11_look 63 = .ok (.aload_n 0, 1) := by decide +kernel
theorem dX11_look_64 : decode cX11_look 64 = .ok (.getfield 26, 3) := by decide +kernel
theorem dX11_look_67 : decode cX11_look 67 = .ok (.getfield 179, 3) := by decide +kernel
theorem dX11_look_70 : decode cX11_look 70 = .ok (.bipush 60, 2) := by decide +kernel
theorem dX11_look_72 : decode cX11_look 72 = .ok (.if_icmp .lt 5, 3) := by decide +kernel
theorem dX11_look_75 : decode cX11_look 75 = .ok (.iconst (-1), 1) := by decide +kernel
theorem dX11_look_76 : decode cX11_look 76 = .ok (.ireturn, 1) := by decide +kernel
theorem dX11_look_77 : decode cX11_look 77 = .ok (.aload_n 0, 1) := by decide +kernel
theorem dX11_look_78 : decode cX11_look 78 = .ok (.getfield 26, 3) := by decide +kernel
theorem dX11_look_8 : decode cX11_look 8 = .ok (.ifCond .eq 23, 3) := by decide +kernel
theorem dX11_look_81 : decode cX11_look 81 = .ok (.iload_n 1, 1) := by decide +kernel
theorem dX11_look_82 : decode cX11_look 82 = .ok (.iload_n 2, 1) := by decide +kernel
theorem dX11_look_83 : decode cX11_look 83 = .ok (.iload_n 3, 1) := by decide +kernel
theorem dX11_look_84 : decode cX11_look 84 = .ok (.iload 4, 2) := by decide +kernel
theorem dX11_look_86 : decode cX11_look 86 = .ok (.iload 5, 2) := by decide +kernel
theorem dX11_look_88 : decode cX11_look 88 = .ok (.invokevirtual 180, 3) := by decide +kernel
theorem dX11_look_91 : decode cX11_look 91 = .ok (.ireturn, 1) := by decide +kernel
theorem dX11_make_0 : decode cX11_make 0 = .ok (.iload_n 1, 1) := by decide +kernel
theorem dX11_make_1 : decode cX11_make 1 = .ok (.bipush 12, 2) := by decide +kernel
theorem dX11_make_102 : decode cX11_make 102 = .ok (.getfield 357, 3) := by decide +kernel
theorem dX11_make_105 : decode cX11_make 105 = .ok (.iload_n 2, 1) := by decide +kernel
theorem dX11_make_106 : decode cX11_make 106 = .ok (.aaload, 1) := by decide +kernel
theorem dX11_make_107 : decode cX11_make 107 = .ok (.invokevirtual 273, 3) := by decide +kernel
theorem dX11_make_110 : decode cX11_make 110 = .ok (.iinc 3 1, 3) := by decide +kernel
theorem dX11_make_113 : decode cX11_make 113 = .ok (.goto (-45), 3) := by decide +kernel
theorem dX11_make_116 : decode cX11_make 116 = .ok (.iload_n 2, 1) := by decide +kernel
theorem dX11_make_117 : decode cX11_make 117 = .ok (.ireturn, 1) := by decide +kernel
theorem dX11_make_12 : decode cX11_make 12 = .ok (.iload_n 1, 1) := by decide +kernel
theorem dX11_make_13 : decode cX11_make 13 = .ok (.bipush 12, 2) := by decide +kernel
theorem dX11_make_15 : decode cX11_make 15 = .ok (.irem, 1) := by decide +kernel
theorem dX11_make_16 : decode cX11_make 16 = .ok (.ifCond .eq 5, 3) := by decide +kernel
theorem dX11_make_19 : decode cX11_make 19 = .ok (.iconst (-1), 1) := by decide +kernel
theorem dX11_make_20 : decode cX11_make 20 = .ok (.ireturn, 1) := by decide +kernel
theorem dX11_make_21 : decode cX11_make 21 = .ok (.aload_n 0, 1) := by decide +kernel
theorem dX11_make_22 : decode cX11_make 22 = .ok (.getfield 61, 3) := by decide +kernel
theorem dX11_make_25 : decode cX11_make 25 = .ok (.invokevirtual 289, 3) := by decide +kernel
theorem dX11_make_28 : decode cX11_make 28 = .ok (.bipush 12, 2) := by decide +kernel
theorem dX11_make_3 : decode cX11_make 3 = .ok (.sipush 9996, 3) := by decide +kernel
theorem dX11_make_30 : decode cX11_make 30 = .ok (.if_icmp .ne 26, 3) := by decide +kernel
theorem dX11_make_33 : decode cX11_make 33 = .ok (.aload_n 0, 1) := by decide +kernel
theorem dX11_make_34 : decode cX11_make 34 = .ok (.getfield 68, 3) := by decide +kernel
theorem dX11_make_37 : decode cX11_make 37 = .ok (.getfield 351, 3) := by decide +kernel
theorem dX11_make_40 : decode cX11_make 40 = .ok (.bipush 20, 2) := by decide +kernel
theorem dX11_make_42 : decode cX11_make 42 = .ok (.if_icmp .ge 14, 3) := by decide +kernel
theorem dX11_make_45 : decode cX11_make 45 = .ok (.aload_n 0, 1) := by decide +kernel
theorem dX11_make_46 : decode cX11_make 46 = .ok (.iload_n 1, 1) := by decide +kernel
theorem dX11_make_47 : decode cX11_make 47 = .ok (.bipush 12, 2) := by decide +kernel
theorem dX11_make_49 : decode cX11_make 49 = .ok (.idiv, 1) := by decide +kernel
theorem dX11_make_50 : decode cX11_make 50 = .ok (.invokevirtual 352, 3) := by decide +kernel
theorem dX11_make_53 : decode cX11_make 53 = .ok (.ifCond .ne 5, 3) := by decide +kernel
theorem dX11_make_56 : decode cX11_make 56 = .ok (.iconst (-1), 1) := by decide +kernel
theorem dX11_make_57 : decode cX11_make 57 = .ok (.ireturn, 1) := by decide +kernel
theorem dX11_make_58 : decode cX11_make 58 = .ok (.aload_n 0, 1) := by decide +kernel
theorem dX11_make_59 : decode cX11_make 59 = .ok (.getfield 68, 3) := by decide +kernel
theorem dX11_make_6 : decode cX11_make 6 = .ok (.invokestatic 94, 3) := by decide +kernel
theorem dX11_make_62 : decode cX11_make 62 = .ok (.invokevirtual 355, 3) := by decide +kernel
theorem dX11_make_65 : decode cX11_make 65 = .ok (.istore_n 2, 1) := by decide +kernel
theorem dX11_make_66 : decode cX11_make 66 = .ok (.iconst 0, 1) := by decide +kernel
theorem dX11_make_67 : decode cX11_make 67 = .ok (.istore_n 3, 1) := by decide +kernel
theorem dX11_make_68 : decode cX11_make 68 = .ok (.iload_n 3, 1) := by decide +kernel
theorem dX11_make_69 : decode cX11_make 69 = .ok (.aload_n 0, 1) := by decide +kernel
theorem dX11_make_70 : decode cX11_make 70 = .ok (.getfield 12, 3) := by decide +kernel
theorem dX11_make_73 : decode cX11_make 73 = .ok (.getfield 102, 3) := by decide +kernel
theorem dX11_make_76 : decode cX11_make 76 = .ok (.if_icmp .ge 40, 3) := by decide +kernel
theorem dX11_make_79 : decode cX11_make 79 = .ok (.aload_n 0, 1) := by decide +kernel
theorem dX11_make_80 : decode cX11_make 80 = .ok (.getfield 54, 3) := by decide +kernel
theorem dX11_make_83 : decode cX11_make 83 = .ok (.iload_n 3, 1) := by decide +kernel
theorem dX11_make_84 : decode cX11_make 84 = .ok (.aload_n 0, 1) := by decide +kernel
theorem dX11_make_85 : decode cX11_make 85 = .ok (.getfield 61, 3) := by decide +kernel
theorem dX11_make_88 : decode cX11_make 88 = .ok (.getfield 286, 3) := by decide +kernel
theorem dX11_make_9 : decode cX11_make 9 = .ok (.ifCond .eq 10, 3) := by decide +kernel
theorem dX11_make_91 : decode cX11_make 91 = .ok (.iload_n 3, 1) := by decide +kernel
theorem dX11_make_92 : decode cX11_make 92 = .ok (.iaload, 1) := by decide +kernel
theorem dX11_make_93 : decode cX11_make 93 = .ok (.iload_n 1, 1) := by decide +kernel
theorem dX11_make_94 : decode cX11_make 94 = .ok (.bipush 12, 2) := by decide +kernel
theorem dX11_make_96 : decode cX11_make 96 = .ok (.idiv, 1) := by decide +kernel
theorem dX11_make_97 : decode cX11_make 97 = .ok (.imul, 1) := by decide +kernel
theorem dX11_make_98 : decode cX11_make 98 = .ok (.aload_n 0, 1) := by decide +kernel
theorem dX11_make_99 : decode cX11_make 99 = .ok (.getfield 68, 3) := by decide +kernel
theorem dX11_met_0 : decode cX11_met 0 = .ok (.iload_n 1, 1) := by decide +kernel
theorem dX11_met_1 : decode cX11_met 1 = .ok (.invokestatic 138, 3) := by decide +kernel
theorem dX11_met_11 : decode cX11_met 11 = .ok (.ifCond .eq 15, 3) := by decide +kernel
theorem dX11_met_14 : decode cX11_met 14 = .ok (.aload_n 0, 1) := by decide +kernel
theorem dX11_met_15 : decode cX11_met 15 = .ok (.getfield 75, 3) := by decide +kernel
theorem dX11_met_18 : decode cX11_met 18 = .ok (.iload_n 1, 1) := by decide +kernel
theorem dX11_met_19 : decode cX11_met 19 = .ok (.iload_n 2, 1) := by decide +kernel
theorem dX11_met_20 : decode cX11_met 20 = .ok (.invokevirtual 260, 3) := by decide +kernel
theorem dX11_met_23 : decode cX11_met 23 = .ok (.goto 4, 3) := by decide +kernel
theorem dX11_met_26 : decode cX11_met 26 = .ok (.iconst (-1), 1) := by decide +kernel
theorem dX11_met_27 : decode cX11_met 27 = .ok (.ireturn, 1) := by decide +kernel
theorem dX11_met_4 : decode cX11_met 4 = .ok (.ifCond .eq 22, 3) := by decide +kernel
theorem dX11_met_7 : decode cX11_met 7 = .ok (.iload_n 2, 1) := by decide +kernel
theorem dX11_met_8 : decode cX11_met 8 = .ok (.invokestatic 138, 3) := by decide +kernel
theorem dX11_mix_0 : decode cX11_mix 0 = .ok (.iload_n 2, 1) := by decide +kernel
theorem dX11_mix_1 : decode cX11_mix 1 = .ok (.iconst 1, 1) := by decide +kernel
theorem dX11_mix_10 : decode cX11_mix 10 = .ok (.ishl, 1) := by decide +kernel
theorem dX11_mix_100 : decode cX11_mix 100 = .ok (.istore 7, 2) := by decide +kernel
theorem dX11_mix_102 : decode cX11_mix 102 = .ok (.iload 7, 2) := by decide +kernel
theorem dX11_mix_104 : decode cX11_mix 104 = .ok (.aload_n 0, 1) := by decide +kernel
theorem dX11_mix_105 : decode cX11_mix 105 = .ok (.getfield 12, 3) := by decide +kernel
theorem dX11_mix_108 : decode cX11_mix 108 = .ok (.getfield 102, 3) := by decide +kernel
theorem dX11_mix_11 : decode cX11_mix 11 = .ok (.iconst 1, 1) := by decide +kernel
theorem dX11_mix_111 : decode cX11_mix 111 = .ok (.if_icmp .ge 71, 3) := by decide +kernel
theorem dX11_mix_114 : decode cX11_mix 114 = .ok (.iload_n 2, 1) := by decide +kernel
theorem dX11_mix_115 : decode cX11_mix 115 = .ok (.iload 7, 2) := by decide +kernel
theorem dX11_mix_117 : decode cX11_mix 117 = .ok (.ishr, 1) := by decide +kernel
theorem dX11_mix_118 : decode cX11_mix 118 = .ok (.iconst 1, 1) := by decide +kernel
theorem dX11_mix_119 : decode cX11_mix 119 = .ok (.iand, 1) := by decide +kernel
theorem dX11_mix_12 : decode cX11_mix 12 = .ok (.isub, 1) := by decide +kernel
theorem dX11_mix_120 : decode cX11_mix 120 = .ok (.iconst 1, 1) := by decide +kernel
theorem dX11_mix_121 : decode cX11_mix 121 = .ok (.if_icmp .ne 55, 3) := by decide +kernel
theorem dX11_mix_124 : decode cX11_mix 124 = .ok (.iload_n 3, 1) := by decide +kernel
theorem dX11_mix_125 : decode cX11_mix 125 = .ok (.ifCond .ne 8, 3) := by decide +kernel
theorem dX11_mix_128 : decode cX11_mix 128 = .ok (.bipush 12, 2) := by decide +kernel
theorem dX11_mix_13 : decode cX11_mix 13 = .ok (.invokestatic 94, 3) := by decide +kernel
theorem dX11_mix_130 : decode cX11_mix 130 = .ok (.goto 22, 3) := by decide +kernel
theorem dX11_mix_133 : decode cX11_mix 133 = .ok (.bipush 12, 2) := by decide +kernel
theorem dX11_mix_135 : decode cX11_mix 135 = .ok (.aload_n 0, 1) := by decide +kernel
theorem dX11_mix_136 : decode cX11_mix 136 = .ok (.getfield 54, 3) := by decide +kernel
theorem dX11_mix_139 : decode cX11_mix 139 = .ok (.iload 7, 2) := by decide +kernel
theorem dX11_mix_141 : decode cX11_mix 141 = .ok (.invokevirtual 263, 3) := by decide +kernel
theorem dX11_mix_144 : decode cX11_mix 144 = .ok (.iload_n 3, 1) := by decide +kernel
theorem dX11_mix_145 : decode cX11_mix 145 = .ok (.bipush 12, 2) := by decide +kernel
theorem dX11_mix_147 : decode cX11_mix 147 = .ok (.idiv, 1) := by decide +kernel
theorem dX11_mix_148 : decode cX11_mix 148 = .ok (.idiv, 1) := by decide +kernel
theorem dX11_mix_149 : decode cX11_mix 149 = .ok (.invokestatic 227, 3) := by decide +kernel
theorem dX11_mix_152 : decode cX11_mix 152 = .ok (.istore 8, 2) := by decide +kernel
theorem dX11_mix_154 : decode cX11_mix 154 = .ok (.aload_n 0, 1) := by decide +kernel
theorem dX11_mix_155 : decode cX11_mix 155 = .ok (.getfield 61, 3) := by decide +kernel
theorem dX11_mix_158 : decode cX11_mix 158 = .ok (.iload 7, 2) := by decide +kernel
theorem dX11_mix_16 : decode cX11_mix 16 = .ok (.ifCond .eq 16, 3) := by decide +kernel
theorem dX11_mix_160 : decode cX11_mix 160 = .ok (.aload_n 0, 1) := by decide +kernel
theorem dX11_mix_161 : decode cX11_mix 161 = .ok (.getfield 12, 3) := by decide +kernel
theorem dX11_mix_164 : decode cX11_mix 164 = .ok (.iload 7, 2) := by decide +kernel
theorem dX11_mix_166 : decode cX11_mix 166 = .ok (.iload 4, 2) := by decide +kernel
theorem dX11_mix_168 : decode cX11_mix 168 = .ok (.invokevirtual 119, 3) := by decide +kernel
theorem dX11_mix_171 : decode cX11_mix 171 = .ok (.iload 8, 2) := by decide +kernel
theorem dX11_mix_173 : decode cX11_mix 173 = .ok (.invokevirtual 323, 3) := by decide +kernel
theorem dX11_mix_176 : decode cX11_mix 176 = .ok (.iinc 7 1, 3) := by decide +kernel
theorem dX11_mix_179 : decode cX11_mix 179 = .ok (.goto (-77), 3) := by decide +kernel
theorem dX11_mix_182 : decode cX11_mix 182 = .ok (.aload_n 0, 1) := by decide +kernel
theorem dX11_mix_183 : decode cX11_mix 183 = .ok (.iload_n 1, 1) := by decide +kernel
theorem dX11_mix_184 : decode cX11_mix 184 = .ok (.invokevirtual 326, 3) := by decide +kernel
theorem dX11_mix_187 : decode cX11_mix 187 = .ok (.istore 7, 2) := by decide +kernel
theorem dX11_mix_189 : decode cX11_mix 189 = .ok (.iload 7, 2) := by decide +kernel
theorem dX11_mix_19 : decode cX11_mix 19 = .ok (.iload_n 2, 1) := by decide +kernel
theorem dX11_mix_191 : decode cX11_mix 191 = .ok (.ifCond .lt 10, 3) := by decide +kernel
theorem dX11_mix_194 : decode cX11_mix 194 = .ok (.aload_n 0, 1) := by decide +kernel
theorem dX11_mix_195 : decode cX11_mix 195 = .ok (.getfield 61, 3) := by decide +kernel
theorem dX11_mix_198 : decode cX11_mix 198 = .ok (.invokevirtual 329, 3) := by decide +kernel
theorem dX11_mix_2 : decode cX11_mix 2 = .ok (.iconst 1, 1) := by decide +kernel
theorem dX11_mix_20 : decode cX11_mix 20 = .ok (.invokestatic 315, 3) := by decide +kernel
theorem dX11_mix_201 : decode cX11_mix 201 = .ok (.iload 7, 2) := by decide +kernel
theorem dX11_mix_203 : decode cX11_mix 203 = .ok (.ireturn, 1) := by decide +kernel
theorem dX11_mix_23 : decode cX11_mix 23 = .ok (.bipush 6, 2) := by decide +kernel
theorem dX11_mix_25 : decode cX11_mix 25 = .ok (.if_icmp .gt 7, 3) := by decide +kernel
theorem dX11_mix_28 : decode cX11_mix 28 = .ok (.iconst 1, 1) := by decide +kernel
theorem dX11_mix_29 : decode cX11_mix 29 = .ok (.goto 4, 3) := by decide +kernel
theorem dX11_mix_3 : decode cX11_mix 3 = .ok (.aload_n 0, 1) := by decide +kernel
theorem dX11_mix_32 : decode cX11_mix 32 = .ok (.iconst 0, 1) := by decide +kernel
theorem dX11_mix_33 : decode cX11_mix 33 = .ok (.istore 5, 2) := by decide +kernel
theorem dX11_mix_35 : decode cX11_mix 35 = .ok (.iload_n 3, 1) := by decide +kernel
theorem dX11_mix_36 : decode cX11_mix 36 = .ok (.iconst 0, 1) := by decide +kernel
theorem dX11_mix_37 : decode cX11_mix 37 = .ok (.sipush 9996, 3) := by decide +kernel
theorem dX11_mix_4 : decode cX11_mix 4 = .ok (.getfield 12, 3) := by decide +kernel
theorem dX11_mix_40 : decode cX11_mix 40 = .ok (.invokestatic 94, 3) := by decide +kernel
theorem dX11_mix_43 : decode cX11_mix 43 = .ok (.ifCond .eq 14, 3) := by decide +kernel
theorem dX11_mix_46 : decode cX11_mix 46 = .ok (.iload_n 3, 1) := by decide +kernel
theorem dX11_mix_47 : decode cX11_mix 47 = .ok (.bipush 12, 2) := by decide +kernel
theorem dX11_mix_49 : decode cX11_mix 49 = .ok (.irem, 1) := by decide +kernel
theorem dX11_mix_50 : decode cX11_mix 50 = .ok (.ifCond .ne 7, 3) := by decide +kernel
theorem dX11_mix_53 : decode cX11_mix 53 = .ok (.iconst 1, 1) := by decide +kernel
theorem dX11_mix_54 : decode cX11_mix 54 = .ok (.goto 4, 3) := by decide +kernel
theorem dX11_mix_57 : decode cX11_mix 57 = .ok (.iconst 0, 1) := by decide +kernel
theorem dX11_mix_58 : decode cX11_mix 58 = .ok (.istore 6, 2) := by decide +kernel
theorem dX11_mix_60 : decode cX11_mix 60 = .ok (.aload_n 0, 1) := by decide +kernel
theorem dX11_mix_61 : decode cX11_mix 61 = .ok (.getfield 47, 3) := by decide +kernel
theorem dX11_mix_64 : decode cX11_mix 64 = .ok (.iload_n 1, 1) := by decide +kernel
theorem dX11_mix_65 : decode cX11_mix 65 = .ok (.invokevirtual 293, 3) := by decide +kernel
theorem dX11_mix_68 : decode cX11_mix 68 = .ok (.ifCond .eq 21, 3) := by decide +kernel
theorem dX11_mix_7 : decode cX11_mix 7 = .ok (.getfield 102, 3) := by decide +kernel
theorem dX11_mix_71 : decode cX11_mix 71 = .ok (.iload 5, 2) := by decide +kernel
theorem dX11_mix_73 : decode cX11_mix 73 = .ok (.ifCond .eq 16, 3) := by decide +kernel
theorem dX11_mix_76 : decode cX11_mix 76 = .ok (.iload 6, 2) := by decide +kernel
theorem dX11_mix_78 : decode cX11_mix 78 = .ok (.ifCond .eq 11, 3) := by decide +kernel
theorem dX11_mix_81 : decode cX11_mix 81 = .ok (.iload 4, 2) := by decide +kernel
theorem dX11_mix_83 : decode cX11_mix 83 = .ok (.invokestatic 109, 3) := by decide +kernel
theorem dX11_mix_86 : decode cX11_mix 86 = .ok (.ifCond .ne 5, 3) := by decide +kernel
theorem dX11_mix_89 : decode cX11_mix 89 = .ok (.iconst (-1), 1) := by decide +kernel
theorem dX11_mix_90 : decode cX11_mix 90 = .ok (.ireturn, 1) := by decide +kernel
theorem dX11_mix_91 : decode cX11_mix 91 = .ok (.aload_n 0, 1) := by decide +kernel
theorem dX11_mix_92 : decode cX11_mix 92 = .ok (.getfield 61, 3) := by decide +kernel
theorem dX11_mix_95 : decode cX11_mix 95 = .ok (.iconst 0, 1) := by decide +kernel
theorem dX11_mix_96 : decode cX11_mix 96 = .ok (.putfield 320, 3) := by decide +kernel
theorem dX11_mix_99 : decode cX11_mix 99 = .ok (.iconst 0, 1) := by decide +kernel
theorem dX11_moth_0 : decode cX11_moth 0 = .ok (.aload_n 0, 1) := by decide +kernel
theorem dX11_moth_1 : decode cX11_moth 1 = .ok (.getfield 19, 3) := by decide +kernel
theorem dX11_moth_11 : decode cX11_moth 11 = .ok (.aload_n 0, 1) := by decide +kernel
theorem dX11_moth_12 : decode cX11_moth 12 = .ok (.getfield 54, 3) := by decide +kernel
theorem dX11_moth_15 : decode cX11_moth 15 = .ok (.iload_n 1, 1) := by decide +kernel
theorem dX11_moth_16 : decode cX11_moth 16 = .ok (.aload_n 0, 1) := by decide +kernel
theorem dX11_moth_17 : decode cX11_moth 17 = .ok (.getfield 19, 3) := by decide +kernel
theorem dX11_moth_20 : decode cX11_moth 20 = .ok (.getfield 176, 3) := by decide +kernel
theorem dX11_moth_23 : decode cX11_moth 23 = .ok (.invokevirtual 270, 3) := by decide +kernel
theorem dX11_moth_26 : decode cX11_moth 26 = .ok (.goto 4, 3) := by decide +kernel
theorem dX11_moth_29 : decode cX11_moth 29 = .ok (.iconst (-1), 1) := by decide +kernel
theorem dX11_moth_30 : decode cX11_moth 30 = .ok (.ireturn, 1) := by decide +kernel
theorem dX11_moth_4 : decode cX11_moth 4 = .ok (.iload_n 1, 1) := by decide +kernel
theorem dX11_moth_5 : decode cX11_moth 5 = .ok (.invokevirtual 137, 3) := by decide +kernel
theorem dX11_moth_8 : decode cX11_moth 8 = .ok (.ifCond .eq 21, 3) := by decide +kernel
theorem dX11_of_0 : decode cX11_of 0 = .ok (.aload_n 0, 1) := by decide +kernel
theorem dX11_of_1 : decode cX11_of 1 = .ok (.getfield 19, 3) := by decide +kernel
theorem dX11_of_100 : decode cX11_of 100 = .ok (.aload_n 0, 1) := by decide +kernel
theorem dX11_of_101 : decode cX11_of 101 = .ok (.getfield 19, 3) := by decide +kernel
theorem dX11_of_104 : decode cX11_of 104 = .ok (.getfield 176, 3) := by decide +kernel
theorem dX11_of_107 : decode cX11_of 107 = .ok (.iload_n 1, 1) := by decide +kernel
theorem dX11_of_108 : decode cX11_of 108 = .ok (.iaload, 1) := by decide +kernel
theorem dX11_of_109 : decode cX11_of 109 = .ok (.ireturn, 1) := by decide +kernel
theorem dX11_of_11 : decode cX11_of 11 = .ok (.iconst (-1), 1) := by decide +kernel
theorem dX11_of_110 : decode cX11_of 110 = .ok (.iconst (-1), 1) := by decide +kernel
theorem dX11_of_111 : decode cX11_of 111 = .ok (.ireturn, 1) := by decide +kernel
theorem dX11_of_12 : decode cX11_of 12 = .ok (.ireturn, 1) := by decide +kernel
theorem dX11_of_13 : decode cX11_of 13 = .ok (.iload_n 2, 1) := by decide +kernel
theorem dX11_of_14 : decode cX11_of 14 = .ok (.tableswitch 96 0 5 #[38, 48, 58, 68, 77, 86], 38) := by decide +kernel
theorem dX11_of_4 : decode cX11_of 4 = .ok (.iload_n 1, 1) := by decide +kernel
theorem dX11_of_5 : decode cX11_of 5 = .ok (.invokevirtual 137, 3) := by decide +kernel
theorem dX11_of_52 : decode cX11_of 52 = .ok (.aload_n 0, 1) := by decide +kernel
theorem dX11_of_53 : decode cX11_of 53 = .ok (.getfield 19, 3) := by decide +kernel
theorem dX11_of_56 : decode cX11_of 56 = .ok (.getfield 144, 3) := by decide +kernel
theorem dX11_of_59 : decode cX11_of 59 = .ok (.iload_n 1, 1) := by decide +kernel
theorem dX11_of_60 : decode cX11_of 60 = .ok (.iaload, 1) := by decide +kernel
theorem dX11_of_61 : decode cX11_of 61 = .ok (.ireturn, 1) := by decide +kernel
theorem dX11_of_62 : decode cX11_of 62 = .ok (.aload_n 0, 1) := by decide +kernel
theorem dX11_of_63 : decode cX11_of 63 = .ok (.getfield 19, 3) := by decide +kernel
theorem dX11_of_66 : decode cX11_of 66 = .ok (.getfield 168, 3) := by decide +kernel
theorem dX11_of_69 : decode cX11_of 69 = .ok (.iload_n 1, 1) := by decide +kernel
theorem dX11_of_70 : decode cX11_of 70 = .ok (.iaload, 1) := by decide +kernel
theorem dX11_of_71 : decode cX11_of 71 = .ok (.ireturn, 1) := by decide +kernel
theorem dX11_of_72 : decode cX11_of 72 = .ok (.aload_n 0, 1) := by decide +kernel
theorem dX11_of_73 : decode cX11_of 73 = .ok (.getfield 19, 3) := by decide +kernel
theorem dX11_of_76 : decode cX11_of 76 = .ok (.getfield 151, 3) := by decide +kernel
theorem dX11_of_79 : decode cX11_of 79 = .ok (.iload_n 1, 1) := by decide +kernel
theorem dX11_of_8 : decode cX11_of 8 = .ok (.ifCond .ne 5, 3) := by decide +kernel
theorem dX11_of_80 : decode cX11_of 80 = .ok (.iaload, 1) := by decide +kernel
theorem dX11_of_81 : decode cX11_of 81 = .ok (.ireturn, 1) := by decide +kernel
theorem dX11_of_82 : decode cX11_of 82 = .ok (.aload_n 0, 1) := by decide +kernel
theorem dX11_of_83 : decode cX11_of 83 = .ok (.getfield 54, 3) := by decide +kernel
theorem dX11_of_86 : decode cX11_of 86 = .ok (.iload_n 1, 1) := by decide +kernel
theorem dX11_of_87 : decode cX11_of 87 = .ok (.invokevirtual 171, 3) := by decide +kernel
theorem dX11_of_90 : decode cX11_of 90 = .ok (.ireturn, 1) := by decide +kernel
theorem dX11_of_91 : decode cX11_of 91 = .ok (.aload_n 0, 1) := by decide +kernel
theorem dX11_of_92 : decode cX11_of 92 = .ok (.getfield 68, 3) := by decide +kernel
theorem dX11_of_95 : decode cX11_of 95 = .ok (.iload_n 1, 1) := by decide +kernel
theorem dX11_of_96 : decode cX11_of 96 = .ok (.invokevirtual 175, 3) := by decide +kernel
theorem dX11_of_99 : decode cX11_of 99 = .ok (.ireturn, 1) := by decide +kernel
theorem dX11_offOf_0 : decode cX11_offOf 0 = .ok (.aload_n 0, 1) := by decide +kernel
theorem dX11_offOf_1 : decode cX11_offOf 1 = .ok (.getfield 26, 3) := by decide +kernel
theorem dX11_offOf_10 : decode cX11_offOf 10 = .ok (.iload_n 3, 1) := by decide +kernel
theorem dX11_offOf_102 : decode cX11_offOf 102 = .ok (.getfield 202, 3) := by decide +kernel
theorem dX11_offOf_105 : decode cX11_offOf 105 = .ok (.iload_n 3, 1) := by decide +kernel
theorem dX11_offOf_106 : decode cX11_offOf 106 = .ok (.iaload, 1) := by decide +kernel
theorem dX11_offOf_107 : decode cX11_offOf 107 = .ok (.invokevirtual 211, 3) := by decide +kernel
theorem dX11_offOf_11 : decode cX11_offOf 11 = .ok (.iconst 0, 1) := by decide +kernel
theorem dX11_offOf_110 : decode cX11_offOf 110 = .ok (.aload_n 0, 1) := by decide +kernel
theorem dX11_offOf_111 : decode cX11_offOf 111 = .ok (.getfield 47, 3) := by decide +kernel
theorem dX11_offOf_114 : decode cX11_offOf 114 = .ok (.bipush 113, 2) := by decide +kernel
theorem dX11_offOf_116 : decode cX11_offOf 116 = .ok (.aload_n 0, 1) := by decide +kernel
theorem dX11_offOf_117 : decode cX11_offOf 117 = .ok (.getfield 19, 3) := by decide +kernel
theorem dX11_offOf_12 : decode cX11_offOf 12 = .ok (.bipush 59, 2) := by decide +kernel
theorem dX11_offOf_120 : decode cX11_offOf 120 = .ok (.getfield 215, 3) := by decide +kernel
theorem dX11_offOf_123 : decode cX11_offOf 123 = .ok (.iload_n 1, 1) := by decide +kernel
theorem dX11_offOf_124 : decode cX11_offOf 124 = .ok (.iaload, 1) := by decide +kernel
theorem dX11_offOf_125 : decode cX11_offOf 125 = .ok (.invokevirtual 211, 3) := by decide +kernel
theorem dX11_offOf_128 : decode cX11_offOf 128 = .ok (.aload_n 0, 1) := by decide +kernel
theorem dX11_offOf_129 : decode cX11_offOf 129 = .ok (.getfield 19, 3) := by decide +kernel
theorem dX11_offOf_132 : decode cX11_offOf 132 = .ok (.iload_n 1, 1) := by decide +kernel
theorem dX11_offOf_133 : decode cX11_offOf 133 = .ok (.invokevirtual 141, 3) := by decide +kernel
theorem dX11_offOf_136 : decode cX11_offOf 136 = .ok (.ifCond .eq 45, 3) := by decide +kernel
theorem dX11_offOf_139 : decode cX11_offOf 139 = .ok (.aload_n 0, 1) := by decide +kernel
theorem dX11_offOf_14 : decode cX11_offOf 14 = .ok (.invokestatic 94, 3) := by decide +kernel
theorem dX11_offOf_140 : decode cX11_offOf 140 = .ok (.getfield 47, 3) := by decide +kernel
theorem dX11_offOf_143 : decode cX11_offOf 143 = .ok (.bipush 107, 2) := by decide +kernel
theorem dX11_offOf_145 : decode cX11_offOf 145 = .ok (.aload_n 0, 1) := by decide +kernel
theorem dX11_offOf_146 : decode cX11_offOf 146 = .ok (.getfield 19, 3) := by decide +kernel
theorem dX11_offOf_149 : decode cX11_offOf 149 = .ok (.getfield 168, 3) := by decide +kernel
theorem dX11_offOf_152 : decode cX11_offOf 152 = .ok (.iload_n 1, 1) := by decide +kernel
theorem dX11_offOf_153 : decode cX11_offOf 153 = .ok (.iaload, 1) := by decide +kernel
theorem dX11_offOf_154 : decode cX11_offOf 154 = .ok (.iload 4, 2) := by decide +kernel
theorem dX11_offOf_156 : decode cX11_offOf 156 = .ok (.invokestatic 208, 3) := by decide +kernel
theorem dX11_offOf_159 : decode cX11_offOf 159 = .ok (.invokevirtual 211, 3) := by decide +kernel
theorem dX11_offOf_162 : decode cX11_offOf 162 = .ok (.aload_n 0, 1) := by decide +kernel
theorem dX11_offOf_163 : decode cX11_offOf 163 = .ok (.getfield 47, 3) := by decide +kernel
theorem dX11_offOf_166 : decode cX11_offOf 166 = .ok (.bipush 111, 2) := by decide +kernel
theorem dX11_offOf_168 : decode cX11_offOf 168 = .ok (.aload_n 0, 1) := by decide +kernel
theorem dX11_offOf_169 : decode cX11_offOf 169 = .ok (.iload_n 1, 1) := by decide +kernel
theorem dX11_offOf_17 : decode cX11_offOf 17 = .ok (.ifCond .ne 5, 3) := by decide +kernel
theorem dX11_offOf_170 : decode cX11_offOf 170 = .ok (.invokevirtual 218, 3) := by decide +kernel
theorem dX11_offOf_173 : decode cX11_offOf 173 = .ok (.iload 4, 2) := by decide +kernel
theorem dX11_offOf_175 : decode cX11_offOf 175 = .ok (.invokestatic 208, 3) := by decide +kernel
theorem dX11_offOf_178 : decode cX11_offOf 178 = .ok (.invokevirtual 211, 3) := by decide +kernel
theorem dX11_offOf_181 : decode cX11_offOf 181 = .ok (.iconst 0, 1) := by decide +kernel
theorem dX11_offOf_182 : decode cX11_offOf 182 = .ok (.sipush 1000, 3) := by decide +kernel
theorem dX11_offOf_185 : decode cX11_offOf 185 = .ok (.aload_n 0, 1) := by decide +kernel
theorem dX11_offOf_186 : decode cX11_offOf 186 = .ok (.getfield 47, 3) := by decide +kernel
theorem dX11_offOf_189 : decode cX11_offOf 189 = .ok (.aload_n 0, 1) := by decide +kernel
theorem dX11_offOf_190 : decode cX11_offOf 190 = .ok (.getfield 19, 3) := by decide +kernel
theorem dX11_offOf_193 : decode cX11_offOf 193 = .ok (.getfield 221, 3) := by decide +kernel
theorem dX11_offOf_196 : decode cX11_offOf 196 = .ok (.iload_n 1, 1) := by decide +kernel
theorem dX11_offOf_197 : decode cX11_offOf 197 = .ok (.iaload, 1) := by decide +kernel
theorem dX11_offOf_198 : decode cX11_offOf 198 = .ok (.invokevirtual 224, 3) := by decide +kernel
theorem dX11_offOf_20 : decode cX11_offOf 20 = .ok (.iconst (-1), 1) := by decide +kernel
theorem dX11_offOf_201 : decode cX11_offOf 201 = .ok (.invokestatic 227, 3) := by decide +kernel
theorem dX11_offOf_204 : decode cX11_offOf 204 = .ok (.invokestatic 188, 3) := by decide +kernel
theorem dX11_offOf_207 : decode cX11_offOf 207 = .ok (.ireturn, 1) := by decide +kernel
theorem dX11_offOf_21 : decode cX11_offOf 21 = .ok (.ireturn, 1) := by decide +kernel
theorem dX11_offOf_22 : decode cX11_offOf 22 = .ok (.aload_n 0, 1) := by decide +kernel
theorem dX11_offOf_23 : decode cX11_offOf 23 = .ok (.getfield 19, 3) := by decide +kernel
theorem dX11_offOf_26 : decode cX11_offOf 26 = .ok (.getfield 144, 3) := by decide +kernel
theorem dX11_offOf_29 : decode cX11_offOf 29 = .ok (.iload_n 1, 1) := by decide +kernel
theorem dX11_offOf_30 : decode cX11_offOf 30 = .ok (.iaload, 1) := by decide +kernel
theorem dX11_offOf_31 : decode cX11_offOf 31 = .ok (.istore 4, 2) := by decide +kernel
theorem dX11_offOf_33 : decode cX11_offOf 33 = .ok (.aload_n 0, 1) := by decide +kernel
theorem dX11_offOf_34 : decode cX11_offOf 34 = .ok (.getfield 26, 3) := by decide +kernel
theorem dX11_offOf_37 : decode cX11_offOf 37 = .ok (.getfield 201, 3) := by decide +kernel
theorem dX11_offOf_4 : decode cX11_offOf 4 = .ok (.iload_n 1, 1) := by decide +kernel
theorem dX11_offOf_40 : decode cX11_offOf 40 = .ok (.iload_n 3, 1) := by decide +kernel
theorem dX11_offOf_41 : decode cX11_offOf 41 = .ok (.iaload, 1) := by decide +kernel
theorem dX11_offOf_42 : decode cX11_offOf 42 = .ok (.sipush 1000, 3) := by decide +kernel
theorem dX11_offOf_45 : decode cX11_offOf 45 = .ok (.aload_n 0, 1) := by decide +kernel
theorem dX11_offOf_46 : decode cX11_offOf 46 = .ok (.getfield 26, 3) := by decide +kernel
theorem dX11_offOf_49 : decode cX11_offOf 49 = .ok (.getfield 202, 3) := by decide +kernel
theorem dX11_offOf_5 : decode cX11_offOf 5 = .ok (.iload_n 2, 1) := by decide +kernel
theorem dX11_offOf_52 : decode cX11_offOf 52 = .ok (.iload_n 3, 1) := by decide +kernel
theorem dX11_offOf_53 : decode cX11_offOf 53 = .ok (.iaload, 1) := by decide +kernel
theorem dX11_offOf_54 : decode cX11_offOf 54 = .ok (.isub, 1) := by decide +kernel
theorem dX11_offOf_55 : decode cX11_offOf 55 = .ok (.imul, 1) := by decide +kernel
theorem dX11_offOf_56 : decode cX11_offOf 56 = .ok (.sipush 1000, 3) := by decide +kernel
theorem dX11_offOf_59 : decode cX11_offOf 59 = .ok (.idiv, 1) := by decide +kernel
theorem dX11_offOf_6 : decode cX11_offOf 6 = .ok (.invokevirtual 198, 3) := by decide +kernel
theorem dX11_offOf_60 : decode cX11_offOf 60 = .ok (.istore 5, 2) := by decide +kernel
theorem dX11_offOf_62 : decode cX11_offOf 62 = .ok (.aload_n 0, 1) := by decide +kernel
theorem dX11_offOf_63 : decode cX11_offOf 63 = .ok (.getfield 47, 3) := by decide +kernel
theorem dX11_offOf_66 : decode cX11_offOf 66 = .ok (.invokevirtual 205, 3) := by decide +kernel
theorem dX11_offOf_69 : decode cX11_offOf 69 = .ok (.aload_n 0, 1) := by decide +kernel
theorem dX11_offOf_70 : decode cX11_offOf 70 = .ok (.getfield 47, 3) := by decide +kernel
theorem dX11_offOf_73 : decode cX11_offOf 73 = .ok (.bipush 108, 2) := by decide +kernel
theorem dX11_offOf_75 : decode cX11_offOf 75 = .ok (.iconst 0, 1) := by decide +kernel
theorem dX11_offOf_76 : decode cX11_offOf 76 = .ok (.iload 4, 2) := by decide +kernel
theorem dX11_offOf_78 : decode cX11_offOf 78 = .ok (.iload 5, 2) := by decide +kernel
theorem dX11_offOf_80 : decode cX11_offOf 80 = .ok (.isub, 1) := by decide +kernel
theorem dX11_offOf_81 : decode cX11_offOf 81 = .ok (.invokestatic 188, 3) := by decide +kernel
theorem dX11_offOf_84 : decode cX11_offOf 84 = .ok (.iload 4, 2) := by decide +kernel
theorem dX11_offOf_86 : decode cX11_offOf 86 = .ok (.invokestatic 208, 3) := by decide +kernel
theorem dX11_offOf_89 : decode cX11_offOf 89 = .ok (.invokevirtual 211, 3) := by decide +kernel
theorem dX11_offOf_9 : decode cX11_offOf 9 = .ok (.istore_n 3, 1) := by decide +kernel
theorem dX11_offOf_92 : decode cX11_offOf 92 = .ok (.aload_n 0, 1) := by decide +kernel
theorem dX11_offOf_93 : decode cX11_offOf 93 = .ok (.getfield 47, 3) := by decide +kernel
theorem dX11_offOf_96 : decode cX11_offOf 96 = .ok (.bipush 100, 2) := by decide +kernel
theorem dX11_offOf_98 : decode cX11_offOf 98 = .ok (.aload_n 0, 1) := by decide +kernel
theorem dX11_offOf_99 : decode cX11_offOf 99 = .ok (.getfield 26, 3) := by decide +kernel
theorem dX11_off_0 : decode cX11_off 0 = .ok (.aload_n 0, 1) := by decide +kernel
theorem dX11_off_1 : decode cX11_off 1 = .ok (.getfield 19, 3) := by decide +kernel
theorem dX11_off_11 : decode cX11_off 11 = .ok (.iload_n 2, 1) := by decide +kernel
theorem dX11_off_12 : decode cX11_off 12 = .ok (.iconst 0, 1) := by decide +kernel
theorem dX11_off_13 : decode cX11_off 13 = .ok (.iconst 1, 1) := by decide +kernel
theorem dX11_off_14 : decode cX11_off 14 = .ok (.invokestatic 94, 3) := by decide +kernel
theorem dX11_off_17 : decode cX11_off 17 = .ok (.ifCond .eq 12, 3) := by decide +kernel
theorem dX11_off_20 : decode cX11_off 20 = .ok (.aload_n 0, 1) := by decide +kernel
theorem dX11_off_21 : decode cX11_off 21 = .ok (.iload_n 1, 1) := by decide +kernel
theorem dX11_off_22 : decode cX11_off 22 = .ok (.iload_n 2, 1) := by decide +kernel
theorem dX11_off_23 : decode cX11_off 23 = .ok (.invokevirtual 185, 3) := by decide +kernel
theorem dX11_off_26 : decode cX11_off 26 = .ok (.goto 4, 3) := by decide +kernel
theorem dX11_off_29 : decode cX11_off 29 = .ok (.iconst (-1), 1) := by decide +kernel
theorem dX11_off_30 : decode cX11_off 30 = .ok (.ireturn, 1) := by decide +kernel
theorem dX11_off_4 : decode cX11_off 4 = .ok (.iload_n 1, 1) := by decide +kernel
theorem dX11_off_5 : decode cX11_off 5 = .ok (.invokevirtual 137, 3) := by decide +kernel
theorem dX11_off_8 : decode cX11_off 8 = .ok (.ifCond .eq 21, 3) := by decide +kernel
theorem dX11_open_0 : decode cX11_open 0 = .ok (.aload_n 0, 1) := by decide +kernel
theorem dX11_open_1 : decode cX11_open 1 = .ok (.getfield 19, 3) := by decide +kernel
theorem dX11_open_102 : decode cX11_open 102 = .ok (.iload_n 1, 1) := by decide +kernel
theorem dX11_open_103 : decode cX11_open 103 = .ok (.iload_n 2, 1) := by decide +kernel
theorem dX11_open_104 : decode cX11_open 104 = .ok (.iastore, 1) := by decide +kernel
theorem dX11_open_105 : decode cX11_open 105 = .ok (.aload_n 0, 1) := by decide +kernel
theorem dX11_open_106 : decode cX11_open 106 = .ok (.iload_n 1, 1) := by decide +kernel
theorem dX11_open_107 : decode cX11_open 107 = .ok (.iload_n 3, 1) := by decide +kernel
theorem dX11_open_108 : decode cX11_open 108 = .ok (.iload 4, 2) := by decide +kernel
theorem dX11_open_11 : decode cX11_open 11 = .ok (.iload_n 2, 1) := by decide +kernel
theorem dX11_open_110 : decode cX11_open 110 = .ok (.iload 5, 2) := by decide +kernel
theorem dX11_open_112 : decode cX11_open 112 = .ok (.iload 6, 2) := by decide +kernel
theorem dX11_open_114 : decode cX11_open 114 = .ok (.invokevirtual 154, 3) := by decide +kernel
theorem dX11_open_117 : decode cX11_open 117 = .ok (.ireturn, 1) := by decide +kernel
theorem dX11_open_12 : decode cX11_open 12 = .ok (.invokestatic 138, 3) := by decide +kernel
theorem dX11_open_15 : decode cX11_open 15 = .ok (.ifCond .eq 12, 3) := by decide +kernel
theorem dX11_open_18 : decode cX11_open 18 = .ok (.iload_n 3, 1) := by decide +kernel
theorem dX11_open_19 : decode cX11_open 19 = .ok (.iconst 0, 1) := by decide +kernel
theorem dX11_open_20 : decode cX11_open 20 = .ok (.iconst 3, 1) := by decide +kernel
theorem dX11_open_21 : decode cX11_open 21 = .ok (.invokestatic 94, 3) := by decide +kernel
theorem dX11_open_24 : decode cX11_open 24 = .ok (.ifCond .ne 5, 3) := by decide +kernel
theorem dX11_open_27 : decode cX11_open 27 = .ok (.iconst (-1), 1) := by decide +kernel
theorem dX11_open_28 : decode cX11_open 28 = .ok (.ireturn, 1) := by decide +kernel
theorem dX11_open_29 : decode cX11_open 29 = .ok (.aload_n 0, 1) := by decide +kernel
theorem dX11_open_30 : decode cX11_open 30 = .ok (.getfield 19, 3) := by decide +kernel
theorem dX11_open_33 : decode cX11_open 33 = .ok (.iload_n 1, 1) := by decide +kernel
theorem dX11_open_34 : decode cX11_open 34 = .ok (.invokevirtual 141, 3) := by decide +kernel
theorem dX11_open_37 : decode cX11_open 37 = .ok (.ifCond .ne 15, 3) := by decide +kernel
theorem dX11_open_4 : decode cX11_open 4 = .ok (.iload_n 1, 1) := by decide +kernel
theorem dX11_open_40 : decode cX11_open 40 = .ok (.iload 4, 2) := by decide +kernel
theorem dX11_open_42 : decode cX11_open 42 = .ok (.aload_n 0, 1) := by decide +kernel
theorem dX11_open_43 : decode cX11_open 43 = .ok (.getfield 12, 3) := by decide +kernel
theorem dX11_open_46 : decode cX11_open 46 = .ok (.getfield 102, 3) := by decide +kernel
theorem dX11_open_49 : decode cX11_open 49 = .ok (.if_icmp .le 5, 3) := by decide +kernel
theorem dX11_open_5 : decode cX11_open 5 = .ok (.invokevirtual 137, 3) := by decide +kernel
theorem dX11_open_52 : decode cX11_open 52 = .ok (.iconst (-1), 1) := by decide +kernel
theorem dX11_open_53 : decode cX11_open 53 = .ok (.ireturn, 1) := by decide +kernel
theorem dX11_open_54 : decode cX11_open 54 = .ok (.iload_n 3, 1) := by decide +kernel
theorem dX11_open_55 : decode cX11_open 55 = .ok (.iconst 3, 1) := by decide +kernel
theorem dX11_open_56 : decode cX11_open 56 = .ok (.if_icmp .ne 6, 3) := by decide +kernel
theorem dX11_open_59 : decode cX11_open 59 = .ok (.bipush (-3), 2) := by decide +kernel
theorem dX11_open_61 : decode cX11_open 61 = .ok (.ireturn, 1) := by decide +kernel
theorem dX11_open_62 : decode cX11_open 62 = .ok (.iload 4, 2) := by decide +kernel
theorem dX11_open_64 : decode cX11_open 64 = .ok (.ifCond .ge 6, 3) := by decide +kernel
theorem dX11_open_67 : decode cX11_open 67 = .ok (.bipush (-2), 2) := by decide +kernel
theorem dX11_open_69 : decode cX11_open 69 = .ok (.ireturn, 1) := by decide +kernel
theorem dX11_open_70 : decode cX11_open 70 = .ok (.aload_n 0, 1) := by decide +kernel
theorem dX11_open_71 : decode cX11_open 71 = .ok (.getfield 19, 3) := by decide +kernel
theorem dX11_open_74 : decode cX11_open 74 = .ok (.getfield 144, 3) := by decide +kernel
theorem dX11_open_77 : decode cX11_open 77 = .ok (.iload_n 1, 1) := by decide +kernel
theorem dX11_open_78 : decode cX11_open 78 = .ok (.iaload, 1) := by decide +kernel
theorem dX11_open_79 : decode cX11_open 79 = .ok (.iload_n 3, 1) := by decide +kernel
theorem dX11_open_8 : decode cX11_open 8 = .ok (.ifCond .eq 19, 3) := by decide +kernel
theorem dX11_open_80 : decode cX11_open 80 = .ok (.iload 4, 2) := by decide +kernel
theorem dX11_open_82 : decode cX11_open 82 = .ok (.iload 5, 2) := by decide +kernel
theorem dX11_open_84 : decode cX11_open 84 = .ok (.iload 6, 2) := by decide +kernel
theorem dX11_open_86 : decode cX11_open 86 = .ok (.invokestatic 147, 3) := by decide +kernel
theorem dX11_open_89 : decode cX11_open 89 = .ok (.ifCond .ne 6, 3) := by decide +kernel
theorem dX11_open_92 : decode cX11_open 92 = .ok (.bipush (-4), 2) := by decide +kernel
theorem dX11_open_94 : decode cX11_open 94 = .ok (.ireturn, 1) := by decide +kernel
theorem dX11_open_95 : decode cX11_open 95 = .ok (.aload_n 0, 1) := by decide +kernel
theorem dX11_open_96 : decode cX11_open 96 = .ok (.getfield 19, 3) := by decide +kernel
theorem dX11_open_99 : decode cX11_open 99 = .ok (.getfield 151, 3) := by decide +kernel
theorem dX11_pack_0 : decode cX11_pack 0 = .ok (.aload_n 0, 1) := by decide +kernel
theorem dX11_pack_1 : decode cX11_pack 1 = .ok (.getfield 12, 3) := by decide +kernel
theorem dX11_pack_101 : decode cX11_pack 101 = .ok (.bipush 8, 2) := by decide +kernel
theorem dX11_pack_103 : decode cX11_pack 103 = .ok (.if_icmp .lt 5, 3) := by decide +kernel
theorem dX11_pack_106 : decode cX11_pack 106 = .ok (.iconst (-1), 1) := by decide +kernel
theorem dX11_pack_107 : decode cX11_pack 107 = .ok (.ireturn, 1) := by decide +kernel
theorem dX11_pack_108 : decode cX11_pack 108 = .ok (.aload_n 0, 1) := by decide +kernel
theorem dX11_pack_109 : decode cX11_pack 109 = .ok (.getfield 54, 3) := by decide +kernel
theorem dX11_pack_11 : decode cX11_pack 11 = .ok (.iload_n 2, 1) := by decide +kernel
theorem dX11_pack_112 : decode cX11_pack 112 = .ok (.iload_n 1, 1) := by decide +kernel
theorem dX11_pack_113 : decode cX11_pack 113 = .ok (.iload_n 2, 1) := by decide +kernel
theorem dX11_pack_114 : decode cX11_pack 114 = .ok (.aload_n 0, 1) := by decide +kernel
theorem dX11_pack_115 : decode cX11_pack 115 = .ok (.getfield 19, 3) := by decide +kernel
theorem dX11_pack_118 : decode cX11_pack 118 = .ok (.getfield 176, 3) := by decide +kernel
theorem dX11_pack_12 : decode cX11_pack 12 = .ok (.iconst 1, 1) := by decide +kernel
theorem dX11_pack_121 : decode cX11_pack 121 = .ok (.invokevirtual 273, 3) := by decide +kernel
theorem dX11_pack_124 : decode cX11_pack 124 = .ok (.iload 4, 2) := by decide +kernel
theorem dX11_pack_126 : decode cX11_pack 126 = .ok (.ifCond .le 20, 3) := by decide +kernel
theorem dX11_pack_129 : decode cX11_pack 129 = .ok (.aload_n 0, 1) := by decide +kernel
theorem dX11_pack_13 : decode cX11_pack 13 = .ok (.sipush 9999, 3) := by decide +kernel
theorem dX11_pack_130 : decode cX11_pack 130 = .ok (.getfield 54, 3) := by decide +kernel
theorem dX11_pack_133 : decode cX11_pack 133 = .ok (.iload_n 3, 1) := by decide +kernel
theorem dX11_pack_134 : decode cX11_pack 134 = .ok (.iload 4, 2) := by decide +kernel
theorem dX11_pack_136 : decode cX11_pack 136 = .ok (.aload_n 0, 1) := by decide +kernel
theorem dX11_pack_137 : decode cX11_pack 137 = .ok (.getfield 19, 3) := by decide +kernel
theorem dX11_pack_140 : decode cX11_pack 140 = .ok (.getfield 176, 3) := by decide +kernel
theorem dX11_pack_143 : decode cX11_pack 143 = .ok (.invokevirtual 273, 3) := by decide +kernel
theorem dX11_pack_146 : decode cX11_pack 146 = .ok (.aload_n 0, 1) := by decide +kernel
theorem dX11_pack_147 : decode cX11_pack 147 = .ok (.getfield 82, 3) := by decide +kernel
theorem dX11_pack_150 : decode cX11_pack 150 = .ok (.iload_n 1, 1) := by decide +kernel
theorem dX11_pack_151 : decode cX11_pack 151 = .ok (.iload_n 2, 1) := by decide +kernel
theorem dX11_pack_152 : decode cX11_pack 152 = .ok (.iload 4, 2) := by decide +kernel
theorem dX11_pack_154 : decode cX11_pack 154 = .ok (.ifCond .ne 7, 3) := by decide +kernel
theorem dX11_pack_157 : decode cX11_pack 157 = .ok (.iload_n 1, 1) := by decide +kernel
theorem dX11_pack_158 : decode cX11_pack 158 = .ok (.goto 4, 3) := by decide +kernel
theorem dX11_pack_16 : decode cX11_pack 16 = .ok (.invokestatic 94, 3) := by decide +kernel
theorem dX11_pack_161 : decode cX11_pack 161 = .ok (.iload_n 3, 1) := by decide +kernel
theorem dX11_pack_162 : decode cX11_pack 162 = .ok (.iload 4, 2) := by decide +kernel
theorem dX11_pack_164 : decode cX11_pack 164 = .ok (.invokevirtual 394, 3) := by decide +kernel
theorem dX11_pack_167 : decode cX11_pack 167 = .ok (.ireturn, 1) := by decide +kernel
theorem dX11_pack_19 : decode cX11_pack 19 = .ok (.ifCond .eq 27, 3) := by decide +kernel
theorem dX11_pack_22 : decode cX11_pack 22 = .ok (.iload 4, 2) := by decide +kernel
theorem dX11_pack_24 : decode cX11_pack 24 = .ok (.iconst 0, 1) := by decide +kernel
theorem dX11_pack_25 : decode cX11_pack 25 = .ok (.sipush 9999, 3) := by decide +kernel
theorem dX11_pack_28 : decode cX11_pack 28 = .ok (.invokestatic 94, 3) := by decide +kernel
theorem dX11_pack_31 : decode cX11_pack 31 = .ok (.ifCond .eq 15, 3) := by decide +kernel
theorem dX11_pack_34 : decode cX11_pack 34 = .ok (.aload_n 0, 1) := by decide +kernel
theorem dX11_pack_35 : decode cX11_pack 35 = .ok (.getfield 54, 3) := by decide +kernel
theorem dX11_pack_38 : decode cX11_pack 38 = .ok (.iload_n 1, 1) := by decide +kernel
theorem dX11_pack_39 : decode cX11_pack 39 = .ok (.invokevirtual 263, 3) := by decide +kernel
theorem dX11_pack_4 : decode cX11_pack 4 = .ok (.iload_n 1, 1) := by decide +kernel
theorem dX11_pack_42 : decode cX11_pack 42 = .ok (.iload_n 2, 1) := by decide +kernel
theorem dX11_pack_43 : decode cX11_pack 43 = .ok (.if_icmp .ge 5, 3) := by decide +kernel
theorem dX11_pack_46 : decode cX11_pack 46 = .ok (.iconst (-1), 1) := by decide +kernel
theorem dX11_pack_47 : decode cX11_pack 47 = .ok (.ireturn, 1) := by decide +kernel
theorem dX11_pack_48 : decode cX11_pack 48 = .ok (.iload 4, 2) := by decide +kernel
theorem dX11_pack_5 : decode cX11_pack 5 = .ok (.invokevirtual 98, 3) := by decide +kernel
theorem dX11_pack_50 : decode cX11_pack 50 = .ok (.ifCond .eq 32, 3) := by decide +kernel
theorem dX11_pack_53 : decode cX11_pack 53 = .ok (.aload_n 0, 1) := by decide +kernel
theorem dX11_pack_54 : decode cX11_pack 54 = .ok (.getfield 12, 3) := by decide +kernel
theorem dX11_pack_57 : decode cX11_pack 57 = .ok (.iload_n 3, 1) := by decide +kernel
theorem dX11_pack_58 : decode cX11_pack 58 = .ok (.invokevirtual 98, 3) := by decide +kernel
theorem dX11_pack_61 : decode cX11_pack 61 = .ok (.ifCond .eq 25, 3) := by decide +kernel
theorem dX11_pack_64 : decode cX11_pack 64 = .ok (.iload_n 3, 1) := by decide +kernel
theorem dX11_pack_65 : decode cX11_pack 65 = .ok (.iload_n 1, 1) := by decide +kernel
theorem dX11_pack_66 : decode cX11_pack 66 = .ok (.if_icmp .eq 20, 3) := by decide +kernel
theorem dX11_pack_69 : decode cX11_pack 69 = .ok (.aload_n 0, 1) := by decide +kernel
theorem dX11_pack_70 : decode cX11_pack 70 = .ok (.getfield 54, 3) := by decide +kernel
theorem dX11_pack_73 : decode cX11_pack 73 = .ok (.iload_n 3, 1) := by decide +kernel
theorem dX11_pack_74 : decode cX11_pack 74 = .ok (.invokevirtual 263, 3) := by decide +kernel
theorem dX11_pack_77 : decode cX11_pack 77 = .ok (.iload 4, 2) := by decide +kernel
theorem dX11_pack_79 : decode cX11_pack 79 = .ok (.if_icmp .lt 7, 3) := by decide +kernel
theorem dX11_pack_8 : decode cX11_pack 8 = .ok (.ifCond .eq 38, 3) := by decide +kernel
theorem dX11_pack_82 : decode cX11_pack 82 = .ok (.iconst 1, 1) := by decide +kernel
theorem dX11_pack_83 : decode cX11_pack 83 = .ok (.goto 4, 3) := by decide +kernel
theorem dX11_pack_86 : decode cX11_pack 86 = .ok (.iconst 0, 1) := by decide +kernel
theorem dX11_pack_87 : decode cX11_pack 87 = .ok (.istore 5, 2) := by decide +kernel
theorem dX11_pack_89 : decode cX11_pack 89 = .ok (.iload 5, 2) := by decide +kernel
theorem dX11_pack_91 : decode cX11_pack 91 = .ok (.ifCond .eq 15, 3) := by decide +kernel
theorem dX11_pack_94 : decode cX11_pack 94 = .ok (.aload_n 0, 1) := by decide +kernel
theorem dX11_pack_95 : decode cX11_pack 95 = .ok (.getfield 82, 3) := by decide +kernel
theorem dX11_pack_98 : decode cX11_pack 98 = .ok (.getfield 391, 3) := by decide +kernel
theorem dX11_part_0 : decode cX11_part 0 = .ok (.aload_n 0, 1) := by decide +kernel
theorem dX11_part_1 : decode cX11_part 1 = .ok (.getfield 12, 3) := by decide +kernel
theorem dX11_part_11 : decode cX11_part 11 = .ok (.iload_n 2, 1) := by decide +kernel
theorem dX11_part_12 : decode cX11_part 12 = .ok (.iconst 0, 1) := by decide +kernel
theorem dX11_part_13 : decode cX11_part 13 = .ok (.bipush 12, 2) := by decide +kernel
theorem dX11_part_15 : decode cX11_part 15 = .ok (.invokestatic 94, 3) := by decide +kernel
theorem dX11_part_18 : decode cX11_part 18 = .ok (.ifCond .ne 5, 3) := by decide +kernel
theorem dX11_part_21 : decode cX11_part 21 = .ok (.iconst (-1), 1) := by decide +kernel
theorem dX11_part_22 : decode cX11_part 22 = .ok (.ireturn, 1) := by decide +kernel
theorem dX11_part_23 : decode cX11_part 23 = .ok (.aload_n 0, 1) := by decide +kernel
theorem dX11_part_24 : decode cX11_part 24 = .ok (.getfield 61, 3) := by decide +kernel
theorem dX11_part_27 : decode cX11_part 27 = .ok (.getfield 286, 3) := by decide +kernel
theorem dX11_part_30 : decode cX11_part 30 = .ok (.iload_n 1, 1) := by decide +kernel
theorem dX11_part_31 : decode cX11_part 31 = .ok (.iload_n 2, 1) := by decide +kernel
theorem dX11_part_32 : decode cX11_part 32 = .ok (.iastore, 1) := by decide +kernel
theorem dX11_part_33 : decode cX11_part 33 = .ok (.aload_n 0, 1) := by decide +kernel
theorem dX11_part_34 : decode cX11_part 34 = .ok (.getfield 61, 3) := by decide +kernel
theorem dX11_part_37 : decode cX11_part 37 = .ok (.invokevirtual 289, 3) := by decide +kernel
theorem dX11_part_4 : decode cX11_part 4 = .ok (.iload_n 1, 1) := by decide +kernel
theorem dX11_part_40 : decode cX11_part 40 = .ok (.ireturn, 1) := by decide +kernel
theorem dX11_part_5 : decode cX11_part 5 = .ok (.invokevirtual 98, 3) := by decide +kernel
theorem dX11_part_8 : decode cX11_part 8 = .ok (.ifCond .eq 13, 3) := by decide +kernel
theorem dX11_pay_0 : decode cX11_pay 0 = .ok (.iload_n 1, 1) := by decide +kernel
theorem dX11_pay_1 : decode cX11_pay 1 = .ok (.invokestatic 138, 3) := by decide +kernel
theorem dX11_pay_10 : decode cX11_pay 10 = .ok (.istore_n 2, 1) := by decide +kernel
theorem dX11_pay_100 : decode cX11_pay 100 = .ok (.istore 5, 2) := by decide +kernel
theorem dX11_pay_102 : decode cX11_pay 102 = .ok (.aload_n 0, 1) := by decide +kernel
theorem dX11_pay_103 : decode cX11_pay 103 = .ok (.getfield 47, 3) := by decide +kernel
theorem dX11_pay_106 : decode cX11_pay 106 = .ok (.invokevirtual 205, 3) := by decide +kernel
theorem dX11_pay_109 : decode cX11_pay 109 = .ok (.aload_n 0, 1) := by decide +kernel
theorem dX11_pay_11 : decode cX11_pay 11 = .ok (.iconst 0, 1) := by decide +kernel
theorem dX11_pay_110 : decode cX11_pay 110 = .ok (.getfield 47, 3) := by decide +kernel
theorem dX11_pay_113 : decode cX11_pay 113 = .ok (.bipush 112, 2) := by decide +kernel
theorem dX11_pay_115 : decode cX11_pay 115 = .ok (.iload_n 2, 1) := by decide +kernel
theorem dX11_pay_116 : decode cX11_pay 116 = .ok (.invokevirtual 211, 3) := by decide +kernel
theorem dX11_pay_119 : decode cX11_pay 119 = .ok (.aload_n 0, 1) := by decide +kernel
theorem dX11_pay_12 : decode cX11_pay 12 = .ok (.istore_n 3, 1) := by decide +kernel
theorem dX11_pay_120 : decode cX11_pay 120 = .ok (.getfield 47, 3) := by decide +kernel
theorem dX11_pay_123 : decode cX11_pay 123 = .ok (.bipush 122, 2) := by decide +kernel
theorem dX11_pay_125 : decode cX11_pay 125 = .ok (.iload_n 3, 1) := by decide +kernel
theorem dX11_pay_126 : decode cX11_pay 126 = .ok (.invokevirtual 211, 3) := by decide +kernel
theorem dX11_pay_129 : decode cX11_pay 129 = .ok (.aload_n 0, 1) := by decide +kernel
theorem dX11_pay_13 : decode cX11_pay 13 = .ok (.iconst 0, 1) := by decide +kernel
theorem dX11_pay_130 : decode cX11_pay 130 = .ok (.getfield 47, 3) := by decide +kernel
theorem dX11_pay_133 : decode cX11_pay 133 = .ok (.bipush 110, 2) := by decide +kernel
theorem dX11_pay_135 : decode cX11_pay 135 = .ok (.iload 4, 2) := by decide +kernel
theorem dX11_pay_137 : decode cX11_pay 137 = .ok (.invokevirtual 211, 3) := by decide +kernel
theorem dX11_pay_14 : decode cX11_pay 14 = .ok (.istore 4, 2) := by decide +kernel
theorem dX11_pay_140 : decode cX11_pay 140 = .ok (.aload_n 0, 1) := by decide +kernel
theorem dX11_pay_141 : decode cX11_pay 141 = .ok (.getfield 47, 3) := by decide +kernel
theorem dX11_pay_144 : decode cX11_pay 144 = .ok (.bipush 101, 2) := by decide +kernel
theorem dX11_pay_146 : decode cX11_pay 146 = .ok (.iload 5, 2) := by decide +kernel
theorem dX11_pay_148 : decode cX11_pay 148 = .ok (.iconst (-1), 1) := by decide +kernel
theorem dX11_pay_149 : decode cX11_pay 149 = .ok (.if_icmp .ne 9, 3) := by decide +kernel
theorem dX11_pay_152 : decode cX11_pay 152 = .ok (.sipush 1000, 3) := by decide +kernel
theorem dX11_pay_155 : decode cX11_pay 155 = .ok (.goto 5, 3) := by decide +kernel
theorem dX11_pay_158 : decode cX11_pay 158 = .ok (.iload 5, 2) := by decide +kernel
theorem dX11_pay_16 : decode cX11_pay 16 = .ok (.iconst 0, 1) := by decide +kernel
theorem dX11_pay_160 : decode cX11_pay 160 = .ok (.invokevirtual 211, 3) := by decide +kernel
theorem dX11_pay_163 : decode cX11_pay 163 = .ok (.aload_n 0, 1) := by decide +kernel
theorem dX11_pay_164 : decode cX11_pay 164 = .ok (.getfield 47, 3) := by decide +kernel
theorem dX11_pay_167 : decode cX11_pay 167 = .ok (.bipush 10, 2) := by decide +kernel
theorem dX11_pay_169 : decode cX11_pay 169 = .ok (.invokevirtual 224, 3) := by decide +kernel
theorem dX11_pay_17 : decode cX11_pay 17 = .ok (.istore 5, 2) := by decide +kernel
theorem dX11_pay_172 : decode cX11_pay 172 = .ok (.ireturn, 1) := by decide +kernel
theorem dX11_pay_19 : decode cX11_pay 19 = .ok (.iload 5, 2) := by decide +kernel
theorem dX11_pay_21 : decode cX11_pay 21 = .ok (.aload_n 0, 1) := by decide +kernel
theorem dX11_pay_22 : decode cX11_pay 22 = .ok (.getfield 19, 3) := by decide +kernel
theorem dX11_pay_25 : decode cX11_pay 25 = .ok (.getfield 133, 3) := by decide +kernel
theorem dX11_pay_28 : decode cX11_pay 28 = .ok (.if_icmp .ge 63, 3) := by decide +kernel
theorem dX11_pay_31 : decode cX11_pay 31 = .ok (.aload_n 0, 1) := by decide +kernel
theorem dX11_pay_32 : decode cX11_pay 32 = .ok (.getfield 19, 3) := by decide +kernel
theorem dX11_pay_35 : decode cX11_pay 35 = .ok (.getfield 151, 3) := by decide +kernel
theorem dX11_pay_38 : decode cX11_pay 38 = .ok (.iload 5, 2) := by decide +kernel
theorem dX11_pay_4 : decode cX11_pay 4 = .ok (.ifCond .ne 5, 3) := by decide +kernel
theorem dX11_pay_40 : decode cX11_pay 40 = .ok (.iaload, 1) := by decide +kernel
theorem dX11_pay_41 : decode cX11_pay 41 = .ok (.iload_n 1, 1) := by decide +kernel
theorem dX11_pay_42 : decode cX11_pay 42 = .ok (.if_icmp .ne 43, 3) := by decide +kernel
theorem dX11_pay_45 : decode cX11_pay 45 = .ok (.iload_n 2, 1) := by decide +kernel
theorem dX11_pay_46 : decode cX11_pay 46 = .ok (.aload_n 0, 1) := by decide +kernel
theorem dX11_pay_47 : decode cX11_pay 47 = .ok (.getfield 19, 3) := by decide +kernel
theorem dX11_pay_50 : decode cX11_pay 50 = .ok (.getfield 144, 3) := by decide +kernel
theorem dX11_pay_53 : decode cX11_pay 53 = .ok (.iload 5, 2) := by decide +kernel
theorem dX11_pay_55 : decode cX11_pay 55 = .ok (.iaload, 1) := by decide +kernel
theorem dX11_pay_56 : decode cX11_pay 56 = .ok (.aload_n 0, 1) := by decide +kernel
theorem dX11_pay_57 : decode cX11_pay 57 = .ok (.getfield 19, 3) := by decide +kernel
theorem dX11_pay_60 : decode cX11_pay 60 = .ok (.getfield 168, 3) := by decide +kernel
theorem dX11_pay_63 : decode cX11_pay 63 = .ok (.iload 5, 2) := by decide +kernel
theorem dX11_pay_65 : decode cX11_pay 65 = .ok (.iaload, 1) := by decide +kernel
theorem dX11_pay_66 : decode cX11_pay 66 = .ok (.isub, 1) := by decide +kernel
theorem dX11_pay_67 : decode cX11_pay 67 = .ok (.iadd, 1) := by decide +kernel
theorem dX11_pay_68 : decode cX11_pay 68 = .ok (.istore_n 2, 1) := by decide +kernel
theorem dX11_pay_69 : decode cX11_pay 69 = .ok (.iload_n 3, 1) := by decide +kernel
theorem dX11_pay_7 : decode cX11_pay 7 = .ok (.iconst (-1), 1) := by decide +kernel
theorem dX11_pay_70 : decode cX11_pay 70 = .ok (.aload_n 0, 1) := by decide +kernel
theorem dX11_pay_71 : decode cX11_pay 71 = .ok (.getfield 19, 3) := by decide +kernel
theorem dX11_pay_74 : decode cX11_pay 74 = .ok (.getfield 168, 3) := by decide +kernel
theorem dX11_pay_77 : decode cX11_pay 77 = .ok (.iload 5, 2) := by decide +kernel
theorem dX11_pay_79 : decode cX11_pay 79 = .ok (.iaload, 1) := by decide +kernel
theorem dX11_pay_8 : decode cX11_pay 8 = .ok (.ireturn, 1) := by decide +kernel
theorem dX11_pay_80 : decode cX11_pay 80 = .ok (.iadd, 1) := by decide +kernel
theorem dX11_pay_81 : decode cX11_pay 81 = .ok (.istore_n 3, 1) := by decide +kernel
theorem dX11_pay_82 : decode cX11_pay 82 = .ok (.iinc 4 1, 3) := by decide +kernel
theorem dX11_pay_85 : decode cX11_pay 85 = .ok (.iinc 5 1, 3) := by decide +kernel
theorem dX11_pay_88 : decode cX11_pay 88 = .ok (.goto (-69), 3) := by decide +kernel
theorem dX11_pay_9 : decode cX11_pay 9 = .ok (.iconst 0, 1) := by decide +kernel
theorem dX11_pay_91 : decode cX11_pay 91 = .ok (.aload_n 0, 1) := by decide +kernel
theorem dX11_pay_92 : decode cX11_pay 92 = .ok (.getfield 75, 3) := by decide +kernel
theorem dX11_pay_95 : decode cX11_pay 95 = .ok (.iload_n 1, 1) := by decide +kernel
theorem dX11_pay_96 : decode cX11_pay 96 = .ok (.iconst (-1), 1) := by decide +kernel
theorem dX11_pay_97 : decode cX11_pay 97 = .ok (.invokevirtual 260, 3) := by decide +kernel
theorem dX11_poundsWithin_0 : decode cX11_poundsWithin 0 = .ok (.iconst 0, 1) := by decide +kernel
theorem dX11_poundsWithin_1 : decode cX11_poundsWithin 1 = .ok (.istore_n 3, 1) := by decide +kernel
theorem dX11_poundsWithin_11 : decode cX11_poundsWithin 11 = .ok (.getfield 102, 3) := by decide +kernel
theorem dX11_poundsWithin_14 : decode cX11_poundsWithin 14 = .ok (.if_icmp .ge 37, 3) := by decide +kernel
theorem dX11_poundsWithin_17 : decode cX11_poundsWithin 17 = .ok (.aload_n 0, 1) := by decide +kernel
theorem dX11_poundsWithin_18 : decode cX11_poundsWithin 18 = .ok (.getfield 12, 3) := by decide +kernel
theorem dX11_poundsWithin_2 : decode cX11_poundsWithin 2 = .ok (.iconst 0, 1) := by decide +kernel
theorem dX11_poundsWithin_21 : decode cX11_poundsWithin 21 = .ok (.iload 4, 2) := by decide +kernel
theorem dX11_poundsWithin_23 : decode cX11_poundsWithin 23 = .ok (.iload_n 2, 1) := by decide +kernel
theorem dX11_poundsWithin_24 : decode cX11_poundsWithin 24 = .ok (.invokevirtual 123, 3) := by decide +kernel
theorem dX11_poundsWithin_27 : decode cX11_poundsWithin 27 = .ok (.ifCond .eq 18, 3) := by decide +kernel
theorem dX11_poundsWithin_3 : decode cX11_poundsWithin 3 = .ok (.istore 4, 2) := by decide +kernel
theorem dX11_poundsWithin_30 : decode cX11_poundsWithin 30 = .ok (.iload_n 3, 1) := by decide +kernel
theorem dX11_poundsWithin_31 : decode cX11_poundsWithin 31 = .ok (.aload_n 0, 1) := by decide +kernel
theorem dX11_poundsWithin_32 : decode cX11_poundsWithin 32 = .ok (.getfield 19, 3) := by decide +kernel
theorem dX11_poundsWithin_35 : decode cX11_poundsWithin 35 = .ok (.getfield 161, 3) := by decide +kernel
theorem dX11_poundsWithin_38 : decode cX11_poundsWithin 38 = .ok (.iload_n 1, 1) := by decide +kernel
theorem dX11_poundsWithin_39 : decode cX11_poundsWithin 39 = .ok (.aaload, 1) := by decide +kernel
theorem dX11_poundsWithin_40 : decode cX11_poundsWithin 40 = .ok (.iload 4, 2) := by decide +kernel
theorem dX11_poundsWithin_42 : decode cX11_poundsWithin 42 = .ok (.iaload, 1) := by decide +kernel
theorem dX11_poundsWithin_43 : decode cX11_poundsWithin 43 = .ok (.iadd, 1) := by decide +kernel
theorem dX11_poundsWithin_44 : decode cX11_poundsWithin 44 = .ok (.istore_n 3, 1) := by decide +kernel
theorem dX11_poundsWithin_45 : decode cX11_poundsWithin 45 = .ok (.iinc 4 1, 3) := by decide +kernel
theorem dX11_poundsWithin_48 : decode cX11_poundsWithin 48 = .ok (.goto (-43), 3) := by decide +kernel
theorem dX11_poundsWithin_5 : decode cX11_poundsWithin 5 = .ok (.iload 4, 2) := by decide +kernel
theorem dX11_poundsWithin_51 : decode cX11_poundsWithin 51 = .ok (.iload_n 3, 1) := by decide +kernel
theorem dX11_poundsWithin_52 : decode cX11_poundsWithin 52 = .ok (.ireturn, 1) := by decide +kernel
theorem dX11_poundsWithin_7 : decode cX11_poundsWithin 7 = .ok (.aload_n 0, 1) := by decide +kernel
theorem dX11_poundsWithin_8 : decode cX11_poundsWithin 8 = .ok (.getfield 12, 3) := by decide +kernel
theorem dX11_price_0 : decode cX11_price 0 = .ok (.aload_n 0, 1) := by decide +kernel
theorem dX11_price_1 : decode cX11_price 1 = .ok (.getfield 12, 3) := by decide +kernel
theorem dX11_price_11 : decode cX11_price 11 = .ok (.iload_n 2, 1) := by decide +kernel
theorem dX11_price_12 : decode cX11_price 12 = .ok (.invokestatic 109, 3) := by decide +kernel
theorem dX11_price_15 : decode cX11_price 15 = .ok (.ifCond .eq 18, 3) := by decide +kernel
theorem dX11_price_18 : decode cX11_price 18 = .ok (.iload_n 3, 1) := by decide +kernel
theorem dX11_price_19 : decode cX11_price 19 = .ok (.iconst 0, 1) := by decide +kernel
theorem dX11_price_20 : decode cX11_price 20 = .ok (.sipush 999, 3) := by decide +kernel
theorem dX11_price_23 : decode cX11_price 23 = .ok (.invokestatic 94, 3) := by decide +kernel
theorem dX11_price_26 : decode cX11_price 26 = .ok (.ifCond .eq 7, 3) := by decide +kernel
theorem dX11_price_29 : decode cX11_price 29 = .ok (.iconst 1, 1) := by decide +kernel
theorem dX11_price_30 : decode cX11_price 30 = .ok (.goto 4, 3) := by decide +kernel
theorem dX11_price_33 : decode cX11_price 33 = .ok (.iconst 0, 1) := by decide +kernel
theorem dX11_price_34 : decode cX11_price 34 = .ok (.istore 4, 2) := by decide +kernel
theorem dX11_price_36 : decode cX11_price 36 = .ok (.iload 4, 2) := by decide +kernel
theorem dX11_price_38 : decode cX11_price 38 = .ok (.ifCond .eq 28, 3) := by decide +kernel
theorem dX11_price_4 : decode cX11_price 4 = .ok (.iload_n 1, 1) := by decide +kernel
theorem dX11_price_41 : decode cX11_price 41 = .ok (.aload_n 0, 1) := by decide +kernel
theorem dX11_price_42 : decode cX11_price 42 = .ok (.getfield 12, 3) := by decide +kernel
theorem dX11_price_45 : decode cX11_price 45 = .ok (.getfield 112, 3) := by decide +kernel
theorem dX11_price_48 : decode cX11_price 48 = .ok (.bipush 60, 2) := by decide +kernel
theorem dX11_price_5 : decode cX11_price 5 = .ok (.invokevirtual 98, 3) := by decide +kernel
theorem dX11_price_50 : decode cX11_price 50 = .ok (.if_icmp .ge 16, 3) := by decide +kernel
theorem dX11_price_53 : decode cX11_price 53 = .ok (.aload_n 0, 1) := by decide +kernel
theorem dX11_price_54 : decode cX11_price 54 = .ok (.getfield 12, 3) := by decide +kernel
theorem dX11_price_57 : decode cX11_price 57 = .ok (.iload_n 1, 1) := by decide +kernel
theorem dX11_price_58 : decode cX11_price 58 = .ok (.iload_n 2, 1) := by decide +kernel
theorem dX11_price_59 : decode cX11_price 59 = .ok (.iload_n 3, 1) := by decide +kernel
theorem dX11_price_60 : decode cX11_price 60 = .ok (.invokevirtual 115, 3) := by decide +kernel
theorem dX11_price_63 : decode cX11_price 63 = .ok (.goto 4, 3) := by decide +kernel
theorem dX11_price_66 : decode cX11_price 66 = .ok (.iconst (-1), 1) := by decide +kernel
theorem dX11_price_67 : decode cX11_price 67 = .ok (.ireturn, 1) := by decide +kernel
theorem dX11_price_8 : decode cX11_price 8 = .ok (.ifCond .eq 25, 3) := by decide +kernel
theorem dX11_ring_0 : decode cX11_ring 0 = .ok (.iload_n 1, 1) := by decide +kernel
theorem dX11_ring_1 : decode cX11_ring 1 = .ok (.invokestatic 138, 3) := by decide +kernel
theorem dX11_ring_10 : decode cX11_ring 10 = .ok (.getfield 75, 3) := by decide +kernel
theorem dX11_ring_13 : decode cX11_ring 13 = .ok (.iload_n 1, 1) := by decide +kernel
theorem dX11_ring_14 : decode cX11_ring 14 = .ok (.invokevirtual 379, 3) := by decide +kernel
theorem dX11_ring_17 : decode cX11_ring 17 = .ok (.istore_n 2, 1) := by decide +kernel
theorem dX11_ring_18 : decode cX11_ring 18 = .ok (.aload_n 0, 1) := by decide +kernel
theorem dX11_ring_19 : decode cX11_ring 19 = .ok (.iconst 0, 1) := by decide +kernel
theorem dX11_ring_20 : decode cX11_ring 20 = .ok (.putfield 90, 3) := by decide +kernel
theorem dX11_ring_23 : decode cX11_ring 23 = .ok (.iconst 0, 1) := by decide +kernel
theorem dX11_ring_24 : decode cX11_ring 24 = .ok (.istore_n 3, 1) := by decide +kernel
theorem dX11_ring_25 : decode cX11_ring 25 = .ok (.iload_n 3, 1) := by decide +kernel
theorem dX11_ring_26 : decode cX11_ring 26 = .ok (.bipush 6, 2) := by decide +kernel
theorem dX11_ring_28 : decode cX11_ring 28 = .ok (.if_icmp .ge 23, 3) := by decide +kernel
theorem dX11_ring_31 : decode cX11_ring 31 = .ok (.iload_n 2, 1) := by decide +kernel
theorem dX11_ring_32 : decode cX11_ring 32 = .ok (.iload_n 3, 1) := by decide +kernel
theorem dX11_ring_33 : decode cX11_ring 33 = .ok (.ishr, 1) := by decide +kernel
theorem dX11_ring_34 : decode cX11_ring 34 = .ok (.iconst 1, 1) := by decide +kernel
theorem dX11_ring_35 : decode cX11_ring 35 = .ok (.iand, 1) := by decide +kernel
theorem dX11_ring_36 : decode cX11_ring 36 = .ok (.iconst 1, 1) := by decide +kernel
theorem dX11_ring_37 : decode cX11_ring 37 = .ok (.if_icmp .ne 8, 3) := by decide +kernel
theorem dX11_ring_4 : decode cX11_ring 4 = .ok (.ifCond .ne 5, 3) := by decide +kernel
theorem dX11_ring_40 : decode cX11_ring 40 = .ok (.aload_n 0, 1) := by decide +kernel
theorem dX11_ring_41 : decode cX11_ring 41 = .ok (.iload_n 3, 1) := by decide +kernel
theorem dX11_ring_42 : decode cX11_ring 42 = .ok (.invokevirtual 359, 3) := by decide +kernel
theorem dX11_ring_45 : decode cX11_ring 45 = .ok (.iinc 3 1, 3) := by decide +kernel
theorem dX11_ring_48 : decode cX11_ring 48 = .ok (.goto (-23), 3) := by decide +kernel
theorem dX11_ring_51 : decode cX11_ring 51 = .ok (.aload_n 0, 1) := by decide +kernel
theorem dX11_ring_52 : decode cX11_ring 52 = .ok (.getfield 90, 3) := by decide +kernel
theorem dX11_ring_55 : decode cX11_ring 55 = .ok (.ireturn, 1) := by decide +kernel
theorem dX11_ring_7 : decode cX11_ring 7 = .ok (.iconst (-1), 1) := by decide +kernel
theorem dX11_ring_8 : decode cX11_ring 8 = .ok (.ireturn, 1) := by decide +kernel
theorem dX11_ring_9 : decode cX11_ring 9 = .ok (.aload_n 0, 1) := by decide +kernel
theorem dX11_row_0 : decode cX11_row 0 = .ok (.iload_n 1, 1) := by decide +kernel
theorem dX11_row_1 : decode cX11_row 1 = .ok (.iconst 0, 1) := by decide +kernel
theorem dX11_row_11 : decode cX11_row 11 = .ok (.ifCond .ne 11, 3) := by decide +kernel
theorem dX11_row_14 : decode cX11_row 14 = .ok (.new 277, 3) := by decide +kernel
theorem dX11_row_17 : decode cX11_row 17 = .ok (.dup, 1) := by decide +kernel
theorem dX11_row_18 : decode cX11_row 18 = .ok (.invokespecial 279, 3) := by decide +kernel
theorem dX11_row_2 : decode cX11_row 2 = .ok (.aload_n 0, 1) := by decide +kernel
theorem dX11_row_21 : decode cX11_row 21 = .ok (.athrow, 1) := by decide +kernel
theorem dX11_row_22 : decode cX11_row 22 = .ok (.aload_n 0, 1) := by decide +kernel
theorem dX11_row_23 : decode cX11_row 23 = .ok (.getfield 86, 3) := by decide +kernel
theorem dX11_row_26 : decode cX11_row 26 = .ok (.iload_n 1, 1) := by decide +kernel
theorem dX11_row_27 : decode cX11_row 27 = .ok (.iaload, 1) := by decide +kernel
theorem dX11_row_28 : decode cX11_row 28 = .ok (.ireturn, 1) := by decide +kernel
theorem dX11_row_3 : decode cX11_row 3 = .ok (.getfield 90, 3) := by decide +kernel
theorem dX11_row_6 : decode cX11_row 6 = .ok (.iconst 1, 1) := by decide +kernel
theorem dX11_row_7 : decode cX11_row 7 = .ok (.isub, 1) := by decide +kernel
theorem dX11_row_8 : decode cX11_row 8 = .ok (.invokestatic 94, 3) := by decide +kernel
theorem dX11_share_0 : decode cX11_share 0 = .ok (.aload_n 0, 1) := by decide +kernel
theorem dX11_share_1 : decode cX11_share 1 = .ok (.getfield 82, 3) := by decide +kernel
theorem dX11_share_10 : decode cX11_share 10 = .ok (.putfield 90, 3) := by decide +kernel
theorem dX11_share_13 : decode cX11_share 13 = .ok (.iconst 0, 1) := by decide +kernel
theorem dX11_share_14 : decode cX11_share 14 = .ok (.istore_n 3, 1) := by decide +kernel
theorem dX11_share_15 : decode cX11_share 15 = .ok (.iload_n 3, 1) := by decide +kernel
theorem dX11_share_16 : decode cX11_share 16 = .ok (.aload_n 0, 1) := by decide +kernel
theorem dX11_share_17 : decode cX11_share 17 = .ok (.getfield 82, 3) := by decide +kernel
theorem dX11_share_20 : decode cX11_share 20 = .ok (.getfield 391, 3) := by decide +kernel
theorem dX11_share_23 : decode cX11_share 23 = .ok (.if_icmp .ge 18, 3) := by decide +kernel
theorem dX11_share_26 : decode cX11_share 26 = .ok (.aload_n 0, 1) := by decide +kernel
theorem dX11_share_27 : decode cX11_share 27 = .ok (.lload_n 1, 1) := by decide +kernel
theorem dX11_share_28 : decode cX11_share 28 = .ok (.iload_n 3, 1) := by decide +kernel
theorem dX11_share_29 : decode cX11_share 29 = .ok (.invokestatic 407, 3) := by decide +kernel
theorem dX11_share_32 : decode cX11_share 32 = .ok (.invokevirtual 359, 3) := by decide +kernel
theorem dX11_share_35 : decode cX11_share 35 = .ok (.iinc 3 1, 3) := by decide +kernel
theorem dX11_share_38 : decode cX11_share 38 = .ok (.goto (-23), 3) := by decide +kernel
theorem dX11_share_4 : decode cX11_share 4 = .ok (.invokevirtual 403, 3) := by decide +kernel
theorem dX11_share_41 : decode cX11_share 41 = .ok (.lload_n 1, 1) := by decide +kernel
theorem dX11_share_42 : decode cX11_share 42 = .ok (.invokestatic 411, 3) := by decide +kernel
theorem dX11_share_45 : decode cX11_share 45 = .ok (.ireturn, 1) := by decide +kernel
theorem dX11_share_7 : decode cX11_share 7 = .ok (.lstore_n 1, 1) := by decide +kernel
theorem dX11_share_8 : decode cX11_share 8 = .ok (.aload_n 0, 1) := by decide +kernel
theorem dX11_share_9 : decode cX11_share 9 = .ok (.iconst 0, 1) := by decide +kernel
theorem dX11_sheetFits_0 : decode cX11_sheetFits 0 = .ok (.lconst 0, 1) := by decide +kernel
theorem dX11_sheetFits_1 : decode cX11_sheetFits 1 = .ok (.lstore 5, 2) := by decide +kernel
theorem dX11_sheetFits_12 : decode cX11_sheetFits 12 = .ok (.iload_n 1, 1) := by decide +kernel
theorem dX11_sheetFits_13 : decode cX11_sheetFits 13 = .ok (.iload_n 3, 1) := by decide +kernel
theorem dX11_sheetFits_14 : decode cX11_sheetFits 14 = .ok (.iload 7, 2) := by decide +kernel
theorem dX11_sheetFits_16 : decode cX11_sheetFits 16 = .ok (.iload 4, 2) := by decide +kernel
theorem dX11_sheetFits_18 : decode cX11_sheetFits 18 = .ok (.imul, 1) := by decide +kernel
theorem dX11_sheetFits_19 : decode cX11_sheetFits 19 = .ok (.iadd, 1) := by decide +kernel
theorem dX11_sheetFits_20 : decode cX11_sheetFits 20 = .ok (.invokestatic 158, 3) := by decide +kernel
theorem dX11_sheetFits_23 : decode cX11_sheetFits 23 = .ok (.istore 8, 2) := by decide +kernel
theorem dX11_sheetFits_25 : decode cX11_sheetFits 25 = .ok (.iload 8, 2) := by decide +kernel
theorem dX11_sheetFits_27 : decode cX11_sheetFits 27 = .ok (.ifCond .ge 5, 3) := by decide +kernel
theorem dX11_sheetFits_3 : decode cX11_sheetFits 3 = .ok (.iconst 0, 1) := by decide +kernel
theorem dX11_sheetFits_30 : decode cX11_sheetFits 30 = .ok (.iconst 0, 1) := by decide +kernel
theorem dX11_sheetFits_31 : decode cX11_sheetFits 31 = .ok (.ireturn, 1) := by decide +kernel
theorem dX11_sheetFits_32 : decode cX11_sheetFits 32 = .ok (.lload 5, 2) := by decide +kernel
theorem dX11_sheetFits_34 : decode cX11_sheetFits 34 = .ok (.iload 8, 2) := by decide +kernel
theorem dX11_sheetFits_36 : decode cX11_sheetFits 36 = .ok (.i2l, 1) := by decide +kernel
theorem dX11_sheetFits_37 : decode cX11_sheetFits 37 = .ok (.ladd, 1) := by decide +kernel
theorem dX11_sheetFits_38 : decode cX11_sheetFits 38 = .ok (.lstore 5, 2) := by decide +kernel
theorem dX11_sheetFits_4 : decode cX11_sheetFits 4 = .ok (.istore 7, 2) := by decide +kernel
theorem dX11_sheetFits_40 : decode cX11_sheetFits 40 = .ok (.iinc 7 1, 3) := by decide +kernel
theorem dX11_sheetFits_43 : decode cX11_sheetFits 43 = .ok (.goto (-37), 3) := by decide +kernel
theorem dX11_sheetFits_46 : decode cX11_sheetFits 46 = .ok (.lload 5, 2) := by decide +kernel
theorem dX11_sheetFits_48 : decode cX11_sheetFits 48 = .ok (.iload_n 0, 1) := by decide +kernel
theorem dX11_sheetFits_49 : decode cX11_sheetFits 49 = .ok (.i2l, 1) := by decide +kernel
theorem dX11_sheetFits_50 : decode cX11_sheetFits 50 = .ok (.lcmp, 1) := by decide +kernel
theorem dX11_sheetFits_51 : decode cX11_sheetFits 51 = .ok (.ifCond .gt 7, 3) := by decide +kernel
theorem dX11_sheetFits_54 : decode cX11_sheetFits 54 = .ok (.iconst 1, 1) := by decide +kernel
theorem dX11_sheetFits_55 : decode cX11_sheetFits 55 = .ok (.goto 4, 3) := by decide +kernel
theorem dX11_sheetFits_58 : decode cX11_sheetFits 58 = .ok (.iconst 0, 1) := by decide +kernel
theorem dX11_sheetFits_59 : decode cX11_sheetFits 59 = .ok (.ireturn, 1) := by decide +kernel
theorem dX11_sheetFits_6 : decode cX11_sheetFits 6 = .ok (.iload 7, 2) := by decide +kernel
theorem dX11_sheetFits_8 : decode cX11_sheetFits 8 = .ok (.iload_n 2, 1) := by decide +kernel
theorem dX11_sheetFits_9 : decode cX11_sheetFits 9 = .ok (.if_icmp .ge 37, 3) := by decide +kernel
theorem dX11_sign_0 : decode cX11_sign 0 = .ok (.aload_n 0, 1) := by decide +kernel
theorem dX11_sign_1 : decode cX11_sign 1 = .ok (.getfield 33, 3) := by decide +kernel
theorem dX11_sign_11 : decode cX11_sign 11 = .ok (.if_icmp .gt 14, 3) := by decide +kernel
theorem dX11_sign_14 : decode cX11_sign 14 = .ok (.aload_n 0, 1) := by decide +kernel
theorem dX11_sign_15 : decode cX11_sign 15 = .ok (.getfield 33, 3) := by decide +kernel
theorem dX11_sign_18 : decode cX11_sign 18 = .ok (.iload_n 1, 1) := by decide +kernel
theorem dX11_sign_19 : decode cX11_sign 19 = .ok (.invokevirtual 236, 3) := by decide +kernel
theorem dX11_sign_22 : decode cX11_sign 22 = .ok (.goto 4, 3) := by decide +kernel
theorem dX11_sign_25 : decode cX11_sign 25 = .ok (.iconst (-1), 1) := by decide +kernel
theorem dX11_sign_26 : decode cX11_sign 26 = .ok (.ireturn, 1) := by decide +kernel
theorem dX11_sign_4 : decode cX11_sign 4 = .ok (.getfield 233, 3) := by decide +kernel
theorem dX11_sign_7 : decode cX11_sign 7 = .ok (.iconst 4, 1) := by decide +kernel
theorem dX11_sign_8 : decode cX11_sign 8 = .ok (.iadd, 1) := by decide +kernel
theorem dX11_sign_9 : decode cX11_sign 9 = .ok (.bipush 100, 2) := by decide +kernel
theorem dX11_sort_0 : decode cX11_sort 0 = .ok (.iload_n 1, 1) := by decide +kernel
theorem dX11_sort_1 : decode cX11_sort 1 = .ok (.iconst 0, 1) := by decide +kernel
theorem dX11_sort_100 : decode cX11_sort 100 = .ok (.iconst 0, 1) := by decide +kernel
theorem dX11_sort_101 : decode cX11_sort 101 = .ok (.istore 10, 2) := by decide +kernel
theorem dX11_sort_103 : decode cX11_sort 103 = .ok (.iload 8, 2) := by decide +kernel
theorem dX11_sort_105 : decode cX11_sort 105 = .ok (.ifCond .eq 36, 3) := by decide +kernel
theorem dX11_sort_108 : decode cX11_sort 108 = .ok (.iload 9, 2) := by decide +kernel
theorem dX11_sort_11 : decode cX11_sort 11 = .ok (.iload_n 2, 1) := by decide +kernel
theorem dX11_sort_110 : decode cX11_sort 110 = .ok (.ifCond .eq 31, 3) := by decide +kernel
theorem dX11_sort_113 : decode cX11_sort 113 = .ok (.iload 10, 2) := by decide +kernel
theorem dX11_sort_115 : decode cX11_sort 115 = .ok (.ifCond .eq 26, 3) := by decide +kernel
theorem dX11_sort_118 : decode cX11_sort 118 = .ok (.iload 4, 2) := by decide +kernel
theorem dX11_sort_12 : decode cX11_sort 12 = .ok (.iconst 0, 1) := by decide +kernel
theorem dX11_sort_120 : decode cX11_sort 120 = .ok (.iconst 1, 1) := by decide +kernel
theorem dX11_sort_121 : decode cX11_sort 121 = .ok (.bipush 99, 2) := by decide +kernel
theorem dX11_sort_123 : decode cX11_sort 123 = .ok (.invokestatic 94, 3) := by decide +kernel
theorem dX11_sort_126 : decode cX11_sort 126 = .ok (.ifCond .eq 15, 3) := by decide +kernel
theorem dX11_sort_129 : decode cX11_sort 129 = .ok (.aload_n 0, 1) := by decide +kernel
theorem dX11_sort_13 : decode cX11_sort 13 = .ok (.sipush 255, 3) := by decide +kernel
theorem dX11_sort_130 : decode cX11_sort 130 = .ok (.getfield 12, 3) := by decide +kernel
theorem dX11_sort_133 : decode cX11_sort 133 = .ok (.getfield 102, 3) := by decide +kernel
theorem dX11_sort_136 : decode cX11_sort 136 = .ok (.bipush 16, 2) := by decide +kernel
theorem dX11_sort_138 : decode cX11_sort 138 = .ok (.if_icmp .lt 5, 3) := by decide +kernel
theorem dX11_sort_141 : decode cX11_sort 141 = .ok (.iconst (-1), 1) := by decide +kernel
theorem dX11_sort_142 : decode cX11_sort 142 = .ok (.ireturn, 1) := by decide +kernel
theorem dX11_sort_143 : decode cX11_sort 143 = .ok (.aload_n 0, 1) := by decide +kernel
theorem dX11_sort_144 : decode cX11_sort 144 = .ok (.getfield 12, 3) := by decide +kernel
theorem dX11_sort_147 : decode cX11_sort 147 = .ok (.iload_n 1, 1) := by decide +kernel
theorem dX11_sort_148 : decode cX11_sort 148 = .ok (.iload_n 2, 1) := by decide +kernel
theorem dX11_sort_149 : decode cX11_sort 149 = .ok (.iload_n 3, 1) := by decide +kernel
theorem dX11_sort_150 : decode cX11_sort 150 = .ok (.iload 4, 2) := by decide +kernel
theorem dX11_sort_152 : decode cX11_sort 152 = .ok (.iload 5, 2) := by decide +kernel
theorem dX11_sort_154 : decode cX11_sort 154 = .ok (.iload 6, 2) := by decide +kernel
theorem dX11_sort_156 : decode cX11_sort 156 = .ok (.iload 7, 2) := by decide +kernel
theorem dX11_sort_158 : decode cX11_sort 158 = .ok (.invokevirtual 105, 3) := by decide +kernel
theorem dX11_sort_16 : decode cX11_sort 16 = .ok (.invokestatic 94, 3) := by decide +kernel
theorem dX11_sort_161 : decode cX11_sort 161 = .ok (.ireturn, 1) := by decide +kernel
theorem dX11_sort_19 : decode cX11_sort 19 = .ok (.ifCond .eq 18, 3) := by decide +kernel
theorem dX11_sort_2 : decode cX11_sort 2 = .ok (.sipush 255, 3) := by decide +kernel
theorem dX11_sort_22 : decode cX11_sort 22 = .ok (.iload_n 3, 1) := by decide +kernel
theorem dX11_sort_23 : decode cX11_sort 23 = .ok (.iconst 0, 1) := by decide +kernel
theorem dX11_sort_24 : decode cX11_sort 24 = .ok (.sipush 255, 3) := by decide +kernel
theorem dX11_sort_27 : decode cX11_sort 27 = .ok (.invokestatic 94, 3) := by decide +kernel
theorem dX11_sort_30 : decode cX11_sort 30 = .ok (.ifCond .eq 7, 3) := by decide +kernel
theorem dX11_sort_33 : decode cX11_sort 33 = .ok (.iconst 1, 1) := by decide +kernel
theorem dX11_sort_34 : decode cX11_sort 34 = .ok (.goto 4, 3) := by decide +kernel
theorem dX11_sort_37 : decode cX11_sort 37 = .ok (.iconst 0, 1) := by decide +kernel
theorem dX11_sort_38 : decode cX11_sort 38 = .ok (.istore 8, 2) := by decide +kernel
theorem dX11_sort_40 : decode cX11_sort 40 = .ok (.iload 5, 2) := by decide +kernel
theorem dX11_sort_42 : decode cX11_sort 42 = .ok (.iconst 0, 1) := by decide +kernel
theorem dX11_sort_43 : decode cX11_sort 43 = .ok (.sipush 1000, 3) := by decide +kernel
theorem dX11_sort_46 : decode cX11_sort 46 = .ok (.invokestatic 94, 3) := by decide +kernel
theorem dX11_sort_49 : decode cX11_sort 49 = .ok (.ifCond .eq 26, 3) := by decide +kernel
theorem dX11_sort_5 : decode cX11_sort 5 = .ok (.invokestatic 94, 3) := by decide +kernel
theorem dX11_sort_52 : decode cX11_sort 52 = .ok (.iload 6, 2) := by decide +kernel
theorem dX11_sort_54 : decode cX11_sort 54 = .ok (.iconst 0, 1) := by decide +kernel
theorem dX11_sort_55 : decode cX11_sort 55 = .ok (.sipush 1000, 3) := by decide +kernel
theorem dX11_sort_58 : decode cX11_sort 58 = .ok (.invokestatic 94, 3) := by decide +kernel
theorem dX11_sort_61 : decode cX11_sort 61 = .ok (.ifCond .eq 14, 3) := by decide +kernel
theorem dX11_sort_64 : decode cX11_sort 64 = .ok (.iload 5, 2) := by decide +kernel
theorem dX11_sort_66 : decode cX11_sort 66 = .ok (.iload 6, 2) := by decide +kernel
theorem dX11_sort_68 : decode cX11_sort 68 = .ok (.if_icmp .gt 7, 3) := by decide +kernel
theorem dX11_sort_71 : decode cX11_sort 71 = .ok (.iconst 1, 1) := by decide +kernel
theorem dX11_sort_72 : decode cX11_sort 72 = .ok (.goto 4, 3) := by decide +kernel
theorem dX11_sort_75 : decode cX11_sort 75 = .ok (.iconst 0, 1) := by decide +kernel
theorem dX11_sort_76 : decode cX11_sort 76 = .ok (.istore 9, 2) := by decide +kernel
theorem dX11_sort_78 : decode cX11_sort 78 = .ok (.iload 7, 2) := by decide +kernel
theorem dX11_sort_8 : decode cX11_sort 8 = .ok (.ifCond .eq 29, 3) := by decide +kernel
theorem dX11_sort_80 : decode cX11_sort 80 = .ok (.iconst (-1), 1) := by decide +kernel
theorem dX11_sort_81 : decode cX11_sort 81 = .ok (.if_icmp .eq 15, 3) := by decide +kernel
theorem dX11_sort_84 : decode cX11_sort 84 = .ok (.aload_n 0, 1) := by decide +kernel
theorem dX11_sort_85 : decode cX11_sort 85 = .ok (.getfield 12, 3) := by decide +kernel
theorem dX11_sort_88 : decode cX11_sort 88 = .ok (.iload 7, 2) := by decide +kernel
theorem dX11_sort_90 : decode cX11_sort 90 = .ok (.invokevirtual 98, 3) := by decide +kernel
theorem dX11_sort_93 : decode cX11_sort 93 = .ok (.ifCond .eq 7, 3) := by decide +kernel
theorem dX11_sort_96 : decode cX11_sort 96 = .ok (.iconst 1, 1) := by decide +kernel
theorem dX11_sort_97 : decode cX11_sort 97 = .ok (.goto 4, 3) := by decide +kernel
theorem dX11_split_0 : decode cX11_split 0 = .ok (.aload_n 0, 1) := by decide +kernel
theorem dX11_split_1 : decode cX11_split 1 = .ok (.getfield 12, 3) := by decide +kernel
theorem dX11_split_100 : decode cX11_split 100 = .ok (.iload 5, 2) := by decide +kernel
theorem dX11_split_102 : decode cX11_split 102 = .ok (.i2l, 1) := by decide +kernel
theorem dX11_split_103 : decode cX11_split 103 = .ok (.lneg, 1) := by decide +kernel
theorem dX11_split_104 : decode cX11_split 104 = .ok (.aload_n 0, 1) := by decide +kernel
theorem dX11_split_105 : decode cX11_split 105 = .ok (.getfield 12, 3) := by decide +kernel
theorem dX11_split_108 : decode cX11_split 108 = .ok (.iload_n 1, 1) := by decide +kernel
theorem dX11_split_109 : decode cX11_split 109 = .ok (.iload_n 2, 1) := by decide +kernel
theorem dX11_split_11 : decode cX11_split 11 = .ok (.iload_n 2, 1) := by decide +kernel
theorem dX11_split_110 : decode cX11_split 110 = .ok (.invokevirtual 119, 3) := by decide +kernel
theorem dX11_split_113 : decode cX11_split 113 = .ok (.i2l, 1) := by decide +kernel
theorem dX11_split_114 : decode cX11_split 114 = .ok (.lmul, 1) := by decide +kernel
theorem dX11_split_115 : decode cX11_split 115 = .ok (.lstore 6, 2) := by decide +kernel
theorem dX11_split_117 : decode cX11_split 117 = .ok (.iconst 0, 1) := by decide +kernel
theorem dX11_split_118 : decode cX11_split 118 = .ok (.istore 8, 2) := by decide +kernel
theorem dX11_split_12 : decode cX11_split 12 = .ok (.invokestatic 109, 3) := by decide +kernel
theorem dX11_split_120 : decode cX11_split 120 = .ok (.iload 8, 2) := by decide +kernel
theorem dX11_split_122 : decode cX11_split 122 = .ok (.aload_n 0, 1) := by decide +kernel
theorem dX11_split_123 : decode cX11_split 123 = .ok (.getfield 12, 3) := by decide +kernel
theorem dX11_split_126 : decode cX11_split 126 = .ok (.getfield 102, 3) := by decide +kernel
theorem dX11_split_129 : decode cX11_split 129 = .ok (.if_icmp .ge 56, 3) := by decide +kernel
theorem dX11_split_132 : decode cX11_split 132 = .ok (.aload_n 0, 1) := by decide +kernel
theorem dX11_split_133 : decode cX11_split 133 = .ok (.getfield 12, 3) := by decide +kernel
theorem dX11_split_136 : decode cX11_split 136 = .ok (.getfield 280, 3) := by decide +kernel
theorem dX11_split_139 : decode cX11_split 139 = .ok (.iload 8, 2) := by decide +kernel
theorem dX11_split_141 : decode cX11_split 141 = .ok (.iaload, 1) := by decide +kernel
theorem dX11_split_142 : decode cX11_split 142 = .ok (.iload_n 1, 1) := by decide +kernel
theorem dX11_split_143 : decode cX11_split 143 = .ok (.if_icmp .ne 36, 3) := by decide +kernel
theorem dX11_split_146 : decode cX11_split 146 = .ok (.lload 6, 2) := by decide +kernel
theorem dX11_split_148 : decode cX11_split 148 = .ok (.iload 5, 2) := by decide +kernel
theorem dX11_split_15 : decode cX11_split 15 = .ok (.ifCond .ne 11, 3) := by decide +kernel
theorem dX11_split_150 : decode cX11_split 150 = .ok (.i2l, 1) := by decide +kernel
theorem dX11_split_151 : decode cX11_split 151 = .ok (.aload_n 0, 1) := by decide +kernel
theorem dX11_split_152 : decode cX11_split 152 = .ok (.getfield 19, 3) := by decide +kernel
theorem dX11_split_155 : decode cX11_split 155 = .ok (.iload 8, 2) := by decide +kernel
theorem dX11_split_157 : decode cX11_split 157 = .ok (.invokevirtual 283, 3) := by decide +kernel
theorem dX11_split_160 : decode cX11_split 160 = .ok (.i2l, 1) := by decide +kernel
theorem dX11_split_161 : decode cX11_split 161 = .ok (.lmul, 1) := by decide +kernel
theorem dX11_split_162 : decode cX11_split 162 = .ok (.lload_n 3, 1) := by decide +kernel
theorem dX11_split_163 : decode cX11_split 163 = .ok (.ldiv, 1) := by decide +kernel
theorem dX11_split_164 : decode cX11_split 164 = .ok (.aload_n 0, 1) := by decide +kernel
theorem dX11_split_165 : decode cX11_split 165 = .ok (.getfield 12, 3) := by decide +kernel
theorem dX11_split_168 : decode cX11_split 168 = .ok (.iload 8, 2) := by decide +kernel
theorem dX11_split_170 : decode cX11_split 170 = .ok (.iload_n 2, 1) := by decide +kernel
theorem dX11_split_171 : decode cX11_split 171 = .ok (.invokevirtual 119, 3) := by decide +kernel
theorem dX11_split_174 : decode cX11_split 174 = .ok (.i2l, 1) := by decide +kernel
theorem dX11_split_175 : decode cX11_split 175 = .ok (.lmul, 1) := by decide +kernel
theorem dX11_split_176 : decode cX11_split 176 = .ok (.ladd, 1) := by decide +kernel
theorem dX11_split_177 : decode cX11_split 177 = .ok (.lstore 6, 2) := by decide +kernel
theorem dX11_split_179 : decode cX11_split 179 = .ok (.iinc 8 1, 3) := by decide +kernel
theorem dX11_split_18 : decode cX11_split 18 = .ok (.new 277, 3) := by decide +kernel
theorem dX11_split_182 : decode cX11_split 182 = .ok (.goto (-62), 3) := by decide +kernel
theorem dX11_split_185 : decode cX11_split 185 = .ok (.lload 6, 2) := by decide +kernel
theorem dX11_split_187 : decode cX11_split 187 = .ok (.l2i, 1) := by decide +kernel
theorem dX11_split_188 : decode cX11_split 188 = .ok (.ireturn, 1) := by decide +kernel
theorem dX11_split_21 : decode cX11_split 21 = .ok (.dup, 1) := by decide +kernel
theorem dX11_split_22 : decode cX11_split 22 = .ok (.invokespecial 279, 3) := by decide +kernel
theorem dX11_split_25 : decode cX11_split 25 = .ok (.athrow, 1) := by decide +kernel
theorem dX11_split_26 : decode cX11_split 26 = .ok (.lconst 0, 1) := by decide +kernel
theorem dX11_split_27 : decode cX11_split 27 = .ok (.lstore_n 3, 1) := by decide +kernel
theorem dX11_split_28 : decode cX11_split 28 = .ok (.iconst 0, 1) := by decide +kernel
theorem dX11_split_29 : decode cX11_split 29 = .ok (.istore 5, 2) := by decide +kernel
theorem dX11_split_31 : decode cX11_split 31 = .ok (.iload 5, 2) := by decide +kernel
theorem dX11_split_33 : decode cX11_split 33 = .ok (.aload_n 0, 1) := by decide +kernel
theorem dX11_split_34 : decode cX11_split 34 = .ok (.getfield 12, 3) := by decide +kernel
theorem dX11_split_37 : decode cX11_split 37 = .ok (.getfield 102, 3) := by decide +kernel
theorem dX11_split_4 : decode cX11_split 4 = .ok (.iload_n 1, 1) := by decide +kernel
theorem dX11_split_40 : decode cX11_split 40 = .ok (.if_icmp .ge 36, 3) := by decide +kernel
theorem dX11_split_43 : decode cX11_split 43 = .ok (.aload_n 0, 1) := by decide +kernel
theorem dX11_split_44 : decode cX11_split 44 = .ok (.getfield 12, 3) := by decide +kernel
theorem dX11_split_47 : decode cX11_split 47 = .ok (.getfield 280, 3) := by decide +kernel
theorem dX11_split_5 : decode cX11_split 5 = .ok (.invokevirtual 98, 3) := by decide +kernel
theorem dX11_split_50 : decode cX11_split 50 = .ok (.iload 5, 2) := by decide +kernel
theorem dX11_split_52 : decode cX11_split 52 = .ok (.iaload, 1) := by decide +kernel
theorem dX11_split_53 : decode cX11_split 53 = .ok (.iload_n 1, 1) := by decide +kernel
theorem dX11_split_54 : decode cX11_split 54 = .ok (.if_icmp .ne 16, 3) := by decide +kernel
theorem dX11_split_57 : decode cX11_split 57 = .ok (.lload_n 3, 1) := by decide +kernel
theorem dX11_split_58 : decode cX11_split 58 = .ok (.aload_n 0, 1) := by decide +kernel
theorem dX11_split_59 : decode cX11_split 59 = .ok (.getfield 19, 3) := by decide +kernel
theorem dX11_split_62 : decode cX11_split 62 = .ok (.iload 5, 2) := by decide +kernel
theorem dX11_split_64 : decode cX11_split 64 = .ok (.invokevirtual 283, 3) := by decide +kernel
theorem dX11_split_67 : decode cX11_split 67 = .ok (.i2l, 1) := by decide +kernel
theorem dX11_split_68 : decode cX11_split 68 = .ok (.ladd, 1) := by decide +kernel
theorem dX11_split_69 : decode cX11_split 69 = .ok (.lstore_n 3, 1) := by decide +kernel
theorem dX11_split_70 : decode cX11_split 70 = .ok (.iinc 5 1, 3) := by decide +kernel
theorem dX11_split_73 : decode cX11_split 73 = .ok (.goto (-42), 3) := by decide +kernel
theorem dX11_split_76 : decode cX11_split 76 = .ok (.lload_n 3, 1) := by decide +kernel
theorem dX11_split_77 : decode cX11_split 77 = .ok (.lconst 0, 1) := by decide +kernel
theorem dX11_split_78 : decode cX11_split 78 = .ok (.lcmp, 1) := by decide +kernel
theorem dX11_split_79 : decode cX11_split 79 = .ok (.ifCond .ne 11, 3) := by decide +kernel
theorem dX11_split_8 : decode cX11_split 8 = .ok (.ifCond .eq 10, 3) := by decide +kernel
theorem dX11_split_82 : decode cX11_split 82 = .ok (.new 277, 3) := by decide +kernel
theorem dX11_split_85 : decode cX11_split 85 = .ok (.dup, 1) := by decide +kernel
theorem dX11_split_86 : decode cX11_split 86 = .ok (.invokespecial 279, 3) := by decide +kernel
theorem dX11_split_89 : decode cX11_split 89 = .ok (.athrow, 1) := by decide +kernel
theorem dX11_split_90 : decode cX11_split 90 = .ok (.aload_n 0, 1) := by decide +kernel
theorem dX11_split_91 : decode cX11_split 91 = .ok (.getfield 54, 3) := by decide +kernel
theorem dX11_split_94 : decode cX11_split 94 = .ok (.iload_n 1, 1) := by decide +kernel
theorem dX11_split_95 : decode cX11_split 95 = .ok (.invokevirtual 263, 3) := by decide +kernel
theorem dX11_split_98 : decode cX11_split 98 = .ok (.istore 5, 2) := by decide +kernel
theorem dX11_store_0 : decode cX11_store 0 = .ok (.aload_n 0, 1) := by decide +kernel
theorem dX11_store_1 : decode cX11_store 1 = .ok (.getfield 12, 3) := by decide +kernel
theorem dX11_store_11 : decode cX11_store 11 = .ok (.iload_n 2, 1) := by decide +kernel
theorem dX11_store_12 : decode cX11_store 12 = .ok (.iconst 0, 1) := by decide +kernel
theorem dX11_store_13 : decode cX11_store 13 = .ok (.iconst 1, 1) := by decide +kernel
theorem dX11_store_14 : decode cX11_store 14 = .ok (.invokestatic 94, 3) := by decide +kernel
theorem dX11_store_17 : decode cX11_store 17 = .ok (.ifCond .ne 5, 3) := by decide +kernel
theorem dX11_store_20 : decode cX11_store 20 = .ok (.iconst (-1), 1) := by decide +kernel
theorem dX11_store_21 : decode cX11_store 21 = .ok (.ireturn, 1) := by decide +kernel
theorem dX11_store_22 : decode cX11_store 22 = .ok (.iconst 0, 1) := by decide +kernel
theorem dX11_store_23 : decode cX11_store 23 = .ok (.istore_n 3, 1) := by decide +kernel
theorem dX11_store_24 : decode cX11_store 24 = .ok (.iconst 0, 1) := by decide +kernel
theorem dX11_store_25 : decode cX11_store 25 = .ok (.istore 4, 2) := by decide +kernel
theorem dX11_store_27 : decode cX11_store 27 = .ok (.iload 4, 2) := by decide +kernel
theorem dX11_store_29 : decode cX11_store 29 = .ok (.aload_n 0, 1) := by decide +kernel
theorem dX11_store_30 : decode cX11_store 30 = .ok (.getfield 12, 3) := by decide +kernel
theorem dX11_store_33 : decode cX11_store 33 = .ok (.getfield 102, 3) := by decide +kernel
theorem dX11_store_36 : decode cX11_store 36 = .ok (.if_icmp .ge 45, 3) := by decide +kernel
theorem dX11_store_39 : decode cX11_store 39 = .ok (.iload 4, 2) := by decide +kernel
theorem dX11_store_4 : decode cX11_store 4 = .ok (.iload_n 1, 1) := by decide +kernel
theorem dX11_store_41 : decode cX11_store 41 = .ok (.iload_n 1, 1) := by decide +kernel
theorem dX11_store_42 : decode cX11_store 42 = .ok (.if_icmp .eq 21, 3) := by decide +kernel
theorem dX11_store_45 : decode cX11_store 45 = .ok (.iload_n 2, 1) := by decide +kernel
theorem dX11_store_46 : decode cX11_store 46 = .ok (.iconst 1, 1) := by decide +kernel
theorem dX11_store_47 : decode cX11_store 47 = .ok (.if_icmp .ne 28, 3) := by decide +kernel
theorem dX11_store_5 : decode cX11_store 5 = .ok (.invokevirtual 98, 3) := by decide +kernel
theorem dX11_store_50 : decode cX11_store 50 = .ok (.aload_n 0, 1) := by decide +kernel
theorem dX11_store_51 : decode cX11_store 51 = .ok (.getfield 12, 3) := by decide +kernel
theorem dX11_store_54 : decode cX11_store 54 = .ok (.iload 4, 2) := by decide +kernel
theorem dX11_store_56 : decode cX11_store 56 = .ok (.iload_n 1, 1) := by decide +kernel
theorem dX11_store_57 : decode cX11_store 57 = .ok (.invokevirtual 123, 3) := by decide +kernel
theorem dX11_store_60 : decode cX11_store 60 = .ok (.ifCond .eq 15, 3) := by decide +kernel
theorem dX11_store_63 : decode cX11_store 63 = .ok (.iload_n 3, 1) := by decide +kernel
theorem dX11_store_64 : decode cX11_store 64 = .ok (.aload_n 0, 1) := by decide +kernel
theorem dX11_store_65 : decode cX11_store 65 = .ok (.getfield 54, 3) := by decide +kernel
theorem dX11_store_68 : decode cX11_store 68 = .ok (.iload 4, 2) := by decide +kernel
theorem dX11_store_70 : decode cX11_store 70 = .ok (.invokevirtual 263, 3) := by decide +kernel
theorem dX11_store_73 : decode cX11_store 73 = .ok (.iadd, 1) := by decide +kernel
theorem dX11_store_74 : decode cX11_store 74 = .ok (.istore_n 3, 1) := by decide +kernel
theorem dX11_store_75 : decode cX11_store 75 = .ok (.iinc 4 1, 3) := by decide +kernel
theorem dX11_store_78 : decode cX11_store 78 = .ok (.goto (-51), 3) := by decide +kernel
theorem dX11_store_8 : decode cX11_store 8 = .ok (.ifCond .eq 12, 3) := by decide +kernel
theorem dX11_store_81 : decode cX11_store 81 = .ok (.iload_n 3, 1) := by decide +kernel
theorem dX11_store_82 : decode cX11_store 82 = .ok (.ireturn, 1) := by decide +kernel
theorem dX11_suspects_0 : decode cX11_suspects 0 = .ok (.aload_n 0, 1) := by decide +kernel
theorem dX11_suspects_1 : decode cX11_suspects 1 = .ok (.getfield 68, 3) := by decide +kernel
theorem dX11_suspects_12 : decode cX11_suspects 12 = .ok (.aload_n 0, 1) := by decide +kernel
theorem dX11_suspects_13 : decode cX11_suspects 13 = .ok (.iconst 0, 1) := by decide +kernel
theorem dX11_suspects_14 : decode cX11_suspects 14 = .ok (.putfield 90, 3) := by decide +kernel
theorem dX11_suspects_17 : decode cX11_suspects 17 = .ok (.iconst 0, 1) := by decide +kernel
theorem dX11_suspects_18 : decode cX11_suspects 18 = .ok (.istore_n 2, 1) := by decide +kernel
theorem dX11_suspects_19 : decode cX11_suspects 19 = .ok (.iload_n 2, 1) := by decide +kernel
theorem dX11_suspects_20 : decode cX11_suspects 20 = .ok (.iload_n 1, 1) := by decide +kernel
theorem dX11_suspects_21 : decode cX11_suspects 21 = .ok (.if_icmp .ge 21, 3) := by decide +kernel
theorem dX11_suspects_24 : decode cX11_suspects 24 = .ok (.aload_n 0, 1) := by decide +kernel
theorem dX11_suspects_25 : decode cX11_suspects 25 = .ok (.aload_n 0, 1) := by decide +kernel
theorem dX11_suspects_26 : decode cX11_suspects 26 = .ok (.getfield 68, 3) := by decide +kernel
theorem dX11_suspects_29 : decode cX11_suspects 29 = .ok (.iload_n 2, 1) := by decide +kernel
theorem dX11_suspects_30 : decode cX11_suspects 30 = .ok (.invokevirtual 368, 3) := by decide +kernel
theorem dX11_suspects_33 : decode cX11_suspects 33 = .ok (.invokevirtual 359, 3) := by decide +kernel
theorem dX11_suspects_36 : decode cX11_suspects 36 = .ok (.iinc 2 1, 3) := by decide +kernel
theorem dX11_suspects_39 : decode cX11_suspects 39 = .ok (.goto (-20), 3) := by decide +kernel
theorem dX11_suspects_4 : decode cX11_suspects 4 = .ok (.invokevirtual 365, 3) := by decide +kernel
theorem dX11_suspects_42 : decode cX11_suspects 42 = .ok (.iload_n 1, 1) := by decide +kernel
theorem dX11_suspects_43 : decode cX11_suspects 43 = .ok (.ireturn, 1) := by decide +kernel
theorem dX11_suspects_7 : decode cX11_suspects 7 = .ok (.istore_n 1, 1) := by decide +kernel
theorem dX11_suspects_8 : decode cX11_suspects 8 = .ok (.iload_n 1, 1) := by decide +kernel
theorem dX11_suspects_9 : decode cX11_suspects 9 = .ok (.ifCond .lt 33, 3) := by decide +kernel
theorem dX11_takes_0 : decode cX11_takes 0 = .ok (.iload_n 1, 1) := by decide +kernel
theorem dX11_takes_1 : decode cX11_takes 1 = .ok (.invokestatic 382, 3) := by decide +kernel
theorem dX11_takes_11 : decode cX11_takes 11 = .ok (.invokestatic 94, 3) := by decide +kernel
theorem dX11_takes_14 : decode cX11_takes 14 = .ok (.ifCond .ne 5, 3) := by decide +kernel
theorem dX11_takes_17 : decode cX11_takes 17 = .ok (.iconst (-1), 1) := by decide +kernel
theorem dX11_takes_18 : decode cX11_takes 18 = .ok (.ireturn, 1) := by decide +kernel
theorem dX11_takes_19 : decode cX11_takes 19 = .ok (.aload_n 0, 1) := by decide +kernel
theorem dX11_takes_20 : decode cX11_takes 20 = .ok (.getfield 82, 3) := by decide +kernel
theorem dX11_takes_23 : decode cX11_takes 23 = .ok (.getfield 388, 3) := by decide +kernel
theorem dX11_takes_26 : decode cX11_takes 26 = .ok (.iload_n 1, 1) := by decide +kernel
theorem dX11_takes_27 : decode cX11_takes 27 = .ok (.iaload, 1) := by decide +kernel
theorem dX11_takes_28 : decode cX11_takes 28 = .ok (.istore_n 3, 1) := by decide +kernel
theorem dX11_takes_29 : decode cX11_takes 29 = .ok (.aload_n 0, 1) := by decide +kernel
theorem dX11_takes_30 : decode cX11_takes 30 = .ok (.getfield 82, 3) := by decide +kernel
theorem dX11_takes_33 : decode cX11_takes 33 = .ok (.getfield 388, 3) := by decide +kernel
theorem dX11_takes_36 : decode cX11_takes 36 = .ok (.iload_n 1, 1) := by decide +kernel
theorem dX11_takes_37 : decode cX11_takes 37 = .ok (.iload_n 2, 1) := by decide +kernel
theorem dX11_takes_38 : decode cX11_takes 38 = .ok (.iastore, 1) := by decide +kernel
theorem dX11_takes_39 : decode cX11_takes 39 = .ok (.iload_n 3, 1) := by decide +kernel
theorem dX11_takes_4 : decode cX11_takes 4 = .ok (.ifCond .eq 13, 3) := by decide +kernel
theorem dX11_takes_40 : decode cX11_takes 40 = .ok (.ireturn, 1) := by decide +kernel
theorem dX11_takes_7 : decode cX11_takes 7 = .ok (.iload_n 2, 1) := by decide +kernel
theorem dX11_takes_8 : decode cX11_takes 8 = .ok (.iconst 0, 1) := by decide +kernel
theorem dX11_takes_9 : decode cX11_takes 9 = .ok (.bipush 8, 2) := by decide +kernel
theorem dX11_tellBlend_0 : decode cX11_tellBlend 0 = .ok (.aload_n 0, 1) := by decide +kernel
theorem dX11_tellBlend_1 : decode cX11_tellBlend 1 = .ok (.getfield 61, 3) := by decide +kernel
theorem dX11_tellBlend_10 : decode cX11_tellBlend 10 = .ok (.iconst 0, 1) := by decide +kernel
theorem dX11_tellBlend_100 : decode cX11_tellBlend 100 = .ok (.invokevirtual 211, 3) := by decide +kernel
theorem dX11_tellBlend_103 : decode cX11_tellBlend 103 = .ok (.aload_n 0, 1) := by decide +kernel
theorem dX11_tellBlend_104 : decode cX11_tellBlend 104 = .ok (.getfield 47, 3) := by decide +kernel
theorem dX11_tellBlend_107 : decode cX11_tellBlend 107 = .ok (.bipush 103, 2) := by decide +kernel
theorem dX11_tellBlend_109 : decode cX11_tellBlend 109 = .ok (.aload_n 2, 1) := by decide +kernel
theorem dX11_tellBlend_11 : decode cX11_tellBlend 11 = .ok (.istore 4, 2) := by decide +kernel
theorem dX11_tellBlend_110 : decode cX11_tellBlend 110 = .ok (.iconst 1, 1) := by decide +kernel
theorem dX11_tellBlend_111 : decode cX11_tellBlend 111 = .ok (.iaload, 1) := by decide +kernel
theorem dX11_tellBlend_112 : decode cX11_tellBlend 112 = .ok (.bipush 12, 2) := by decide +kernel
theorem dX11_tellBlend_114 : decode cX11_tellBlend 114 = .ok (.idiv, 1) := by decide +kernel
theorem dX11_tellBlend_115 : decode cX11_tellBlend 115 = .ok (.invokevirtual 211, 3) := by decide +kernel
theorem dX11_tellBlend_118 : decode cX11_tellBlend 118 = .ok (.aload_n 0, 1) := by decide +kernel
theorem dX11_tellBlend_119 : decode cX11_tellBlend 119 = .ok (.getfield 47, 3) := by decide +kernel
theorem dX11_tellBlend_122 : decode cX11_tellBlend 122 = .ok (.bipush 98, 2) := by decide +kernel
theorem dX11_tellBlend_124 : decode cX11_tellBlend 124 = .ok (.aload_n 2, 1) := by decide +kernel
theorem dX11_tellBlend_125 : decode cX11_tellBlend 125 = .ok (.iconst 2, 1) := by decide +kernel
theorem dX11_tellBlend_126 : decode cX11_tellBlend 126 = .ok (.iaload, 1) := by decide +kernel
theorem dX11_tellBlend_127 : decode cX11_tellBlend 127 = .ok (.bipush 12, 2) := by decide +kernel
theorem dX11_tellBlend_129 : decode cX11_tellBlend 129 = .ok (.idiv, 1) := by decide +kernel
theorem dX11_tellBlend_13 : decode cX11_tellBlend 13 = .ok (.aload_n 2, 1) := by decide +kernel
theorem dX11_tellBlend_130 : decode cX11_tellBlend 130 = .ok (.invokevirtual 211, 3) := by decide +kernel
theorem dX11_tellBlend_133 : decode cX11_tellBlend 133 = .ok (.aload_n 0, 1) := by decide +kernel
theorem dX11_tellBlend_134 : decode cX11_tellBlend 134 = .ok (.getfield 47, 3) := by decide +kernel
theorem dX11_tellBlend_137 : decode cX11_tellBlend 137 = .ok (.bipush 115, 2) := by decide +kernel
theorem dX11_tellBlend_139 : decode cX11_tellBlend 139 = .ok (.aload_n 2, 1) := by decide +kernel
theorem dX11_tellBlend_14 : decode cX11_tellBlend 14 = .ok (.iconst 0, 1) := by decide +kernel
theorem dX11_tellBlend_140 : decode cX11_tellBlend 140 = .ok (.iconst 3, 1) := by decide +kernel
theorem dX11_tellBlend_141 : decode cX11_tellBlend 141 = .ok (.iaload, 1) := by decide +kernel
theorem dX11_tellBlend_142 : decode cX11_tellBlend 142 = .ok (.bipush 12, 2) := by decide +kernel
theorem dX11_tellBlend_144 : decode cX11_tellBlend 144 = .ok (.idiv, 1) := by decide +kernel
theorem dX11_tellBlend_145 : decode cX11_tellBlend 145 = .ok (.invokevirtual 211, 3) := by decide +kernel
theorem dX11_tellBlend_148 : decode cX11_tellBlend 148 = .ok (.aload_n 0, 1) := by decide +kernel
theorem dX11_tellBlend_149 : decode cX11_tellBlend 149 = .ok (.getfield 47, 3) := by decide +kernel
theorem dX11_tellBlend_15 : decode cX11_tellBlend 15 = .ok (.invokestatic 306, 3) := by decide +kernel
theorem dX11_tellBlend_152 : decode cX11_tellBlend 152 = .ok (.bipush 119, 2) := by decide +kernel
theorem dX11_tellBlend_154 : decode cX11_tellBlend 154 = .ok (.aload_n 2, 1) := by decide +kernel
theorem dX11_tellBlend_155 : decode cX11_tellBlend 155 = .ok (.iconst 4, 1) := by decide +kernel
theorem dX11_tellBlend_156 : decode cX11_tellBlend 156 = .ok (.iaload, 1) := by decide +kernel
theorem dX11_tellBlend_157 : decode cX11_tellBlend 157 = .ok (.bipush 12, 2) := by decide +kernel
theorem dX11_tellBlend_159 : decode cX11_tellBlend 159 = .ok (.idiv, 1) := by decide +kernel
theorem dX11_tellBlend_160 : decode cX11_tellBlend 160 = .ok (.invokevirtual 211, 3) := by decide +kernel
theorem dX11_tellBlend_163 : decode cX11_tellBlend 163 = .ok (.aload_n 0, 1) := by decide +kernel
theorem dX11_tellBlend_164 : decode cX11_tellBlend 164 = .ok (.getfield 47, 3) := by decide +kernel
theorem dX11_tellBlend_167 : decode cX11_tellBlend 167 = .ok (.bipush 118, 2) := by decide +kernel
theorem dX11_tellBlend_169 : decode cX11_tellBlend 169 = .ok (.aload_n 2, 1) := by decide +kernel
theorem dX11_tellBlend_170 : decode cX11_tellBlend 170 = .ok (.iconst 5, 1) := by decide +kernel
theorem dX11_tellBlend_171 : decode cX11_tellBlend 171 = .ok (.iaload, 1) := by decide +kernel
theorem dX11_tellBlend_172 : decode cX11_tellBlend 172 = .ok (.bipush 12, 2) := by decide +kernel
theorem dX11_tellBlend_174 : decode cX11_tellBlend 174 = .ok (.idiv, 1) := by decide +kernel
theorem dX11_tellBlend_175 : decode cX11_tellBlend 175 = .ok (.invokevirtual 211, 3) := by decide +kernel
theorem dX11_tellBlend_178 : decode cX11_tellBlend 178 = .ok (.aload_n 0, 1) := by decide +kernel
theorem dX11_tellBlend_179 : decode cX11_tellBlend 179 = .ok (.getfield 47, 3) := by decide +kernel
theorem dX11_tellBlend_18 : decode cX11_tellBlend 18 = .ok (.iconst 0, 1) := by decide +kernel
theorem dX11_tellBlend_182 : decode cX11_tellBlend 182 = .ok (.bipush 110, 2) := by decide +kernel
theorem dX11_tellBlend_184 : decode cX11_tellBlend 184 = .ok (.iload_n 3, 1) := by decide +kernel
theorem dX11_tellBlend_185 : decode cX11_tellBlend 185 = .ok (.invokevirtual 211, 3) := by decide +kernel
theorem dX11_tellBlend_188 : decode cX11_tellBlend 188 = .ok (.aload_n 0, 1) := by decide +kernel
theorem dX11_tellBlend_189 : decode cX11_tellBlend 189 = .ok (.getfield 47, 3) := by decide +kernel
theorem dX11_tellBlend_19 : decode cX11_tellBlend 19 = .ok (.istore 5, 2) := by decide +kernel
theorem dX11_tellBlend_192 : decode cX11_tellBlend 192 = .ok (.bipush 109, 2) := by decide +kernel
theorem dX11_tellBlend_194 : decode cX11_tellBlend 194 = .ok (.iload 4, 2) := by decide +kernel
theorem dX11_tellBlend_196 : decode cX11_tellBlend 196 = .ok (.invokevirtual 211, 3) := by decide +kernel
theorem dX11_tellBlend_199 : decode cX11_tellBlend 199 = .ok (.return_, 1) := by decide +kernel
theorem dX11_tellBlend_21 : decode cX11_tellBlend 21 = .ok (.iload 5, 2) := by decide +kernel
theorem dX11_tellBlend_23 : decode cX11_tellBlend 23 = .ok (.aload_n 0, 1) := by decide +kernel
theorem dX11_tellBlend_24 : decode cX11_tellBlend 24 = .ok (.getfield 12, 3) := by decide +kernel
theorem dX11_tellBlend_27 : decode cX11_tellBlend 27 = .ok (.getfield 102, 3) := by decide +kernel
theorem dX11_tellBlend_30 : decode cX11_tellBlend 30 = .ok (.if_icmp .ge 51, 3) := by decide +kernel
theorem dX11_tellBlend_33 : decode cX11_tellBlend 33 = .ok (.iload 5, 2) := by decide +kernel
theorem dX11_tellBlend_35 : decode cX11_tellBlend 35 = .ok (.aload_n 1, 1) := by decide +kernel
theorem dX11_tellBlend_36 : decode cX11_tellBlend 36 = .ok (.arraylength, 1) := by decide +kernel
theorem dX11_tellBlend_37 : decode cX11_tellBlend 37 = .ok (.if_icmp .ge 44, 3) := by decide +kernel
theorem dX11_tellBlend_4 : decode cX11_tellBlend 4 = .ok (.getfield 303, 3) := by decide +kernel
theorem dX11_tellBlend_40 : decode cX11_tellBlend 40 = .ok (.aload_n 1, 1) := by decide +kernel
theorem dX11_tellBlend_41 : decode cX11_tellBlend 41 = .ok (.iload 5, 2) := by decide +kernel
theorem dX11_tellBlend_43 : decode cX11_tellBlend 43 = .ok (.iaload, 1) := by decide +kernel
theorem dX11_tellBlend_44 : decode cX11_tellBlend 44 = .ok (.ifCond .le 31, 3) := by decide +kernel
theorem dX11_tellBlend_47 : decode cX11_tellBlend 47 = .ok (.iinc 3 1, 3) := by decide +kernel
theorem dX11_tellBlend_50 : decode cX11_tellBlend 50 = .ok (.iload 4, 2) := by decide +kernel
theorem dX11_tellBlend_52 : decode cX11_tellBlend 52 = .ok (.aload_n 1, 1) := by decide +kernel
theorem dX11_tellBlend_53 : decode cX11_tellBlend 53 = .ok (.iload 5, 2) := by decide +kernel
theorem dX11_tellBlend_55 : decode cX11_tellBlend 55 = .ok (.iaload, 1) := by decide +kernel
theorem dX11_tellBlend_56 : decode cX11_tellBlend 56 = .ok (.invokestatic 188, 3) := by decide +kernel
theorem dX11_tellBlend_59 : decode cX11_tellBlend 59 = .ok (.istore 4, 2) := by decide +kernel
theorem dX11_tellBlend_61 : decode cX11_tellBlend 61 = .ok (.aload_n 0, 1) := by decide +kernel
theorem dX11_tellBlend_62 : decode cX11_tellBlend 62 = .ok (.getfield 12, 3) := by decide +kernel
theorem dX11_tellBlend_65 : decode cX11_tellBlend 65 = .ok (.iload 5, 2) := by decide +kernel
theorem dX11_tellBlend_67 : decode cX11_tellBlend 67 = .ok (.aload_n 1, 1) := by decide +kernel
theorem dX11_tellBlend_68 : decode cX11_tellBlend 68 = .ok (.iload 5, 2) := by decide +kernel
theorem dX11_tellBlend_7 : decode cX11_tellBlend 7 = .ok (.astore_n 2, 1) := by decide +kernel
theorem dX11_tellBlend_70 : decode cX11_tellBlend 70 = .ok (.iaload, 1) := by decide +kernel
theorem dX11_tellBlend_71 : decode cX11_tellBlend 71 = .ok (.aload_n 2, 1) := by decide +kernel
theorem dX11_tellBlend_72 : decode cX11_tellBlend 72 = .ok (.invokevirtual 312, 3) := by decide +kernel
theorem dX11_tellBlend_75 : decode cX11_tellBlend 75 = .ok (.iinc 5 1, 3) := by decide +kernel
theorem dX11_tellBlend_78 : decode cX11_tellBlend 78 = .ok (.goto (-57), 3) := by decide +kernel
theorem dX11_tellBlend_8 : decode cX11_tellBlend 8 = .ok (.iconst 0, 1) := by decide +kernel
theorem dX11_tellBlend_81 : decode cX11_tellBlend 81 = .ok (.aload_n 0, 1) := by decide +kernel
theorem dX11_tellBlend_82 : decode cX11_tellBlend 82 = .ok (.getfield 47, 3) := by decide +kernel
theorem dX11_tellBlend_85 : decode cX11_tellBlend 85 = .ok (.invokevirtual 205, 3) := by decide +kernel
theorem dX11_tellBlend_88 : decode cX11_tellBlend 88 = .ok (.aload_n 0, 1) := by decide +kernel
theorem dX11_tellBlend_89 : decode cX11_tellBlend 89 = .ok (.getfield 47, 3) := by decide +kernel
theorem dX11_tellBlend_9 : decode cX11_tellBlend 9 = .ok (.istore_n 3, 1) := by decide +kernel
theorem dX11_tellBlend_92 : decode cX11_tellBlend 92 = .ok (.bipush 114, 2) := by decide +kernel
theorem dX11_tellBlend_94 : decode cX11_tellBlend 94 = .ok (.aload_n 2, 1) := by decide +kernel
theorem dX11_tellBlend_95 : decode cX11_tellBlend 95 = .ok (.iconst 0, 1) := by decide +kernel
theorem dX11_tellBlend_96 : decode cX11_tellBlend 96 = .ok (.iaload, 1) := by decide +kernel
theorem dX11_tellBlend_97 : decode cX11_tellBlend 97 = .ok (.bipush 12, 2) := by decide +kernel
theorem dX11_tellBlend_99 : decode cX11_tellBlend 99 = .ok (.idiv, 1) := by decide +kernel
theorem dX11_tell_0 : decode cX11_tell 0 = .ok (.aload_n 0, 1) := by decide +kernel
theorem dX11_tell_1 : decode cX11_tell 1 = .ok (.getfield 90, 3) := by decide +kernel
theorem dX11_tell_10 : decode cX11_tell 10 = .ok (.getfield 86, 3) := by decide +kernel
theorem dX11_tell_13 : decode cX11_tell 13 = .ok (.aload_n 0, 1) := by decide +kernel
theorem dX11_tell_14 : decode cX11_tell 14 = .ok (.getfield 90, 3) := by decide +kernel
theorem dX11_tell_17 : decode cX11_tell 17 = .ok (.iload_n 1, 1) := by decide +kernel
theorem dX11_tell_18 : decode cX11_tell 18 = .ok (.iastore, 1) := by decide +kernel
theorem dX11_tell_19 : decode cX11_tell 19 = .ok (.aload_n 0, 1) := by decide +kernel
theorem dX11_tell_20 : decode cX11_tell 20 = .ok (.dup, 1) := by decide +kernel
theorem dX11_tell_21 : decode cX11_tell 21 = .ok (.getfield 90, 3) := by decide +kernel
theorem dX11_tell_24 : decode cX11_tell 24 = .ok (.iconst 1, 1) := by decide +kernel
theorem dX11_tell_25 : decode cX11_tell 25 = .ok (.iadd, 1) := by decide +kernel
theorem dX11_tell_26 : decode cX11_tell 26 = .ok (.putfield 90, 3) := by decide +kernel
theorem dX11_tell_29 : decode cX11_tell 29 = .ok (.return_, 1) := by decide +kernel
theorem dX11_tell_4 : decode cX11_tell 4 = .ok (.bipush 48, 2) := by decide +kernel
theorem dX11_tell_6 : decode cX11_tell 6 = .ok (.if_icmp .ge 23, 3) := by decide +kernel
theorem dX11_tell_9 : decode cX11_tell 9 = .ok (.aload_n 0, 1) := by decide +kernel
theorem dX11_text_0 : decode cX11_text 0 = .ok (.aload_n 0, 1) := by decide +kernel
theorem dX11_text_1 : decode cX11_text 1 = .ok (.getfield 33, 3) := by decide +kernel
theorem dX11_text_100 : decode cX11_text 100 = .ok (.isub, 1) := by decide +kernel
theorem dX11_text_101 : decode cX11_text 101 = .ok (.ireturn, 1) := by decide +kernel
theorem dX11_text_102 : decode cX11_text 102 = .ok (.iload_n 1, 1) := by decide +kernel
theorem dX11_text_103 : decode cX11_text 103 = .ok (.iconst 1, 1) := by decide +kernel
theorem dX11_text_104 : decode cX11_text 104 = .ok (.if_icmp .ne 25, 3) := by decide +kernel
theorem dX11_text_107 : decode cX11_text 107 = .ok (.aload_n 0, 1) := by decide +kernel
theorem dX11_text_108 : decode cX11_text 108 = .ok (.getfield 47, 3) := by decide +kernel
theorem dX11_text_111 : decode cX11_text 111 = .ok (.aload_n 0, 1) := by decide +kernel
theorem dX11_text_112 : decode cX11_text 112 = .ok (.getfield 40, 3) := by decide +kernel
theorem dX11_text_115 : decode cX11_text 115 = .ok (.getfield 248, 3) := by decide +kernel
theorem dX11_text_118 : decode cX11_text 118 = .ok (.aload_n 0, 1) := by decide +kernel
theorem dX11_text_119 : decode cX11_text 119 = .ok (.getfield 40, 3) := by decide +kernel
theorem dX11_text_12 : decode cX11_text 12 = .ok (.iconst 0, 1) := by decide +kernel
theorem dX11_text_122 : decode cX11_text 122 = .ok (.getfield 251, 3) := by decide +kernel
theorem dX11_text_125 : decode cX11_text 125 = .ok (.invokevirtual 252, 3) := by decide +kernel
theorem dX11_text_128 : decode cX11_text 128 = .ok (.ireturn, 1) := by decide +kernel
theorem dX11_text_129 : decode cX11_text 129 = .ok (.aload_n 0, 1) := by decide +kernel
theorem dX11_text_13 : decode cX11_text 13 = .ok (.putfield 233, 3) := by decide +kernel
theorem dX11_text_130 : decode cX11_text 130 = .ok (.getfield 47, 3) := by decide +kernel
theorem dX11_text_133 : decode cX11_text 133 = .ok (.iload_n 1, 1) := by decide +kernel
theorem dX11_text_134 : decode cX11_text 134 = .ok (.ifCond .ne 7, 3) := by decide +kernel
theorem dX11_text_137 : decode cX11_text 137 = .ok (.iload_n 2, 1) := by decide +kernel
theorem dX11_text_138 : decode cX11_text 138 = .ok (.goto 5, 3) := by decide +kernel
theorem dX11_text_141 : decode cX11_text 141 = .ok (.bipush 10, 2) := by decide +kernel
theorem dX11_text_143 : decode cX11_text 143 = .ok (.aload_n 0, 1) := by decide +kernel
theorem dX11_text_144 : decode cX11_text 144 = .ok (.getfield 40, 3) := by decide +kernel
theorem dX11_text_147 : decode cX11_text 147 = .ok (.getfield 248, 3) := by decide +kernel
theorem dX11_text_150 : decode cX11_text 150 = .ok (.aload_n 0, 1) := by decide +kernel
theorem dX11_text_151 : decode cX11_text 151 = .ok (.getfield 40, 3) := by decide +kernel
theorem dX11_text_154 : decode cX11_text 154 = .ok (.getfield 251, 3) := by decide +kernel
theorem dX11_text_157 : decode cX11_text 157 = .ok (.invokevirtual 256, 3) := by decide +kernel
theorem dX11_text_16 : decode cX11_text 16 = .ok (.iload_n 1, 1) := by decide +kernel
theorem dX11_text_160 : decode cX11_text 160 = .ok (.iconst 0, 1) := by decide +kernel
theorem dX11_text_161 : decode cX11_text 161 = .ok (.ireturn, 1) := by decide +kernel
theorem dX11_text_17 : decode cX11_text 17 = .ok (.ifCond .ne 10, 3) := by decide +kernel
theorem dX11_text_20 : decode cX11_text 20 = .ok (.iload_n 2, 1) := by decide +kernel
theorem dX11_text_21 : decode cX11_text 21 = .ok (.invokestatic 127, 3) := by decide +kernel
theorem dX11_text_24 : decode cX11_text 24 = .ok (.ifCond .ne 8, 3) := by decide +kernel
theorem dX11_text_27 : decode cX11_text 27 = .ok (.iload_n 1, 1) := by decide +kernel
theorem dX11_text_28 : decode cX11_text 28 = .ok (.iconst 2, 1) := by decide +kernel
theorem dX11_text_29 : decode cX11_text 29 = .ok (.if_icmp .ne 7, 3) := by decide +kernel
theorem dX11_text_32 : decode cX11_text 32 = .ok (.iconst 1, 1) := by decide +kernel
theorem dX11_text_33 : decode cX11_text 33 = .ok (.goto 4, 3) := by decide +kernel
theorem dX11_text_36 : decode cX11_text 36 = .ok (.iconst 0, 1) := by decide +kernel
theorem dX11_text_37 : decode cX11_text 37 = .ok (.istore 4, 2) := by decide +kernel
theorem dX11_text_39 : decode cX11_text 39 = .ok (.iload 4, 2) := by decide +kernel
theorem dX11_text_4 : decode cX11_text 4 = .ok (.getfield 233, 3) := by decide +kernel
theorem dX11_text_41 : decode cX11_text 41 = .ok (.ifCond .ne 23, 3) := by decide +kernel
theorem dX11_text_44 : decode cX11_text 44 = .ok (.iload_n 1, 1) := by decide +kernel
theorem dX11_text_45 : decode cX11_text 45 = .ok (.iconst 1, 1) := by decide +kernel
theorem dX11_text_46 : decode cX11_text 46 = .ok (.if_icmp .ne 15, 3) := by decide +kernel
theorem dX11_text_49 : decode cX11_text 49 = .ok (.aload_n 0, 1) := by decide +kernel
theorem dX11_text_50 : decode cX11_text 50 = .ok (.getfield 47, 3) := by decide +kernel
theorem dX11_text_53 : decode cX11_text 53 = .ok (.getfield 238, 3) := by decide +kernel
theorem dX11_text_56 : decode cX11_text 56 = .ok (.bipush 6, 2) := by decide +kernel
theorem dX11_text_58 : decode cX11_text 58 = .ok (.if_icmp .lt 6, 3) := by decide +kernel
theorem dX11_text_61 : decode cX11_text 61 = .ok (.bipush (-100), 2) := by decide +kernel
theorem dX11_text_63 : decode cX11_text 63 = .ok (.ireturn, 1) := by decide +kernel
theorem dX11_text_64 : decode cX11_text 64 = .ok (.aload_n 0, 1) := by decide +kernel
theorem dX11_text_65 : decode cX11_text 65 = .ok (.getfield 40, 3) := by decide +kernel
theorem dX11_text_68 : decode cX11_text 68 = .ok (.aload_n 0, 1) := by decide +kernel
theorem dX11_text_69 : decode cX11_text 69 = .ok (.getfield 33, 3) := by decide +kernel
theorem dX11_text_7 : decode cX11_text 7 = .ok (.istore_n 3, 1) := by decide +kernel
theorem dX11_text_72 : decode cX11_text 72 = .ok (.getfield 241, 3) := by decide +kernel
theorem dX11_text_75 : decode cX11_text 75 = .ok (.iload_n 3, 1) := by decide +kernel
theorem dX11_text_76 : decode cX11_text 76 = .ok (.iload_n 1, 1) := by decide +kernel
theorem dX11_text_77 : decode cX11_text 77 = .ok (.iconst 1, 1) := by decide +kernel
theorem dX11_text_78 : decode cX11_text 78 = .ok (.if_icmp .ne 7, 3) := by decide +kernel
theorem dX11_text_8 : decode cX11_text 8 = .ok (.aload_n 0, 1) := by decide +kernel
theorem dX11_text_81 : decode cX11_text 81 = .ok (.iconst 1, 1) := by decide +kernel
theorem dX11_text_82 : decode cX11_text 82 = .ok (.goto 4, 3) := by decide +kernel
theorem dX11_text_85 : decode cX11_text 85 = .ok (.iconst 0, 1) := by decide +kernel
theorem dX11_text_86 : decode cX11_text 86 = .ok (.invokevirtual 244, 3) := by decide +kernel
theorem dX11_text_89 : decode cX11_text 89 = .ok (.istore 5, 2) := by decide +kernel
theorem dX11_text_9 : decode cX11_text 9 = .ok (.getfield 33, 3) := by decide +kernel
theorem dX11_text_91 : decode cX11_text 91 = .ok (.iload 5, 2) := by decide +kernel
theorem dX11_text_93 : decode cX11_text 93 = .ok (.iconst (-1), 1) := by decide +kernel
theorem dX11_text_94 : decode cX11_text 94 = .ok (.if_icmp .eq 8, 3) := by decide +kernel
theorem dX11_text_97 : decode cX11_text 97 = .ok (.iconst (-1), 1) := by decide +kernel
theorem dX11_text_98 : decode cX11_text 98 = .ok (.iload 5, 2) := by decide +kernel
theorem dX11_twice_0 : decode cX11_twice 0 = .ok (.iload_n 1, 1) := by decide +kernel
theorem dX11_twice_1 : decode cX11_twice 1 = .ok (.invokestatic 138, 3) := by decide +kernel
theorem dX11_twice_11 : decode cX11_twice 11 = .ok (.ifCond .eq 35, 3) := by decide +kernel
theorem dX11_twice_14 : decode cX11_twice 14 = .ok (.iload_n 1, 1) := by decide +kernel
theorem dX11_twice_15 : decode cX11_twice 15 = .ok (.iload_n 3, 1) := by decide +kernel
theorem dX11_twice_16 : decode cX11_twice 16 = .ok (.if_icmp .eq 30, 3) := by decide +kernel
theorem dX11_twice_19 : decode cX11_twice 19 = .ok (.aload_n 0, 1) := by decide +kernel
theorem dX11_twice_20 : decode cX11_twice 20 = .ok (.getfield 12, 3) := by decide +kernel
theorem dX11_twice_23 : decode cX11_twice 23 = .ok (.iload_n 2, 1) := by decide +kernel
theorem dX11_twice_24 : decode cX11_twice 24 = .ok (.invokevirtual 98, 3) := by decide +kernel
theorem dX11_twice_27 : decode cX11_twice 27 = .ok (.ifCond .eq 19, 3) := by decide +kernel
theorem dX11_twice_30 : decode cX11_twice 30 = .ok (.aload_n 0, 1) := by decide +kernel
theorem dX11_twice_31 : decode cX11_twice 31 = .ok (.getfield 12, 3) := by decide +kernel
theorem dX11_twice_34 : decode cX11_twice 34 = .ok (.iload 4, 2) := by decide +kernel
theorem dX11_twice_36 : decode cX11_twice 36 = .ok (.invokevirtual 98, 3) := by decide +kernel
theorem dX11_twice_39 : decode cX11_twice 39 = .ok (.ifCond .eq 7, 3) := by decide +kernel
theorem dX11_twice_4 : decode cX11_twice 4 = .ok (.ifCond .eq 42, 3) := by decide +kernel
theorem dX11_twice_42 : decode cX11_twice 42 = .ok (.iconst 1, 1) := by decide +kernel
theorem dX11_twice_43 : decode cX11_twice 43 = .ok (.goto 4, 3) := by decide +kernel
theorem dX11_twice_46 : decode cX11_twice 46 = .ok (.iconst 0, 1) := by decide +kernel
theorem dX11_twice_47 : decode cX11_twice 47 = .ok (.istore 5, 2) := by decide +kernel
theorem dX11_twice_49 : decode cX11_twice 49 = .ok (.iload 5, 2) := by decide +kernel
theorem dX11_twice_51 : decode cX11_twice 51 = .ok (.ifCond .eq 30, 3) := by decide +kernel
theorem dX11_twice_54 : decode cX11_twice 54 = .ok (.aload_n 0, 1) := by decide +kernel
theorem dX11_twice_55 : decode cX11_twice 55 = .ok (.getfield 75, 3) := by decide +kernel
theorem dX11_twice_58 : decode cX11_twice 58 = .ok (.getfield 374, 3) := by decide +kernel
theorem dX11_twice_61 : decode cX11_twice 61 = .ok (.bipush 99, 2) := by decide +kernel
theorem dX11_twice_63 : decode cX11_twice 63 = .ok (.if_icmp .ge 18, 3) := by decide +kernel
theorem dX11_twice_66 : decode cX11_twice 66 = .ok (.aload_n 0, 1) := by decide +kernel
theorem dX11_twice_67 : decode cX11_twice 67 = .ok (.getfield 75, 3) := by decide +kernel
theorem dX11_twice_7 : decode cX11_twice 7 = .ok (.iload_n 3, 1) := by decide +kernel
theorem dX11_twice_70 : decode cX11_twice 70 = .ok (.iload_n 1, 1) := by decide +kernel
theorem dX11_twice_71 : decode cX11_twice 71 = .ok (.iload_n 2, 1) := by decide +kernel
theorem dX11_twice_72 : decode cX11_twice 72 = .ok (.iload_n 3, 1) := by decide +kernel
theorem dX11_twice_73 : decode cX11_twice 73 = .ok (.iload 4, 2) := by decide +kernel
theorem dX11_twice_75 : decode cX11_twice 75 = .ok (.invokevirtual 375, 3) := by decide +kernel
theorem dX11_twice_78 : decode cX11_twice 78 = .ok (.goto 4, 3) := by decide +kernel
theorem dX11_twice_8 : decode cX11_twice 8 = .ok (.invokestatic 138, 3) := by decide +kernel
theorem dX11_twice_81 : decode cX11_twice 81 = .ok (.iconst (-1), 1) := by decide +kernel
theorem dX11_twice_82 : decode cX11_twice 82 = .ok (.ireturn, 1) := by decide +kernel
theorem dX11_unload_0 : decode cX11_unload 0 = .ok (.aload_n 0, 1) := by decide +kernel
theorem dX11_unload_1 : decode cX11_unload 1 = .ok (.getfield 19, 3) := by decide +kernel
theorem dX11_unload_11 : decode cX11_unload 11 = .ok (.iconst 0, 1) := by decide +kernel
theorem dX11_unload_12 : decode cX11_unload 12 = .ok (.istore 7, 2) := by decide +kernel
theorem dX11_unload_14 : decode cX11_unload 14 = .ok (.iload 7, 2) := by decide +kernel
theorem dX11_unload_16 : decode cX11_unload 16 = .ok (.iload_n 3, 1) := by decide +kernel
theorem dX11_unload_17 : decode cX11_unload 17 = .ok (.if_icmp .ge 68, 3) := by decide +kernel
theorem dX11_unload_20 : decode cX11_unload 20 = .ok (.iload 7, 2) := by decide +kernel
theorem dX11_unload_22 : decode cX11_unload 22 = .ok (.bipush 16, 2) := by decide +kernel
theorem dX11_unload_24 : decode cX11_unload 24 = .ok (.if_icmp .ge 61, 3) := by decide +kernel
theorem dX11_unload_27 : decode cX11_unload 27 = .ok (.iload_n 2, 1) := by decide +kernel
theorem dX11_unload_28 : decode cX11_unload 28 = .ok (.iload 4, 2) := by decide +kernel
theorem dX11_unload_30 : decode cX11_unload 30 = .ok (.iload 7, 2) := by decide +kernel
theorem dX11_unload_32 : decode cX11_unload 32 = .ok (.iload 5, 2) := by decide +kernel
theorem dX11_unload_34 : decode cX11_unload 34 = .ok (.imul, 1) := by decide +kernel
theorem dX11_unload_35 : decode cX11_unload 35 = .ok (.iadd, 1) := by decide +kernel
theorem dX11_unload_36 : decode cX11_unload 36 = .ok (.invokestatic 158, 3) := by decide +kernel
theorem dX11_unload_39 : decode cX11_unload 39 = .ok (.istore 8, 2) := by decide +kernel
theorem dX11_unload_4 : decode cX11_unload 4 = .ok (.getfield 144, 3) := by decide +kernel
theorem dX11_unload_41 : decode cX11_unload 41 = .ok (.aload_n 0, 1) := by decide +kernel
theorem dX11_unload_42 : decode cX11_unload 42 = .ok (.getfield 19, 3) := by decide +kernel
theorem dX11_unload_45 : decode cX11_unload 45 = .ok (.getfield 161, 3) := by decide +kernel
theorem dX11_unload_48 : decode cX11_unload 48 = .ok (.iload_n 1, 1) := by decide +kernel
theorem dX11_unload_49 : decode cX11_unload 49 = .ok (.aaload, 1) := by decide +kernel
theorem dX11_unload_50 : decode cX11_unload 50 = .ok (.iload 7, 2) := by decide +kernel
theorem dX11_unload_52 : decode cX11_unload 52 = .ok (.iload 8, 2) := by decide +kernel
theorem dX11_unload_54 : decode cX11_unload 54 = .ok (.iastore, 1) := by decide +kernel
theorem dX11_unload_55 : decode cX11_unload 55 = .ok (.iload 6, 2) := by decide +kernel
theorem dX11_unload_57 : decode cX11_unload 57 = .ok (.iload 8, 2) := by decide +kernel
theorem dX11_unload_59 : decode cX11_unload 59 = .ok (.isub, 1) := by decide +kernel
theorem dX11_unload_60 : decode cX11_unload 60 = .ok (.istore 6, 2) := by decide +kernel
theorem dX11_unload_62 : decode cX11_unload 62 = .ok (.iload 8, 2) := by decide +kernel
theorem dX11_unload_64 : decode cX11_unload 64 = .ok (.ifCond .le 15, 3) := by decide +kernel
theorem dX11_unload_67 : decode cX11_unload 67 = .ok (.aload_n 0, 1) := by decide +kernel
theorem dX11_unload_68 : decode cX11_unload 68 = .ok (.getfield 54, 3) := by decide +kernel
theorem dX11_unload_7 : decode cX11_unload 7 = .ok (.iload_n 1, 1) := by decide +kernel
theorem dX11_unload_71 : decode cX11_unload 71 = .ok (.iload 7, 2) := by decide +kernel
theorem dX11_unload_73 : decode cX11_unload 73 = .ok (.iload_n 1, 1) := by decide +kernel
theorem dX11_unload_74 : decode cX11_unload 74 = .ok (.iload 8, 2) := by decide +kernel
theorem dX11_unload_76 : decode cX11_unload 76 = .ok (.invokevirtual 165, 3) := by decide +kernel
theorem dX11_unload_79 : decode cX11_unload 79 = .ok (.iinc 7 1, 3) := by decide +kernel
theorem dX11_unload_8 : decode cX11_unload 8 = .ok (.iaload, 1) := by decide +kernel
theorem dX11_unload_82 : decode cX11_unload 82 = .ok (.goto (-68), 3) := by decide +kernel
theorem dX11_unload_85 : decode cX11_unload 85 = .ok (.aload_n 0, 1) := by decide +kernel
theorem dX11_unload_86 : decode cX11_unload 86 = .ok (.getfield 19, 3) := by decide +kernel
theorem dX11_unload_89 : decode cX11_unload 89 = .ok (.getfield 168, 3) := by decide +kernel
theorem dX11_unload_9 : decode cX11_unload 9 = .ok (.istore 6, 2) := by decide +kernel
theorem dX11_unload_92 : decode cX11_unload 92 = .ok (.iload_n 1, 1) := by decide +kernel
theorem dX11_unload_93 : decode cX11_unload 93 = .ok (.iload 6, 2) := by decide +kernel
theorem dX11_unload_95 : decode cX11_unload 95 = .ok (.iastore, 1) := by decide +kernel
theorem dX11_unload_96 : decode cX11_unload 96 = .ok (.iload 6, 2) := by decide +kernel
theorem dX11_unload_98 : decode cX11_unload 98 = .ok (.ireturn, 1) := by decide +kernel
theorem dX11_wipe_0 : decode cX11_wipe 0 = .ok (.aload_n 0, 1) := by decide +kernel
theorem dX11_wipe_1 : decode cX11_wipe 1 = .ok (.getfield 12, 3) := by decide +kernel
theorem dX11_wipe_11 : decode cX11_wipe 11 = .ok (.iload_n 2, 1) := by decide +kernel
theorem dX11_wipe_12 : decode cX11_wipe 12 = .ok (.iconst 1, 1) := by decide +kernel
theorem dX11_wipe_13 : decode cX11_wipe 13 = .ok (.sipush 9999, 3) := by decide +kernel
theorem dX11_wipe_16 : decode cX11_wipe 16 = .ok (.invokestatic 94, 3) := by decide +kernel
theorem dX11_wipe_19 : decode cX11_wipe 19 = .ok (.ifCond .eq 26, 3) := by decide +kernel
theorem dX11_wipe_22 : decode cX11_wipe 22 = .ok (.iload_n 3, 1) := by decide +kernel
theorem dX11_wipe_23 : decode cX11_wipe 23 = .ok (.iconst 0, 1) := by decide +kernel
theorem dX11_wipe_24 : decode cX11_wipe 24 = .ok (.sipush 1000, 3) := by decide +kernel
theorem dX11_wipe_27 : decode cX11_wipe 27 = .ok (.invokestatic 94, 3) := by decide +kernel
theorem dX11_wipe_30 : decode cX11_wipe 30 = .ok (.ifCond .eq 15, 3) := by decide +kernel
theorem dX11_wipe_33 : decode cX11_wipe 33 = .ok (.aload_n 0, 1) := by decide +kernel
theorem dX11_wipe_34 : decode cX11_wipe 34 = .ok (.getfield 54, 3) := by decide +kernel
theorem dX11_wipe_37 : decode cX11_wipe 37 = .ok (.iload_n 1, 1) := by decide +kernel
theorem dX11_wipe_38 : decode cX11_wipe 38 = .ok (.invokevirtual 263, 3) := by decide +kernel
theorem dX11_wipe_4 : decode cX11_wipe 4 = .ok (.iload_n 1, 1) := by decide +kernel
theorem dX11_wipe_41 : decode cX11_wipe 41 = .ok (.iload_n 2, 1) := by decide +kernel
theorem dX11_wipe_42 : decode cX11_wipe 42 = .ok (.if_icmp .ge 5, 3) := by decide +kernel
theorem dX11_wipe_45 : decode cX11_wipe 45 = .ok (.iconst (-1), 1) := by decide +kernel
theorem dX11_wipe_46 : decode cX11_wipe 46 = .ok (.ireturn, 1) := by decide +kernel
theorem dX11_wipe_47 : decode cX11_wipe 47 = .ok (.aload_n 0, 1) := by decide +kernel
theorem dX11_wipe_48 : decode cX11_wipe 48 = .ok (.getfield 54, 3) := by decide +kernel
theorem dX11_wipe_5 : decode cX11_wipe 5 = .ok (.invokevirtual 98, 3) := by decide +kernel
theorem dX11_wipe_51 : decode cX11_wipe 51 = .ok (.iload_n 1, 1) := by decide +kernel
theorem dX11_wipe_52 : decode cX11_wipe 52 = .ok (.iload_n 2, 1) := by decide +kernel
theorem dX11_wipe_53 : decode cX11_wipe 53 = .ok (.aload_n 0, 1) := by decide +kernel
theorem dX11_wipe_54 : decode cX11_wipe 54 = .ok (.getfield 19, 3) := by decide +kernel
theorem dX11_wipe_57 : decode cX11_wipe 57 = .ok (.getfield 176, 3) := by decide +kernel
theorem dX11_wipe_60 : decode cX11_wipe 60 = .ok (.invokevirtual 273, 3) := by decide +kernel
theorem dX11_wipe_63 : decode cX11_wipe 63 = .ok (.iload_n 2, 1) := by decide +kernel
theorem dX11_wipe_64 : decode cX11_wipe 64 = .ok (.iload_n 3, 1) := by decide +kernel
theorem dX11_wipe_65 : decode cX11_wipe 65 = .ok (.imul, 1) := by decide +kernel
theorem dX11_wipe_66 : decode cX11_wipe 66 = .ok (.sipush 1000, 3) := by decide +kernel
theorem dX11_wipe_69 : decode cX11_wipe 69 = .ok (.idiv, 1) := by decide +kernel
theorem dX11_wipe_70 : decode cX11_wipe 70 = .ok (.ireturn, 1) := by decide +kernel
theorem dX11_wipe_8 : decode cX11_wipe 8 = .ok (.ifCond .eq 37, 3) := by decide +kernel
theorem dX11_wish_0 : decode cX11_wish 0 = .ok (.iload_n 1, 1) := by decide +kernel
theorem dX11_wish_1 : decode cX11_wish 1 = .ok (.invokestatic 382, 3) := by decide +kernel
theorem dX11_wish_11 : decode cX11_wish 11 = .ok (.iload_n 2, 1) := by decide +kernel
theorem dX11_wish_12 : decode cX11_wish 12 = .ok (.invokevirtual 98, 3) := by decide +kernel
theorem dX11_wish_15 : decode cX11_wish 15 = .ok (.ifCond .eq 19, 3) := by decide +kernel
theorem dX11_wish_18 : decode cX11_wish 18 = .ok (.iload_n 3, 1) := by decide +kernel
theorem dX11_wish_19 : decode cX11_wish 19 = .ok (.iconst (-1), 1) := by decide +kernel
theorem dX11_wish_20 : decode cX11_wish 20 = .ok (.if_icmp .eq 22, 3) := by decide +kernel
theorem dX11_wish_23 : decode cX11_wish 23 = .ok (.iload_n 3, 1) := by decide +kernel
theorem dX11_wish_24 : decode cX11_wish 24 = .ok (.iconst 0, 1) := by decide +kernel
theorem dX11_wish_25 : decode cX11_wish 25 = .ok (.sipush 999, 3) := by decide +kernel
theorem dX11_wish_28 : decode cX11_wish 28 = .ok (.invokestatic 94, 3) := by decide +kernel
theorem dX11_wish_31 : decode cX11_wish 31 = .ok (.ifCond .ne 11, 3) := by decide +kernel
theorem dX11_wish_34 : decode cX11_wish 34 = .ok (.new 277, 3) := by decide +kernel
theorem dX11_wish_37 : decode cX11_wish 37 = .ok (.dup, 1) := by decide +kernel
theorem dX11_wish_38 : decode cX11_wish 38 = .ok (.invokespecial 279, 3) := by decide +kernel
theorem dX11_wish_4 : decode cX11_wish 4 = .ok (.ifCond .eq 30, 3) := by decide +kernel
theorem dX11_wish_41 : decode cX11_wish 41 = .ok (.athrow, 1) := by decide +kernel
theorem dX11_wish_42 : decode cX11_wish 42 = .ok (.aload_n 0, 1) := by decide +kernel
theorem dX11_wish_43 : decode cX11_wish 43 = .ok (.getfield 82, 3) := by decide +kernel
theorem dX11_wish_46 : decode cX11_wish 46 = .ok (.getfield 385, 3) := by decide +kernel
theorem dX11_wish_49 : decode cX11_wish 49 = .ok (.iload_n 1, 1) := by decide +kernel
theorem dX11_wish_50 : decode cX11_wish 50 = .ok (.aaload, 1) := by decide +kernel
theorem dX11_wish_51 : decode cX11_wish 51 = .ok (.iload_n 2, 1) := by decide +kernel
theorem dX11_wish_52 : decode cX11_wish 52 = .ok (.iaload, 1) := by decide +kernel
theorem dX11_wish_53 : decode cX11_wish 53 = .ok (.istore 4, 2) := by decide +kernel
theorem dX11_wish_55 : decode cX11_wish 55 = .ok (.aload_n 0, 1) := by decide +kernel
theorem dX11_wish_56 : decode cX11_wish 56 = .ok (.getfield 82, 3) := by decide +kernel
theorem dX11_wish_59 : decode cX11_wish 59 = .ok (.getfield 385, 3) := by decide +kernel
theorem dX11_wish_62 : decode cX11_wish 62 = .ok (.iload_n 1, 1) := by decide +kernel
theorem dX11_wish_63 : decode cX11_wish 63 = .ok (.aaload, 1) := by decide +kernel
theorem dX11_wish_64 : decode cX11_wish 64 = .ok (.iload_n 2, 1) := by decide +kernel
theorem dX11_wish_65 : decode cX11_wish 65 = .ok (.iload_n 3, 1) := by decide +kernel
theorem dX11_wish_66 : decode cX11_wish 66 = .ok (.iastore, 1) := by decide +kernel
theorem dX11_wish_67 : decode cX11_wish 67 = .ok (.iload 4, 2) := by decide +kernel
theorem dX11_wish_69 : decode cX11_wish 69 = .ok (.ireturn, 1) := by decide +kernel
theorem dX11_wish_7 : decode cX11_wish 7 = .ok (.aload_n 0, 1) := by decide +kernel
theorem dX11_wish_8 : decode cX11_wish 8 = .ok (.getfield 12, 3) := by decide +kernel
theorem dX11_within_0 : decode cX11_within 0 = .ok (.aload_n 0, 1) := by decide +kernel
theorem dX11_within_1 : decode cX11_within 1 = .ok (.getfield 12, 3) := by decide +kernel
theorem dX11_within_11 : decode cX11_within 11 = .ok (.aload_n 0, 1) := by decide +kernel
theorem dX11_within_12 : decode cX11_within 12 = .ok (.getfield 12, 3) := by decide +kernel
theorem dX11_within_15 : decode cX11_within 15 = .ok (.iload_n 2, 1) := by decide +kernel
theorem dX11_within_16 : decode cX11_within 16 = .ok (.invokevirtual 98, 3) := by decide +kernel
theorem dX11_within_19 : decode cX11_within 19 = .ok (.ifCond .ne 5, 3) := by decide +kernel
theorem dX11_within_22 : decode cX11_within 22 = .ok (.iconst (-1), 1) := by decide +kernel
theorem dX11_within_23 : decode cX11_within 23 = .ok (.ireturn, 1) := by decide +kernel
theorem dX11_within_24 : decode cX11_within 24 = .ok (.aload_n 0, 1) := by decide +kernel
theorem dX11_within_25 : decode cX11_within 25 = .ok (.getfield 12, 3) := by decide +kernel
theorem dX11_within_28 : decode cX11_within 28 = .ok (.iload_n 1, 1) := by decide +kernel
theorem dX11_within_29 : decode cX11_within 29 = .ok (.iload_n 2, 1) := by decide +kernel
theorem dX11_within_30 : decode cX11_within 30 = .ok (.invokevirtual 123, 3) := by decide +kernel
theorem dX11_within_33 : decode cX11_within 33 = .ok (.ifCond .eq 7, 3) := by decide +kernel
theorem dX11_within_36 : decode cX11_within 36 = .ok (.iconst 1, 1) := by decide +kernel
theorem dX11_within_37 : decode cX11_within 37 = .ok (.goto 4, 3) := by decide +kernel
theorem dX11_within_4 : decode cX11_within 4 = .ok (.iload_n 1, 1) := by decide +kernel
theorem dX11_within_40 : decode cX11_within 40 = .ok (.iconst 0, 1) := by decide +kernel
theorem dX11_within_41 : decode cX11_within 41 = .ok (.ireturn, 1) := by decide +kernel
theorem dX11_within_5 : decode cX11_within 5 = .ok (.invokevirtual 98, 3) := by decide +kernel
theorem dX11_within_8 : decode cX11_within 8 = .ok (.ifCond .eq 14, 3) := by decide +kernel
theorem dX11_woolless_0 : decode cX11_woolless 0 = .ok (.iconst 0, 1) := by decide +kernel
theorem dX11_woolless_1 : decode cX11_woolless 1 = .ok (.istore_n 2, 1) := by decide +kernel
theorem dX11_woolless_12 : decode cX11_woolless 12 = .ok (.if_icmp .ge 37, 3) := by decide +kernel
theorem dX11_woolless_15 : decode cX11_woolless 15 = .ok (.aload_n 0, 1) := by decide +kernel
theorem dX11_woolless_16 : decode cX11_woolless 16 = .ok (.getfield 12, 3) := by decide +kernel
theorem dX11_woolless_19 : decode cX11_woolless 19 = .ok (.getfield 230, 3) := by decide +kernel
theorem dX11_woolless_2 : decode cX11_woolless 2 = .ok (.iconst 0, 1) := by decide +kernel
theorem dX11_woolless_22 : decode cX11_woolless 22 = .ok (.iconst 5, 1) := by decide +kernel
theorem dX11_woolless_23 : decode cX11_woolless 23 = .ok (.aaload, 1) := by decide +kernel
theorem dX11_woolless_24 : decode cX11_woolless 24 = .ok (.iload_n 3, 1) := by decide +kernel
theorem dX11_woolless_25 : decode cX11_woolless 25 = .ok (.iaload, 1) := by decide +kernel
theorem dX11_woolless_26 : decode cX11_woolless 26 = .ok (.ifCond .ne 17, 3) := by decide +kernel
theorem dX11_woolless_29 : decode cX11_woolless 29 = .ok (.iload_n 2, 1) := by decide +kernel
theorem dX11_woolless_3 : decode cX11_woolless 3 = .ok (.istore_n 3, 1) := by decide +kernel
theorem dX11_woolless_30 : decode cX11_woolless 30 = .ok (.aload_n 0, 1) := by decide +kernel
theorem dX11_woolless_31 : decode cX11_woolless 31 = .ok (.getfield 19, 3) := by decide +kernel
theorem dX11_woolless_34 : decode cX11_woolless 34 = .ok (.getfield 161, 3) := by decide +kernel
theorem dX11_woolless_37 : decode cX11_woolless 37 = .ok (.iload_n 1, 1) := by decide +kernel
theorem dX11_woolless_38 : decode cX11_woolless 38 = .ok (.aaload, 1) := by decide +kernel
theorem dX11_woolless_39 : decode cX11_woolless 39 = .ok (.iload_n 3, 1) := by decide +kernel
theorem dX11_woolless_4 : decode cX11_woolless 4 = .ok (.iload_n 3, 1) := by decide +kernel
theorem dX11_woolless_40 : decode cX11_woolless 40 = .ok (.iaload, 1) := by decide +kernel
theorem dX11_woolless_41 : decode cX11_woolless 41 = .ok (.iadd, 1) := by decide +kernel
theorem dX11_woolless_42 : decode cX11_woolless 42 = .ok (.istore_n 2, 1) := by decide +kernel
theorem dX11_woolless_43 : decode cX11_woolless 43 = .ok (.iinc 3 1, 3) := by decide +kernel
theorem dX11_woolless_46 : decode cX11_woolless 46 = .ok (.goto (-42), 3) := by decide +kernel
theorem dX11_woolless_49 : decode cX11_woolless 49 = .ok (.iload_n 2, 1) := by decide +kernel
theorem dX11_woolless_5 : decode cX11_woolless 5 = .ok (.aload_n 0, 1) := by decide +kernel
theorem dX11_woolless_50 : decode cX11_woolless 50 = .ok (.ireturn, 1) := by decide +kernel
theorem dX11_woolless_6 : decode cX11_woolless 6 = .ok (.getfield 12, 3) := by decide +kernel
theorem dX11_woolless_9 : decode cX11_woolless 9 = .ok (.getfield 102, 3) := by decide +kernel
theorem dX12_act_0 : decode cX12_act 0 = .ok (.iload_n 0, 1) := by decide +kernel
theorem dX12_act_1 : decode cX12_act 1 = .ok (.sipush 200, 3) := by decide +kernel
theorem dX12_act_4 : decode cX12_act 4 = .ok (.isub, 1) := by decide +kernel
theorem dX12_act_5 : decode cX12_act 5 = .ok (.ireturn, 1) := by decide +kernel
theorem dX12_acted_0 : decode cX12_acted 0 = .ok (.iload_n 0, 1) := by decide +kernel
theorem dX12_acted_1 : decode cX12_acted 1 = .ok (.tableswitch 214 37 62 #[135, 197, 214, 214, 214, 119, 147, 214, 151, 214, 123, 214, 214, 214, 214, 214, 214, 214, 214, 214, 214, 214, 214, 155, 183, 169], 119) := by decide +kernel
theorem dX12_acted_120 : decode cX12_acted 120 = .ok (.iload_n 1, 1) := by decide +kernel
theorem dX12_acted_121 : decode cX12_acted 121 = .ok (.iload_n 2, 1) := by decide +kernel
theorem dX12_acted_122 : decode cX12_acted 122 = .ok (.imul, 1) := by decide +kernel
theorem dX12_acted_123 : decode cX12_acted 123 = .ok (.ireturn, 1) := by decide +kernel
theorem dX12_acted_124 : decode cX12_acted 124 = .ok (.iload_n 2, 1) := by decide +kernel
theorem dX12_acted_125 : decode cX12_acted 125 = .ok (.ifCond .ne 7, 3) := by decide +kernel
theorem dX12_acted_128 : decode cX12_acted 128 = .ok (.iconst 0, 1) := by decide +kernel
theorem dX12_acted_129 : decode cX12_acted 129 = .ok (.goto 6, 3) := by decide +kernel
theorem dX12_acted_132 : decode cX12_acted 132 = .ok (.iload_n 1, 1) := by decide +kernel
theorem dX12_acted_133 : decode cX12_acted 133 = .ok (.iload_n 2, 1) := by decide +kernel
theorem dX12_acted_134 : decode cX12_acted 134 = .ok (.idiv, 1) := by decide +kernel
theorem dX12_acted_135 : decode cX12_acted 135 = .ok (.ireturn, 1) := by decide +kernel
theorem dX12_acted_136 : decode cX12_acted 136 = .ok (.iload_n 2, 1) := by decide +kernel
theorem dX12_acted_137 : decode cX12_acted 137 = .ok (.ifCond .ne 7, 3) := by decide +kernel
theorem dX12_acted_140 : decode cX12_acted 140 = .ok (.iconst 0, 1) := by decide +kernel
theorem dX12_acted_141 : decode cX12_acted 141 = .ok (.goto 6, 3) := by decide +kernel
theorem dX12_acted_144 : decode cX12_acted 144 = .ok (.iload_n 1, 1) := by decide +kernel
theorem dX12_acted_145 : decode cX12_acted 145 = .ok (.iload_n 2, 1) := by decide +kernel
theorem dX12_acted_146 : decode cX12_acted 146 = .ok (.irem, 1) := by decide +kernel
theorem dX12_acted_147 : decode cX12_acted 147 = .ok (.ireturn, 1) := by decide +kernel
theorem dX12_acted_148 : decode cX12_acted 148 = .ok (.iload_n 1, 1) := by decide +kernel
theorem dX12_acted_149 : decode cX12_acted 149 = .ok (.iload_n 2, 1) := by decide +kernel
theorem dX12_acted_150 : decode cX12_acted 150 = .ok (.iadd, 1) := by decide +kernel
theorem dX12_acted_151 : decode cX12_acted 151 = .ok (.ireturn, 1) := by decide +kernel
theorem dX12_acted_152 : decode cX12_acted 152 = .ok (.iload_n 1, 1) := by decide +kernel
theorem dX12_acted_153 : decode cX12_acted 153 = .ok (.iload_n 2, 1) := by decide +kernel
theorem dX12_acted_154 : decode cX12_acted 154 = .ok (.isub, 1) := by decide +kernel
theorem dX12_acted_155 : decode cX12_acted 155 = .ok (.ireturn, 1) := by decide +kernel
theorem dX12_acted_156 : decode cX12_acted 156 = .ok (.iload_n 1, 1) := by decide +kernel
theorem dX12_acted_157 : decode cX12_acted 157 = .ok (.iload_n 2, 1) := by decide +kernel
theorem dX12_acted_158 : decode cX12_acted 158 = .ok (.if_icmp .ge 7, 3) := by decide +kernel
theorem dX12_acted_161 : decode cX12_acted 161 = .ok (.iconst 1, 1) := by decide +kernel
theorem dX12_acted_162 : decode cX12_acted 162 = .ok (.goto 4, 3) := by decide +kernel
theorem dX12_acted_165 : decode cX12_acted 165 = .ok (.iconst 0, 1) := by decide +kernel
theorem dX12_acted_166 : decode cX12_acted 166 = .ok (.invokestatic 190, 3) := by decide +kernel
theorem dX12_acted_169 : decode cX12_acted 169 = .ok (.ireturn, 1) := by decide +kernel
theorem dX12_acted_170 : decode cX12_acted 170 = .ok (.iload_n 1, 1) := by decide +kernel
theorem dX12_acted_171 : decode cX12_acted 171 = .ok (.iload_n 2, 1) := by decide +kernel
theorem dX12_acted_172 : decode cX12_acted 172 = .ok (.if_icmp .le 7, 3) := by decide +kernel
theorem dX12_acted_175 : decode cX12_acted 175 = .ok (.iconst 1, 1) := by decide +kernel
theorem dX12_acted_176 : decode cX12_acted 176 = .ok (.goto 4, 3) := by decide +kernel
theorem dX12_acted_179 : decode cX12_acted 179 = .ok (.iconst 0, 1) := by decide +kernel
theorem dX12_acted_180 : decode cX12_acted 180 = .ok (.invokestatic 190, 3) := by decide +kernel
theorem dX12_acted_183 : decode cX12_acted 183 = .ok (.ireturn, 1) := by decide +kernel
theorem dX12_acted_184 : decode cX12_acted 184 = .ok (.iload_n 1, 1) := by decide +kernel
theorem dX12_acted_185 : decode cX12_acted 185 = .ok (.iload_n 2, 1) := by decide +kernel
theorem dX12_acted_186 : decode cX12_acted 186 = .ok (.if_icmp .ne 7, 3) := by decide +kernel
theorem dX12_acted_189 : decode cX12_acted 189 = .ok (.iconst 1, 1) := by decide +kernel
theorem dX12_acted_190 : decode cX12_acted 190 = .ok (.goto 4, 3) := by decide +kernel
theorem dX12_acted_193 : decode cX12_acted 193 = .ok (.iconst 0, 1) := by decide +kernel
theorem dX12_acted_194 : decode cX12_acted 194 = .ok (.invokestatic 190, 3) := by decide +kernel
theorem dX12_acted_197 : decode cX12_acted 197 = .ok (.ireturn, 1) := by decide +kernel
theorem dX12_acted_198 : decode cX12_acted 198 = .ok (.iload_n 1, 1) := by decide +kernel
theorem dX12_acted_199 : decode cX12_acted 199 = .ok (.ifCond .eq 11, 3) := by decide +kernel
theorem dX12_acted_202 : decode cX12_acted 202 = .ok (.iload_n 2, 1) := by decide +kernel
theorem dX12_acted_203 : decode cX12_acted 203 = .ok (.ifCond .eq 7, 3) := by decide +kernel
theorem dX12_acted_206 : decode cX12_acted 206 = .ok (.iconst 1, 1) := by decide +kernel
theorem dX12_acted_207 : decode cX12_acted 207 = .ok (.goto 4, 3) := by decide +kernel
theorem dX12_acted_210 : decode cX12_acted 210 = .ok (.iconst 0, 1) := by decide +kernel
theorem dX12_acted_211 : decode cX12_acted 211 = .ok (.invokestatic 190, 3) := by decide +kernel
theorem dX12_acted_214 : decode cX12_acted 214 = .ok (.ireturn, 1) := by decide +kernel
theorem dX12_acted_215 : decode cX12_acted 215 = .ok (.iload_n 1, 1) := by decide +kernel
theorem dX12_acted_216 : decode cX12_acted 216 = .ok (.ifCond .ne 7, 3) := by decide +kernel
theorem dX12_acted_219 : decode cX12_acted 219 = .ok (.iload_n 2, 1) := by decide +kernel
theorem dX12_acted_220 : decode cX12_acted 220 = .ok (.ifCond .eq 7, 3) := by decide +kernel
theorem dX12_acted_223 : decode cX12_acted 223 = .ok (.iconst 1, 1) := by decide +kernel
theorem dX12_acted_224 : decode cX12_acted 224 = .ok (.goto 4, 3) := by decide +kernel
theorem dX12_acted_227 : decode cX12_acted 227 = .ok (.iconst 0, 1) := by decide +kernel
theorem dX12_acted_228 : decode cX12_acted 228 = .ok (.invokestatic 190, 3) := by decide +kernel
theorem dX12_acted_231 : decode cX12_acted 231 = .ok (.ireturn, 1) := by decide +kernel
theorem dX12_alike_0 : decode cX12_alike 0 = .ok (.iconst 0, 1) := by decide +kernel
theorem dX12_alike_1 : decode cX12_alike 1 = .ok (.istore_n 3, 1) := by decide +kernel
theorem dX12_alike_10 : decode cX12_alike 10 = .ok (.aload_n 0, 1) := by decide +kernel
theorem dX12_alike_100 : decode cX12_alike 100 = .ok (.aload_n 0, 1) := by decide +kernel
theorem dX12_alike_101 : decode cX12_alike 101 = .ok (.getfield 117, 3) := by decide +kernel
theorem dX12_alike_104 : decode cX12_alike 104 = .ok (.iload 5, 2) := by decide +kernel
theorem dX12_alike_106 : decode cX12_alike 106 = .ok (.iaload, 1) := by decide +kernel
theorem dX12_alike_107 : decode cX12_alike 107 = .ok (.if_icmp .ne 7, 3) := by decide +kernel
theorem dX12_alike_11 : decode cX12_alike 11 = .ok (.getfield 409, 3) := by decide +kernel
theorem dX12_alike_110 : decode cX12_alike 110 = .ok (.iconst 1, 1) := by decide +kernel
theorem dX12_alike_111 : decode cX12_alike 111 = .ok (.goto 4, 3) := by decide +kernel
theorem dX12_alike_114 : decode cX12_alike 114 = .ok (.iconst 0, 1) := by decide +kernel
theorem dX12_alike_115 : decode cX12_alike 115 = .ok (.invokestatic 190, 3) := by decide +kernel
theorem dX12_alike_118 : decode cX12_alike 118 = .ok (.iadd, 1) := by decide +kernel
theorem dX12_alike_119 : decode cX12_alike 119 = .ok (.istore 4, 2) := by decide +kernel
theorem dX12_alike_121 : decode cX12_alike 121 = .ok (.iinc 5 1, 3) := by decide +kernel
theorem dX12_alike_124 : decode cX12_alike 124 = .ok (.goto (-116), 3) := by decide +kernel
theorem dX12_alike_127 : decode cX12_alike 127 = .ok (.iload_n 3, 1) := by decide +kernel
theorem dX12_alike_128 : decode cX12_alike 128 = .ok (.ifCond .ne 7, 3) := by decide +kernel
theorem dX12_alike_131 : decode cX12_alike 131 = .ok (.iconst (-1), 1) := by decide +kernel
theorem dX12_alike_132 : decode cX12_alike 132 = .ok (.goto 11, 3) := by decide +kernel
theorem dX12_alike_135 : decode cX12_alike 135 = .ok (.iload 4, 2) := by decide +kernel
theorem dX12_alike_137 : decode cX12_alike 137 = .ok (.sipush 1000, 3) := by decide +kernel
theorem dX12_alike_14 : decode cX12_alike 14 = .ok (.if_icmp .ge 113, 3) := by decide +kernel
theorem dX12_alike_140 : decode cX12_alike 140 = .ok (.imul, 1) := by decide +kernel
theorem dX12_alike_141 : decode cX12_alike 141 = .ok (.iload_n 3, 1) := by decide +kernel
theorem dX12_alike_142 : decode cX12_alike 142 = .ok (.idiv, 1) := by decide +kernel
theorem dX12_alike_143 : decode cX12_alike 143 = .ok (.ireturn, 1) := by decide +kernel
theorem dX12_alike_17 : decode cX12_alike 17 = .ok (.aload_n 0, 1) := by decide +kernel
theorem dX12_alike_18 : decode cX12_alike 18 = .ok (.getfield 108, 3) := by decide +kernel
theorem dX12_alike_2 : decode cX12_alike 2 = .ok (.iconst 0, 1) := by decide +kernel
theorem dX12_alike_21 : decode cX12_alike 21 = .ok (.iload 5, 2) := by decide +kernel
theorem dX12_alike_23 : decode cX12_alike 23 = .ok (.iaload, 1) := by decide +kernel
theorem dX12_alike_24 : decode cX12_alike 24 = .ok (.iload_n 1, 1) := by decide +kernel
theorem dX12_alike_25 : decode cX12_alike 25 = .ok (.if_icmp .ne 19, 3) := by decide +kernel
theorem dX12_alike_28 : decode cX12_alike 28 = .ok (.iload_n 2, 1) := by decide +kernel
theorem dX12_alike_29 : decode cX12_alike 29 = .ok (.iconst (-1), 1) := by decide +kernel
theorem dX12_alike_3 : decode cX12_alike 3 = .ok (.istore 4, 2) := by decide +kernel
theorem dX12_alike_30 : decode cX12_alike 30 = .ok (.if_icmp .eq 41, 3) := by decide +kernel
theorem dX12_alike_33 : decode cX12_alike 33 = .ok (.aload_n 0, 1) := by decide +kernel
theorem dX12_alike_34 : decode cX12_alike 34 = .ok (.getfield 111, 3) := by decide +kernel
theorem dX12_alike_37 : decode cX12_alike 37 = .ok (.iload 5, 2) := by decide +kernel
theorem dX12_alike_39 : decode cX12_alike 39 = .ok (.iaload, 1) := by decide +kernel
theorem dX12_alike_40 : decode cX12_alike 40 = .ok (.iload_n 2, 1) := by decide +kernel
theorem dX12_alike_41 : decode cX12_alike 41 = .ok (.if_icmp .eq 30, 3) := by decide +kernel
theorem dX12_alike_44 : decode cX12_alike 44 = .ok (.aload_n 0, 1) := by decide +kernel
theorem dX12_alike_45 : decode cX12_alike 45 = .ok (.getfield 111, 3) := by decide +kernel
theorem dX12_alike_48 : decode cX12_alike 48 = .ok (.iload 5, 2) := by decide +kernel
theorem dX12_alike_5 : decode cX12_alike 5 = .ok (.iconst 0, 1) := by decide +kernel
theorem dX12_alike_50 : decode cX12_alike 50 = .ok (.iaload, 1) := by decide +kernel
theorem dX12_alike_51 : decode cX12_alike 51 = .ok (.iload_n 1, 1) := by decide +kernel
theorem dX12_alike_52 : decode cX12_alike 52 = .ok (.if_icmp .ne 23, 3) := by decide +kernel
theorem dX12_alike_55 : decode cX12_alike 55 = .ok (.iload_n 2, 1) := by decide +kernel
theorem dX12_alike_56 : decode cX12_alike 56 = .ok (.iconst (-1), 1) := by decide +kernel
theorem dX12_alike_57 : decode cX12_alike 57 = .ok (.if_icmp .eq 14, 3) := by decide +kernel
theorem dX12_alike_6 : decode cX12_alike 6 = .ok (.istore 5, 2) := by decide +kernel
theorem dX12_alike_60 : decode cX12_alike 60 = .ok (.aload_n 0, 1) := by decide +kernel
theorem dX12_alike_61 : decode cX12_alike 61 = .ok (.getfield 108, 3) := by decide +kernel
theorem dX12_alike_64 : decode cX12_alike 64 = .ok (.iload 5, 2) := by decide +kernel
theorem dX12_alike_66 : decode cX12_alike 66 = .ok (.iaload, 1) := by decide +kernel
theorem dX12_alike_67 : decode cX12_alike 67 = .ok (.iload_n 2, 1) := by decide +kernel
theorem dX12_alike_68 : decode cX12_alike 68 = .ok (.if_icmp .ne 7, 3) := by decide +kernel
theorem dX12_alike_71 : decode cX12_alike 71 = .ok (.iconst 1, 1) := by decide +kernel
theorem dX12_alike_72 : decode cX12_alike 72 = .ok (.goto 4, 3) := by decide +kernel
theorem dX12_alike_75 : decode cX12_alike 75 = .ok (.iconst 0, 1) := by decide +kernel
theorem dX12_alike_76 : decode cX12_alike 76 = .ok (.istore 6, 2) := by decide +kernel
theorem dX12_alike_78 : decode cX12_alike 78 = .ok (.iload_n 3, 1) := by decide +kernel
theorem dX12_alike_79 : decode cX12_alike 79 = .ok (.iload 6, 2) := by decide +kernel
theorem dX12_alike_8 : decode cX12_alike 8 = .ok (.iload 5, 2) := by decide +kernel
theorem dX12_alike_81 : decode cX12_alike 81 = .ok (.invokestatic 190, 3) := by decide +kernel
theorem dX12_alike_84 : decode cX12_alike 84 = .ok (.iadd, 1) := by decide +kernel
theorem dX12_alike_85 : decode cX12_alike 85 = .ok (.istore_n 3, 1) := by decide +kernel
theorem dX12_alike_86 : decode cX12_alike 86 = .ok (.iload 4, 2) := by decide +kernel
theorem dX12_alike_88 : decode cX12_alike 88 = .ok (.iload 6, 2) := by decide +kernel
theorem dX12_alike_90 : decode cX12_alike 90 = .ok (.ifCond .eq 24, 3) := by decide +kernel
theorem dX12_alike_93 : decode cX12_alike 93 = .ok (.aload_n 0, 1) := by decide +kernel
theorem dX12_alike_94 : decode cX12_alike 94 = .ok (.getfield 114, 3) := by decide +kernel
theorem dX12_alike_97 : decode cX12_alike 97 = .ok (.iload 5, 2) := by decide +kernel
theorem dX12_alike_99 : decode cX12_alike 99 = .ok (.iaload, 1) := by decide +kernel
theorem dX12_all_0 : decode cX12_all 0 = .ok (.aload_n 0, 1) := by decide +kernel
theorem dX12_all_1 : decode cX12_all 1 = .ok (.iload_n 1, 1) := by decide +kernel
theorem dX12_all_10 : decode cX12_all 10 = .ok (.iload_n 2, 1) := by decide +kernel
theorem dX12_all_11 : decode cX12_all 11 = .ok (.ifCond .eq 39, 3) := by decide +kernel
theorem dX12_all_14 : decode cX12_all 14 = .ok (.aload_n 0, 1) := by decide +kernel
theorem dX12_all_15 : decode cX12_all 15 = .ok (.iload_n 1, 1) := by decide +kernel
theorem dX12_all_16 : decode cX12_all 16 = .ok (.bipush 59, 2) := by decide +kernel
theorem dX12_all_18 : decode cX12_all 18 = .ok (.invokevirtual 282, 3) := by decide +kernel
theorem dX12_all_2 : decode cX12_all 2 = .ok (.invokevirtual 286, 3) := by decide +kernel
theorem dX12_all_21 : decode cX12_all 21 = .ok (.ifCond .eq 29, 3) := by decide +kernel
theorem dX12_all_24 : decode cX12_all 24 = .ok (.aload_n 0, 1) := by decide +kernel
theorem dX12_all_25 : decode cX12_all 25 = .ok (.dup, 1) := by decide +kernel
theorem dX12_all_26 : decode cX12_all 26 = .ok (.getfield 259, 3) := by decide +kernel
theorem dX12_all_29 : decode cX12_all 29 = .ok (.iconst 1, 1) := by decide +kernel
theorem dX12_all_30 : decode cX12_all 30 = .ok (.iadd, 1) := by decide +kernel
theorem dX12_all_31 : decode cX12_all 31 = .ok (.putfield 259, 3) := by decide +kernel
theorem dX12_all_34 : decode cX12_all 34 = .ok (.aload_n 0, 1) := by decide +kernel
theorem dX12_all_35 : decode cX12_all 35 = .ok (.sipush (-300), 3) := by decide +kernel
theorem dX12_all_38 : decode cX12_all 38 = .ok (.invokevirtual 276, 3) := by decide +kernel
theorem dX12_all_41 : decode cX12_all 41 = .ok (.aload_n 0, 1) := by decide +kernel
theorem dX12_all_42 : decode cX12_all 42 = .ok (.iload_n 1, 1) := by decide +kernel
theorem dX12_all_43 : decode cX12_all 43 = .ok (.invokevirtual 286, 3) := by decide +kernel
theorem dX12_all_46 : decode cX12_all 46 = .ok (.istore_n 3, 1) := by decide +kernel
theorem dX12_all_47 : decode cX12_all 47 = .ok (.goto (-41), 3) := by decide +kernel
theorem dX12_all_5 : decode cX12_all 5 = .ok (.istore_n 3, 1) := by decide +kernel
theorem dX12_all_50 : decode cX12_all 50 = .ok (.iload_n 3, 1) := by decide +kernel
theorem dX12_all_51 : decode cX12_all 51 = .ok (.ifCond .eq 15, 3) := by decide +kernel
theorem dX12_all_54 : decode cX12_all 54 = .ok (.aload_n 0, 1) := by decide +kernel
theorem dX12_all_55 : decode cX12_all 55 = .ok (.getfield 259, 3) := by decide +kernel
theorem dX12_all_58 : decode cX12_all 58 = .ok (.iload_n 1, 1) := by decide +kernel
theorem dX12_all_59 : decode cX12_all 59 = .ok (.if_icmp .ne 7, 3) := by decide +kernel
theorem dX12_all_6 : decode cX12_all 6 = .ok (.iload_n 3, 1) := by decide +kernel
theorem dX12_all_62 : decode cX12_all 62 = .ok (.iconst 1, 1) := by decide +kernel
theorem dX12_all_63 : decode cX12_all 63 = .ok (.goto 4, 3) := by decide +kernel
theorem dX12_all_66 : decode cX12_all 66 = .ok (.iconst 0, 1) := by decide +kernel
theorem dX12_all_67 : decode cX12_all 67 = .ok (.ireturn, 1) := by decide +kernel
theorem dX12_all_7 : decode cX12_all 7 = .ok (.ifCond .eq 43, 3) := by decide +kernel
theorem dX12_areAll_0 : decode cX12_areAll 0 = .ok (.iconst 1, 1) := by decide +kernel
theorem dX12_areAll_1 : decode cX12_areAll 1 = .ok (.istore_n 2, 1) := by decide +kernel
theorem dX12_areAll_12 : decode cX12_areAll 12 = .ok (.aload_n 0, 1) := by decide +kernel
theorem dX12_areAll_13 : decode cX12_areAll 13 = .ok (.getfield 93, 3) := by decide +kernel
theorem dX12_areAll_16 : decode cX12_areAll 16 = .ok (.iload_n 3, 1) := by decide +kernel
theorem dX12_areAll_17 : decode cX12_areAll 17 = .ok (.iaload, 1) := by decide +kernel
theorem dX12_areAll_18 : decode cX12_areAll 18 = .ok (.iconst 1, 1) := by decide +kernel
theorem dX12_areAll_19 : decode cX12_areAll 19 = .ok (.if_icmp .eq 7, 3) := by decide +kernel
theorem dX12_areAll_2 : decode cX12_areAll 2 = .ok (.iconst 0, 1) := by decide +kernel
theorem dX12_areAll_22 : decode cX12_areAll 22 = .ok (.iconst 1, 1) := by decide +kernel
theorem dX12_areAll_23 : decode cX12_areAll 23 = .ok (.goto 4, 3) := by decide +kernel
theorem dX12_areAll_26 : decode cX12_areAll 26 = .ok (.iconst 0, 1) := by decide +kernel
theorem dX12_areAll_27 : decode cX12_areAll 27 = .ok (.istore 4, 2) := by decide +kernel
theorem dX12_areAll_29 : decode cX12_areAll 29 = .ok (.iconst 0, 1) := by decide +kernel
theorem dX12_areAll_3 : decode cX12_areAll 3 = .ok (.istore_n 3, 1) := by decide +kernel
theorem dX12_areAll_30 : decode cX12_areAll 30 = .ok (.istore 5, 2) := by decide +kernel
theorem dX12_areAll_32 : decode cX12_areAll 32 = .ok (.iload 5, 2) := by decide +kernel
theorem dX12_areAll_34 : decode cX12_areAll 34 = .ok (.iload_n 1, 1) := by decide +kernel
theorem dX12_areAll_35 : decode cX12_areAll 35 = .ok (.if_icmp .ge 41, 3) := by decide +kernel
theorem dX12_areAll_38 : decode cX12_areAll 38 = .ok (.iload 4, 2) := by decide +kernel
theorem dX12_areAll_4 : decode cX12_areAll 4 = .ok (.iload_n 3, 1) := by decide +kernel
theorem dX12_areAll_40 : decode cX12_areAll 40 = .ok (.ifCond .ne 23, 3) := by decide +kernel
theorem dX12_areAll_43 : decode cX12_areAll 43 = .ok (.aload_n 0, 1) := by decide +kernel
theorem dX12_areAll_44 : decode cX12_areAll 44 = .ok (.getfield 90, 3) := by decide +kernel
theorem dX12_areAll_47 : decode cX12_areAll 47 = .ok (.bipush 24, 2) := by decide +kernel
theorem dX12_areAll_49 : decode cX12_areAll 49 = .ok (.iload_n 3, 1) := by decide +kernel
theorem dX12_areAll_5 : decode cX12_areAll 5 = .ok (.aload_n 0, 1) := by decide +kernel
theorem dX12_areAll_50 : decode cX12_areAll 50 = .ok (.imul, 1) := by decide +kernel
theorem dX12_areAll_51 : decode cX12_areAll 51 = .ok (.aload_n 0, 1) := by decide +kernel
theorem dX12_areAll_52 : decode cX12_areAll 52 = .ok (.getfield 105, 3) := by decide +kernel
theorem dX12_areAll_55 : decode cX12_areAll 55 = .ok (.iload 5, 2) := by decide +kernel
theorem dX12_areAll_57 : decode cX12_areAll 57 = .ok (.iaload, 1) := by decide +kernel
theorem dX12_areAll_58 : decode cX12_areAll 58 = .ok (.iadd, 1) := by decide +kernel
theorem dX12_areAll_59 : decode cX12_areAll 59 = .ok (.iaload, 1) := by decide +kernel
theorem dX12_areAll_6 : decode cX12_areAll 6 = .ok (.getfield 223, 3) := by decide +kernel
theorem dX12_areAll_60 : decode cX12_areAll 60 = .ok (.ifCond .le 7, 3) := by decide +kernel
theorem dX12_areAll_63 : decode cX12_areAll 63 = .ok (.iconst 1, 1) := by decide +kernel
theorem dX12_areAll_64 : decode cX12_areAll 64 = .ok (.goto 4, 3) := by decide +kernel
theorem dX12_areAll_67 : decode cX12_areAll 67 = .ok (.iconst 0, 1) := by decide +kernel
theorem dX12_areAll_68 : decode cX12_areAll 68 = .ok (.istore 4, 2) := by decide +kernel
theorem dX12_areAll_70 : decode cX12_areAll 70 = .ok (.iinc 5 1, 3) := by decide +kernel
theorem dX12_areAll_73 : decode cX12_areAll 73 = .ok (.goto (-41), 3) := by decide +kernel
theorem dX12_areAll_76 : decode cX12_areAll 76 = .ok (.iload_n 2, 1) := by decide +kernel
theorem dX12_areAll_77 : decode cX12_areAll 77 = .ok (.ifCond .eq 12, 3) := by decide +kernel
theorem dX12_areAll_80 : decode cX12_areAll 80 = .ok (.iload 4, 2) := by decide +kernel
theorem dX12_areAll_82 : decode cX12_areAll 82 = .ok (.ifCond .eq 7, 3) := by decide +kernel
theorem dX12_areAll_85 : decode cX12_areAll 85 = .ok (.iconst 1, 1) := by decide +kernel
theorem dX12_areAll_86 : decode cX12_areAll 86 = .ok (.goto 4, 3) := by decide +kernel
theorem dX12_areAll_89 : decode cX12_areAll 89 = .ok (.iconst 0, 1) := by decide +kernel
theorem dX12_areAll_9 : decode cX12_areAll 9 = .ok (.if_icmp .ge 88, 3) := by decide +kernel
theorem dX12_areAll_90 : decode cX12_areAll 90 = .ok (.istore_n 2, 1) := by decide +kernel
theorem dX12_areAll_91 : decode cX12_areAll 91 = .ok (.iinc 3 1, 3) := by decide +kernel
theorem dX12_areAll_94 : decode cX12_areAll 94 = .ok (.goto (-90), 3) := by decide +kernel
theorem dX12_areAll_97 : decode cX12_areAll 97 = .ok (.iload_n 2, 1) := by decide +kernel
theorem dX12_areAll_98 : decode cX12_areAll 98 = .ok (.ireturn, 1) := by decide +kernel
theorem dX12_as_0 : decode cX12_as 0 = .ok (.aload_n 0, 1) := by decide +kernel
theorem dX12_as_1 : decode cX12_as 1 = .ok (.iconst 0, 1) := by decide +kernel
theorem dX12_as_12 : decode cX12_as 12 = .ok (.iconst (-1), 1) := by decide +kernel
theorem dX12_as_13 : decode cX12_as 13 = .ok (.ireturn, 1) := by decide +kernel
theorem dX12_as_14 : decode cX12_as 14 = .ok (.aload_n 0, 1) := by decide +kernel
theorem dX12_as_15 : decode cX12_as 15 = .ok (.getfield 64, 3) := by decide +kernel
theorem dX12_as_18 : decode cX12_as 18 = .ok (.istore_n 2, 1) := by decide +kernel
theorem dX12_as_19 : decode cX12_as 19 = .ok (.aload_n 0, 1) := by decide +kernel
theorem dX12_as_2 : decode cX12_as 2 = .ok (.putfield 150, 3) := by decide +kernel
theorem dX12_as_20 : decode cX12_as 20 = .ok (.iload_n 1, 1) := by decide +kernel
theorem dX12_as_21 : decode cX12_as 21 = .ok (.putfield 64, 3) := by decide +kernel
theorem dX12_as_24 : decode cX12_as 24 = .ok (.iload_n 2, 1) := by decide +kernel
theorem dX12_as_25 : decode cX12_as 25 = .ok (.ireturn, 1) := by decide +kernel
theorem dX12_as_5 : decode cX12_as 5 = .ok (.iload_n 1, 1) := by decide +kernel
theorem dX12_as_6 : decode cX12_as 6 = .ok (.invokestatic 226, 3) := by decide +kernel
theorem dX12_as_9 : decode cX12_as 9 = .ok (.ifCond .ne 5, 3) := by decide +kernel
theorem dX12_at_0 : decode cX12_at 0 = .ok (.aload_n 0, 1) := by decide +kernel
theorem dX12_at_1 : decode cX12_at 1 = .ok (.iconst 0, 1) := by decide +kernel
theorem dX12_at_10 : decode cX12_at 10 = .ok (.ifCond .eq 19, 3) := by decide +kernel
theorem dX12_at_13 : decode cX12_at 13 = .ok (.iload_n 2, 1) := by decide +kernel
theorem dX12_at_14 : decode cX12_at 14 = .ok (.invokestatic 170, 3) := by decide +kernel
theorem dX12_at_17 : decode cX12_at 17 = .ok (.ifCond .eq 12, 3) := by decide +kernel
theorem dX12_at_2 : decode cX12_at 2 = .ok (.putfield 150, 3) := by decide +kernel
theorem dX12_at_20 : decode cX12_at 20 = .ok (.aload_n 0, 1) := by decide +kernel
theorem dX12_at_21 : decode cX12_at 21 = .ok (.iload_n 1, 1) := by decide +kernel
theorem dX12_at_22 : decode cX12_at 22 = .ok (.iload_n 2, 1) := by decide +kernel
theorem dX12_at_23 : decode cX12_at 23 = .ok (.invokevirtual 178, 3) := by decide +kernel
theorem dX12_at_26 : decode cX12_at 26 = .ok (.goto 4, 3) := by decide +kernel
theorem dX12_at_29 : decode cX12_at 29 = .ok (.iconst (-1), 1) := by decide +kernel
theorem dX12_at_30 : decode cX12_at 30 = .ok (.ireturn, 1) := by decide +kernel
theorem dX12_at_5 : decode cX12_at 5 = .ok (.aload_n 0, 1) := by decide +kernel
theorem dX12_at_6 : decode cX12_at 6 = .ok (.iload_n 1, 1) := by decide +kernel
theorem dX12_at_7 : decode cX12_at 7 = .ok (.invokevirtual 166, 3) := by decide +kernel
theorem dX12_bale_0 : decode cX12_bale 0 = .ok (.aload_n 0, 1) := by decide +kernel
theorem dX12_bale_1 : decode cX12_bale 1 = .ok (.iconst 0, 1) := by decide +kernel
theorem dX12_bale_100 : decode cX12_bale 100 = .ok (.getfield 194, 3) := by decide +kernel
theorem dX12_bale_103 : decode cX12_bale 103 = .ok (.iload 4, 2) := by decide +kernel
theorem dX12_bale_105 : decode cX12_bale 105 = .ok (.iastore, 1) := by decide +kernel
theorem dX12_bale_106 : decode cX12_bale 106 = .ok (.aload_n 0, 1) := by decide +kernel
theorem dX12_bale_107 : decode cX12_bale 107 = .ok (.getfield 34, 3) := by decide +kernel
theorem dX12_bale_11 : decode cX12_bale 11 = .ok (.invokestatic 156, 3) := by decide +kernel
theorem dX12_bale_110 : decode cX12_bale 110 = .ok (.aload_n 0, 1) := by decide +kernel
theorem dX12_bale_111 : decode cX12_bale 111 = .ok (.getfield 194, 3) := by decide +kernel
theorem dX12_bale_114 : decode cX12_bale 114 = .ok (.iconst (-1), 1) := by decide +kernel
theorem dX12_bale_115 : decode cX12_bale 115 = .ok (.iastore, 1) := by decide +kernel
theorem dX12_bale_116 : decode cX12_bale 116 = .ok (.aload_n 0, 1) := by decide +kernel
theorem dX12_bale_117 : decode cX12_bale 117 = .ok (.dup, 1) := by decide +kernel
theorem dX12_bale_118 : decode cX12_bale 118 = .ok (.getfield 194, 3) := by decide +kernel
theorem dX12_bale_121 : decode cX12_bale 121 = .ok (.iconst 1, 1) := by decide +kernel
theorem dX12_bale_122 : decode cX12_bale 122 = .ok (.iadd, 1) := by decide +kernel
theorem dX12_bale_123 : decode cX12_bale 123 = .ok (.putfield 194, 3) := by decide +kernel
theorem dX12_bale_126 : decode cX12_bale 126 = .ok (.aload_n 0, 1) := by decide +kernel
theorem dX12_bale_127 : decode cX12_bale 127 = .ok (.getfield 194, 3) := by decide +kernel
theorem dX12_bale_130 : decode cX12_bale 130 = .ok (.iconst 1, 1) := by decide +kernel
theorem dX12_bale_131 : decode cX12_bale 131 = .ok (.isub, 1) := by decide +kernel
theorem dX12_bale_132 : decode cX12_bale 132 = .ok (.ireturn, 1) := by decide +kernel
theorem dX12_bale_14 : decode cX12_bale 14 = .ok (.ifCond .eq 49, 3) := by decide +kernel
theorem dX12_bale_17 : decode cX12_bale 17 = .ok (.iload_n 2, 1) := by decide +kernel
theorem dX12_bale_18 : decode cX12_bale 18 = .ok (.i2l, 1) := by decide +kernel
theorem dX12_bale_19 : decode cX12_bale 19 = .ok (.lconst 0, 1) := by decide +kernel
theorem dX12_bale_2 : decode cX12_bale 2 = .ok (.putfield 150, 3) := by decide +kernel
theorem dX12_bale_20 : decode cX12_bale 20 = .ok (.ldc2_w 199, 3) := by decide +kernel
theorem dX12_bale_23 : decode cX12_bale 23 = .ok (.invokestatic 156, 3) := by decide +kernel
theorem dX12_bale_26 : decode cX12_bale 26 = .ok (.ifCond .eq 37, 3) := by decide +kernel
theorem dX12_bale_29 : decode cX12_bale 29 = .ok (.iload_n 3, 1) := by decide +kernel
theorem dX12_bale_30 : decode cX12_bale 30 = .ok (.i2l, 1) := by decide +kernel
theorem dX12_bale_31 : decode cX12_bale 31 = .ok (.lconst 1, 1) := by decide +kernel
theorem dX12_bale_32 : decode cX12_bale 32 = .ok (.ldc2_w 201, 3) := by decide +kernel
theorem dX12_bale_35 : decode cX12_bale 35 = .ok (.invokestatic 156, 3) := by decide +kernel
theorem dX12_bale_38 : decode cX12_bale 38 = .ok (.ifCond .eq 25, 3) := by decide +kernel
theorem dX12_bale_41 : decode cX12_bale 41 = .ok (.iload 4, 2) := by decide +kernel
theorem dX12_bale_43 : decode cX12_bale 43 = .ok (.i2l, 1) := by decide +kernel
theorem dX12_bale_44 : decode cX12_bale 44 = .ok (.lconst 0, 1) := by decide +kernel
theorem dX12_bale_45 : decode cX12_bale 45 = .ok (.ldc2_w 173, 3) := by decide +kernel
theorem dX12_bale_48 : decode cX12_bale 48 = .ok (.invokestatic 156, 3) := by decide +kernel
theorem dX12_bale_5 : decode cX12_bale 5 = .ok (.iload_n 1, 1) := by decide +kernel
theorem dX12_bale_51 : decode cX12_bale 51 = .ok (.ifCond .eq 12, 3) := by decide +kernel
theorem dX12_bale_54 : decode cX12_bale 54 = .ok (.aload_n 0, 1) := by decide +kernel
theorem dX12_bale_55 : decode cX12_bale 55 = .ok (.getfield 194, 3) := by decide +kernel
theorem dX12_bale_58 : decode cX12_bale 58 = .ok (.bipush 24, 2) := by decide +kernel
theorem dX12_bale_6 : decode cX12_bale 6 = .ok (.i2l, 1) := by decide +kernel
theorem dX12_bale_60 : decode cX12_bale 60 = .ok (.if_icmp .ne 5, 3) := by decide +kernel
theorem dX12_bale_63 : decode cX12_bale 63 = .ok (.iconst (-1), 1) := by decide +kernel
theorem dX12_bale_64 : decode cX12_bale 64 = .ok (.ireturn, 1) := by decide +kernel
theorem dX12_bale_65 : decode cX12_bale 65 = .ok (.aload_n 0, 1) := by decide +kernel
theorem dX12_bale_66 : decode cX12_bale 66 = .ok (.getfield 22, 3) := by decide +kernel
theorem dX12_bale_69 : decode cX12_bale 69 = .ok (.aload_n 0, 1) := by decide +kernel
theorem dX12_bale_7 : decode cX12_bale 7 = .ok (.lconst 0, 1) := by decide +kernel
theorem dX12_bale_70 : decode cX12_bale 70 = .ok (.getfield 194, 3) := by decide +kernel
theorem dX12_bale_73 : decode cX12_bale 73 = .ok (.iload_n 1, 1) := by decide +kernel
theorem dX12_bale_74 : decode cX12_bale 74 = .ok (.iastore, 1) := by decide +kernel
theorem dX12_bale_75 : decode cX12_bale 75 = .ok (.aload_n 0, 1) := by decide +kernel
theorem dX12_bale_76 : decode cX12_bale 76 = .ok (.getfield 25, 3) := by decide +kernel
theorem dX12_bale_79 : decode cX12_bale 79 = .ok (.aload_n 0, 1) := by decide +kernel
theorem dX12_bale_8 : decode cX12_bale 8 = .ok (.ldc2_w 197, 3) := by decide +kernel
theorem dX12_bale_80 : decode cX12_bale 80 = .ok (.getfield 194, 3) := by decide +kernel
theorem dX12_bale_83 : decode cX12_bale 83 = .ok (.iload_n 2, 1) := by decide +kernel
theorem dX12_bale_84 : decode cX12_bale 84 = .ok (.iastore, 1) := by decide +kernel
theorem dX12_bale_85 : decode cX12_bale 85 = .ok (.aload_n 0, 1) := by decide +kernel
theorem dX12_bale_86 : decode cX12_bale 86 = .ok (.getfield 28, 3) := by decide +kernel
theorem dX12_bale_89 : decode cX12_bale 89 = .ok (.aload_n 0, 1) := by decide +kernel
theorem dX12_bale_90 : decode cX12_bale 90 = .ok (.getfield 194, 3) := by decide +kernel
theorem dX12_bale_93 : decode cX12_bale 93 = .ok (.iload_n 3, 1) := by decide +kernel
theorem dX12_bale_94 : decode cX12_bale 94 = .ok (.iastore, 1) := by decide +kernel
theorem dX12_bale_95 : decode cX12_bale 95 = .ok (.aload_n 0, 1) := by decide +kernel
theorem dX12_bale_96 : decode cX12_bale 96 = .ok (.getfield 31, 3) := by decide +kernel
theorem dX12_bale_99 : decode cX12_bale 99 = .ok (.aload_n 0, 1) := by decide +kernel
theorem dX12_blended_0 : decode cX12_blended 0 = .ok (.iconst 0, 1) := by decide +kernel
theorem dX12_blended_1 : decode cX12_blended 1 = .ok (.istore_n 2, 1) := by decide +kernel
theorem dX12_blended_12 : decode cX12_blended 12 = .ok (.iload_n 2, 1) := by decide +kernel
theorem dX12_blended_13 : decode cX12_blended 13 = .ok (.aload_n 0, 1) := by decide +kernel
theorem dX12_blended_14 : decode cX12_blended 14 = .ok (.getfield 87, 3) := by decide +kernel
theorem dX12_blended_17 : decode cX12_blended 17 = .ok (.iload_n 3, 1) := by decide +kernel
theorem dX12_blended_18 : decode cX12_blended 18 = .ok (.iaload, 1) := by decide +kernel
theorem dX12_blended_19 : decode cX12_blended 19 = .ok (.aload_n 0, 1) := by decide +kernel
theorem dX12_blended_2 : decode cX12_blended 2 = .ok (.iconst 0, 1) := by decide +kernel
theorem dX12_blended_20 : decode cX12_blended 20 = .ok (.getfield 9, 3) := by decide +kernel
theorem dX12_blended_23 : decode cX12_blended 23 = .ok (.bipush 7, 2) := by decide +kernel
theorem dX12_blended_25 : decode cX12_blended 25 = .ok (.iload_n 3, 1) := by decide +kernel
theorem dX12_blended_26 : decode cX12_blended 26 = .ok (.imul, 1) := by decide +kernel
theorem dX12_blended_27 : decode cX12_blended 27 = .ok (.iload_n 1, 1) := by decide +kernel
theorem dX12_blended_28 : decode cX12_blended 28 = .ok (.iadd, 1) := by decide +kernel
theorem dX12_blended_29 : decode cX12_blended 29 = .ok (.iaload, 1) := by decide +kernel
theorem dX12_blended_3 : decode cX12_blended 3 = .ok (.istore_n 3, 1) := by decide +kernel
theorem dX12_blended_30 : decode cX12_blended 30 = .ok (.imul, 1) := by decide +kernel
theorem dX12_blended_31 : decode cX12_blended 31 = .ok (.iadd, 1) := by decide +kernel
theorem dX12_blended_32 : decode cX12_blended 32 = .ok (.istore_n 2, 1) := by decide +kernel
theorem dX12_blended_33 : decode cX12_blended 33 = .ok (.iinc 3 1, 3) := by decide +kernel
theorem dX12_blended_36 : decode cX12_blended 36 = .ok (.goto (-32), 3) := by decide +kernel
theorem dX12_blended_39 : decode cX12_blended 39 = .ok (.iload_n 2, 1) := by decide +kernel
theorem dX12_blended_4 : decode cX12_blended 4 = .ok (.iload_n 3, 1) := by decide +kernel
theorem dX12_blended_40 : decode cX12_blended 40 = .ok (.bipush 12, 2) := by decide +kernel
theorem dX12_blended_42 : decode cX12_blended 42 = .ok (.idiv, 1) := by decide +kernel
theorem dX12_blended_43 : decode cX12_blended 43 = .ok (.ireturn, 1) := by decide +kernel
theorem dX12_blended_5 : decode cX12_blended 5 = .ok (.aload_n 0, 1) := by decide +kernel
theorem dX12_blended_6 : decode cX12_blended 6 = .ok (.getfield 153, 3) := by decide +kernel
theorem dX12_blended_9 : decode cX12_blended 9 = .ok (.if_icmp .ge 30, 3) := by decide +kernel
theorem dX12_called_0 : decode cX12_called 0 = .ok (.aload_n 0, 1) := by decide +kernel
theorem dX12_called_1 : decode cX12_called 1 = .ok (.iconst 0, 1) := by decide +kernel
theorem dX12_called_102 : decode cX12_called 102 = .ok (.iload 7, 2) := by decide +kernel
theorem dX12_called_104 : decode cX12_called 104 = .ok (.iaload, 1) := by decide +kernel
theorem dX12_called_105 : decode cX12_called 105 = .ok (.iload_n 1, 1) := by decide +kernel
theorem dX12_called_106 : decode cX12_called 106 = .ok (.if_icmp .ne 30, 3) := by decide +kernel
theorem dX12_called_109 : decode cX12_called 109 = .ok (.aload_n 0, 1) := by decide +kernel
theorem dX12_called_110 : decode cX12_called 110 = .ok (.getfield 117, 3) := by decide +kernel
theorem dX12_called_113 : decode cX12_called 113 = .ok (.iload 7, 2) := by decide +kernel
theorem dX12_called_115 : decode cX12_called 115 = .ok (.iaload, 1) := by decide +kernel
theorem dX12_called_116 : decode cX12_called 116 = .ok (.iload_n 2, 1) := by decide +kernel
theorem dX12_called_117 : decode cX12_called 117 = .ok (.if_icmp .ne 19, 3) := by decide +kernel
theorem dX12_called_12 : decode cX12_called 12 = .ok (.aload_n 0, 1) := by decide +kernel
theorem dX12_called_120 : decode cX12_called 120 = .ok (.aload_n 0, 1) := by decide +kernel
theorem dX12_called_121 : decode cX12_called 121 = .ok (.getfield 114, 3) := by decide +kernel
theorem dX12_called_124 : decode cX12_called 124 = .ok (.iload 7, 2) := by decide +kernel
theorem dX12_called_126 : decode cX12_called 126 = .ok (.iaload, 1) := by decide +kernel
theorem dX12_called_127 : decode cX12_called 127 = .ok (.iload 5, 2) := by decide +kernel
theorem dX12_called_129 : decode cX12_called 129 = .ok (.if_icmp .ne 7, 3) := by decide +kernel
theorem dX12_called_13 : decode cX12_called 13 = .ok (.iload_n 2, 1) := by decide +kernel
theorem dX12_called_132 : decode cX12_called 132 = .ok (.iconst 1, 1) := by decide +kernel
theorem dX12_called_133 : decode cX12_called 133 = .ok (.goto 4, 3) := by decide +kernel
theorem dX12_called_136 : decode cX12_called 136 = .ok (.iconst 0, 1) := by decide +kernel
theorem dX12_called_137 : decode cX12_called 137 = .ok (.invokestatic 190, 3) := by decide +kernel
theorem dX12_called_14 : decode cX12_called 14 = .ok (.invokevirtual 166, 3) := by decide +kernel
theorem dX12_called_140 : decode cX12_called 140 = .ok (.iadd, 1) := by decide +kernel
theorem dX12_called_141 : decode cX12_called 141 = .ok (.iadd, 1) := by decide +kernel
theorem dX12_called_142 : decode cX12_called 142 = .ok (.istore 6, 2) := by decide +kernel
theorem dX12_called_144 : decode cX12_called 144 = .ok (.iinc 7 1, 3) := by decide +kernel
theorem dX12_called_147 : decode cX12_called 147 = .ok (.goto (-102), 3) := by decide +kernel
theorem dX12_called_150 : decode cX12_called 150 = .ok (.iload 6, 2) := by decide +kernel
theorem dX12_called_152 : decode cX12_called 152 = .ok (.iload 4, 2) := by decide +kernel
theorem dX12_called_154 : decode cX12_called 154 = .ok (.if_icmp .le 10, 3) := by decide +kernel
theorem dX12_called_157 : decode cX12_called 157 = .ok (.iload 5, 2) := by decide +kernel
theorem dX12_called_159 : decode cX12_called 159 = .ok (.istore_n 3, 1) := by decide +kernel
theorem dX12_called_160 : decode cX12_called 160 = .ok (.iload 6, 2) := by decide +kernel
theorem dX12_called_162 : decode cX12_called 162 = .ok (.istore 4, 2) := by decide +kernel
theorem dX12_called_164 : decode cX12_called 164 = .ok (.iinc 5 1, 3) := by decide +kernel
theorem dX12_called_167 : decode cX12_called 167 = .ok (.goto (-137), 3) := by decide +kernel
theorem dX12_called_17 : decode cX12_called 17 = .ok (.ifCond .ne 5, 3) := by decide +kernel
theorem dX12_called_170 : decode cX12_called 170 = .ok (.iload_n 3, 1) := by decide +kernel
theorem dX12_called_171 : decode cX12_called 171 = .ok (.ireturn, 1) := by decide +kernel
theorem dX12_called_2 : decode cX12_called 2 = .ok (.putfield 150, 3) := by decide +kernel
theorem dX12_called_20 : decode cX12_called 20 = .ok (.iconst (-1), 1) := by decide +kernel
theorem dX12_called_21 : decode cX12_called 21 = .ok (.ireturn, 1) := by decide +kernel
theorem dX12_called_22 : decode cX12_called 22 = .ok (.iconst (-1), 1) := by decide +kernel
theorem dX12_called_23 : decode cX12_called 23 = .ok (.istore_n 3, 1) := by decide +kernel
theorem dX12_called_24 : decode cX12_called 24 = .ok (.iconst 0, 1) := by decide +kernel
theorem dX12_called_25 : decode cX12_called 25 = .ok (.istore 4, 2) := by decide +kernel
theorem dX12_called_27 : decode cX12_called 27 = .ok (.iconst 0, 1) := by decide +kernel
theorem dX12_called_28 : decode cX12_called 28 = .ok (.istore 5, 2) := by decide +kernel
theorem dX12_called_30 : decode cX12_called 30 = .ok (.iload 5, 2) := by decide +kernel
theorem dX12_called_32 : decode cX12_called 32 = .ok (.aload_n 0, 1) := by decide +kernel
theorem dX12_called_33 : decode cX12_called 33 = .ok (.getfield 153, 3) := by decide +kernel
theorem dX12_called_36 : decode cX12_called 36 = .ok (.if_icmp .ge 134, 3) := by decide +kernel
theorem dX12_called_39 : decode cX12_called 39 = .ok (.iconst 0, 1) := by decide +kernel
theorem dX12_called_40 : decode cX12_called 40 = .ok (.istore 6, 2) := by decide +kernel
theorem dX12_called_42 : decode cX12_called 42 = .ok (.iconst 0, 1) := by decide +kernel
theorem dX12_called_43 : decode cX12_called 43 = .ok (.istore 7, 2) := by decide +kernel
theorem dX12_called_45 : decode cX12_called 45 = .ok (.iload 7, 2) := by decide +kernel
theorem dX12_called_47 : decode cX12_called 47 = .ok (.aload_n 0, 1) := by decide +kernel
theorem dX12_called_48 : decode cX12_called 48 = .ok (.getfield 409, 3) := by decide +kernel
theorem dX12_called_5 : decode cX12_called 5 = .ok (.iload_n 1, 1) := by decide +kernel
theorem dX12_called_51 : decode cX12_called 51 = .ok (.if_icmp .ge 99, 3) := by decide +kernel
theorem dX12_called_54 : decode cX12_called 54 = .ok (.iload 6, 2) := by decide +kernel
theorem dX12_called_56 : decode cX12_called 56 = .ok (.aload_n 0, 1) := by decide +kernel
theorem dX12_called_57 : decode cX12_called 57 = .ok (.getfield 108, 3) := by decide +kernel
theorem dX12_called_6 : decode cX12_called 6 = .ok (.invokestatic 208, 3) := by decide +kernel
theorem dX12_called_60 : decode cX12_called 60 = .ok (.iload 7, 2) := by decide +kernel
theorem dX12_called_62 : decode cX12_called 62 = .ok (.iaload, 1) := by decide +kernel
theorem dX12_called_63 : decode cX12_called 63 = .ok (.iload_n 1, 1) := by decide +kernel
theorem dX12_called_64 : decode cX12_called 64 = .ok (.if_icmp .ne 30, 3) := by decide +kernel
theorem dX12_called_67 : decode cX12_called 67 = .ok (.aload_n 0, 1) := by decide +kernel
theorem dX12_called_68 : decode cX12_called 68 = .ok (.getfield 114, 3) := by decide +kernel
theorem dX12_called_71 : decode cX12_called 71 = .ok (.iload 7, 2) := by decide +kernel
theorem dX12_called_73 : decode cX12_called 73 = .ok (.iaload, 1) := by decide +kernel
theorem dX12_called_74 : decode cX12_called 74 = .ok (.iload_n 2, 1) := by decide +kernel
theorem dX12_called_75 : decode cX12_called 75 = .ok (.if_icmp .ne 19, 3) := by decide +kernel
theorem dX12_called_78 : decode cX12_called 78 = .ok (.aload_n 0, 1) := by decide +kernel
theorem dX12_called_79 : decode cX12_called 79 = .ok (.getfield 117, 3) := by decide +kernel
theorem dX12_called_82 : decode cX12_called 82 = .ok (.iload 7, 2) := by decide +kernel
theorem dX12_called_84 : decode cX12_called 84 = .ok (.iaload, 1) := by decide +kernel
theorem dX12_called_85 : decode cX12_called 85 = .ok (.iload 5, 2) := by decide +kernel
theorem dX12_called_87 : decode cX12_called 87 = .ok (.if_icmp .ne 7, 3) := by decide +kernel
theorem dX12_called_9 : decode cX12_called 9 = .ok (.ifCond .eq 11, 3) := by decide +kernel
theorem dX12_called_90 : decode cX12_called 90 = .ok (.iconst 1, 1) := by decide +kernel
theorem dX12_called_91 : decode cX12_called 91 = .ok (.goto 4, 3) := by decide +kernel
theorem dX12_called_94 : decode cX12_called 94 = .ok (.iconst 0, 1) := by decide +kernel
theorem dX12_called_95 : decode cX12_called 95 = .ok (.invokestatic 190, 3) := by decide +kernel
theorem dX12_called_98 : decode cX12_called 98 = .ok (.aload_n 0, 1) := by decide +kernel
theorem dX12_called_99 : decode cX12_called 99 = .ok (.getfield 111, 3) := by decide +kernel
theorem dX12_compared_0 : decode cX12_compared 0 = .ok (.aload_n 0, 1) := by decide +kernel
theorem dX12_compared_1 : decode cX12_compared 1 = .ok (.iload_n 1, 1) := by decide +kernel
theorem dX12_compared_10 : decode cX12_compared 10 = .ok (.aload_n 0, 1) := by decide +kernel
theorem dX12_compared_11 : decode cX12_compared 11 = .ok (.iload_n 1, 1) := by decide +kernel
theorem dX12_compared_12 : decode cX12_compared 12 = .ok (.ldc_w 310, 3) := by decide +kernel
theorem dX12_compared_15 : decode cX12_compared 15 = .ok (.invokevirtual 272, 3) := by decide +kernel
theorem dX12_compared_18 : decode cX12_compared 18 = .ok (.ifCond .eq 41, 3) := by decide +kernel
theorem dX12_compared_2 : decode cX12_compared 2 = .ok (.invokevirtual 307, 3) := by decide +kernel
theorem dX12_compared_21 : decode cX12_compared 21 = .ok (.aload_n 0, 1) := by decide +kernel
theorem dX12_compared_22 : decode cX12_compared 22 = .ok (.getfield 84, 3) := by decide +kernel
theorem dX12_compared_25 : decode cX12_compared 25 = .ok (.aload_n 0, 1) := by decide +kernel
theorem dX12_compared_26 : decode cX12_compared 26 = .ok (.getfield 259, 3) := by decide +kernel
theorem dX12_compared_29 : decode cX12_compared 29 = .ok (.iaload, 1) := by decide +kernel
theorem dX12_compared_30 : decode cX12_compared 30 = .ok (.istore_n 3, 1) := by decide +kernel
theorem dX12_compared_31 : decode cX12_compared 31 = .ok (.aload_n 0, 1) := by decide +kernel
theorem dX12_compared_32 : decode cX12_compared 32 = .ok (.dup, 1) := by decide +kernel
theorem dX12_compared_33 : decode cX12_compared 33 = .ok (.getfield 259, 3) := by decide +kernel
theorem dX12_compared_36 : decode cX12_compared 36 = .ok (.iconst 1, 1) := by decide +kernel
theorem dX12_compared_37 : decode cX12_compared 37 = .ok (.iadd, 1) := by decide +kernel
theorem dX12_compared_38 : decode cX12_compared 38 = .ok (.putfield 259, 3) := by decide +kernel
theorem dX12_compared_41 : decode cX12_compared 41 = .ok (.aload_n 0, 1) := by decide +kernel
theorem dX12_compared_42 : decode cX12_compared 42 = .ok (.iload_n 1, 1) := by decide +kernel
theorem dX12_compared_43 : decode cX12_compared 43 = .ok (.invokevirtual 307, 3) := by decide +kernel
theorem dX12_compared_46 : decode cX12_compared 46 = .ok (.istore_n 2, 1) := by decide +kernel
theorem dX12_compared_47 : decode cX12_compared 47 = .ok (.iload_n 2, 1) := by decide +kernel
theorem dX12_compared_48 : decode cX12_compared 48 = .ok (.ifCond .eq 11, 3) := by decide +kernel
theorem dX12_compared_5 : decode cX12_compared 5 = .ok (.istore_n 2, 1) := by decide +kernel
theorem dX12_compared_51 : decode cX12_compared 51 = .ok (.aload_n 0, 1) := by decide +kernel
theorem dX12_compared_52 : decode cX12_compared 52 = .ok (.iload_n 3, 1) := by decide +kernel
theorem dX12_compared_53 : decode cX12_compared 53 = .ok (.invokestatic 297, 3) := by decide +kernel
theorem dX12_compared_56 : decode cX12_compared 56 = .ok (.invokevirtual 276, 3) := by decide +kernel
theorem dX12_compared_59 : decode cX12_compared 59 = .ok (.iload_n 2, 1) := by decide +kernel
theorem dX12_compared_6 : decode cX12_compared 6 = .ok (.iload_n 2, 1) := by decide +kernel
theorem dX12_compared_60 : decode cX12_compared 60 = .ok (.ireturn, 1) := by decide +kernel
theorem dX12_compared_7 : decode cX12_compared 7 = .ok (.ifCond .eq 52, 3) := by decide +kernel
theorem dX12_costOf_0 : decode cX12_costOf 0 = .ok (.iconst 0, 1) := by decide +kernel
theorem dX12_costOf_1 : decode cX12_costOf 1 = .ok (.istore_n 2, 1) := by decide +kernel
theorem dX12_costOf_12 : decode cX12_costOf 12 = .ok (.iload_n 2, 1) := by decide +kernel
theorem dX12_costOf_13 : decode cX12_costOf 13 = .ok (.aload_n 0, 1) := by decide +kernel
theorem dX12_costOf_14 : decode cX12_costOf 14 = .ok (.getfield 87, 3) := by decide +kernel
theorem dX12_costOf_17 : decode cX12_costOf 17 = .ok (.iload_n 3, 1) := by decide +kernel
theorem dX12_costOf_18 : decode cX12_costOf 18 = .ok (.iaload, 1) := by decide +kernel
theorem dX12_costOf_19 : decode cX12_costOf 19 = .ok (.aload_n 0, 1) := by decide +kernel
theorem dX12_costOf_2 : decode cX12_costOf 2 = .ok (.iconst 0, 1) := by decide +kernel
theorem dX12_costOf_20 : decode cX12_costOf 20 = .ok (.iload_n 3, 1) := by decide +kernel
theorem dX12_costOf_21 : decode cX12_costOf 21 = .ok (.iload_n 1, 1) := by decide +kernel
theorem dX12_costOf_22 : decode cX12_costOf 22 = .ok (.invokevirtual 178, 3) := by decide +kernel
theorem dX12_costOf_25 : decode cX12_costOf 25 = .ok (.imul, 1) := by decide +kernel
theorem dX12_costOf_26 : decode cX12_costOf 26 = .ok (.iadd, 1) := by decide +kernel
theorem dX12_costOf_27 : decode cX12_costOf 27 = .ok (.istore_n 2, 1) := by decide +kernel
theorem dX12_costOf_28 : decode cX12_costOf 28 = .ok (.iinc 3 1, 3) := by decide +kernel
theorem dX12_costOf_3 : decode cX12_costOf 3 = .ok (.istore_n 3, 1) := by decide +kernel
theorem dX12_costOf_31 : decode cX12_costOf 31 = .ok (.goto (-27), 3) := by decide +kernel
theorem dX12_costOf_34 : decode cX12_costOf 34 = .ok (.iload_n 2, 1) := by decide +kernel
theorem dX12_costOf_35 : decode cX12_costOf 35 = .ok (.ireturn, 1) := by decide +kernel
theorem dX12_costOf_4 : decode cX12_costOf 4 = .ok (.iload_n 3, 1) := by decide +kernel
theorem dX12_costOf_5 : decode cX12_costOf 5 = .ok (.aload_n 0, 1) := by decide +kernel
theorem dX12_costOf_6 : decode cX12_costOf 6 = .ok (.getfield 153, 3) := by decide +kernel
theorem dX12_costOf_9 : decode cX12_costOf 9 = .ok (.if_icmp .ge 25, 3) := by decide +kernel
theorem dX12_cost_0 : decode cX12_cost 0 = .ok (.aload_n 0, 1) := by decide +kernel
theorem dX12_cost_1 : decode cX12_cost 1 = .ok (.iconst 0, 1) := by decide +kernel
theorem dX12_cost_12 : decode cX12_cost 12 = .ok (.aload_n 0, 1) := by decide +kernel
theorem dX12_cost_13 : decode cX12_cost 13 = .ok (.invokevirtual 356, 3) := by decide +kernel
theorem dX12_cost_16 : decode cX12_cost 16 = .ok (.bipush 12, 2) := by decide +kernel
theorem dX12_cost_18 : decode cX12_cost 18 = .ok (.if_icmp .ne 11, 3) := by decide +kernel
theorem dX12_cost_2 : decode cX12_cost 2 = .ok (.putfield 150, 3) := by decide +kernel
theorem dX12_cost_21 : decode cX12_cost 21 = .ok (.aload_n 0, 1) := by decide +kernel
theorem dX12_cost_22 : decode cX12_cost 22 = .ok (.iload_n 1, 1) := by decide +kernel
theorem dX12_cost_23 : decode cX12_cost 23 = .ok (.invokevirtual 368, 3) := by decide +kernel
theorem dX12_cost_26 : decode cX12_cost 26 = .ok (.goto 4, 3) := by decide +kernel
theorem dX12_cost_29 : decode cX12_cost 29 = .ok (.iconst (-1), 1) := by decide +kernel
theorem dX12_cost_30 : decode cX12_cost 30 = .ok (.ireturn, 1) := by decide +kernel
theorem dX12_cost_5 : decode cX12_cost 5 = .ok (.iload_n 1, 1) := by decide +kernel
theorem dX12_cost_6 : decode cX12_cost 6 = .ok (.invokestatic 170, 3) := by decide +kernel
theorem dX12_cost_9 : decode cX12_cost 9 = .ok (.ifCond .eq 20, 3) := by decide +kernel
theorem dX12_count_0 : decode cX12_count 0 = .ok (.aload_n 0, 1) := by decide +kernel
theorem dX12_count_1 : decode cX12_count 1 = .ok (.iconst 0, 1) := by decide +kernel
theorem dX12_count_101 : decode cX12_count 101 = .ok (.ireturn, 1) := by decide +kernel
theorem dX12_count_102 : decode cX12_count 102 = .ok (.aload_n 0, 1) := by decide +kernel
theorem dX12_count_103 : decode cX12_count 103 = .ok (.getfield 223, 3) := by decide +kernel
theorem dX12_count_106 : decode cX12_count 106 = .ok (.ireturn, 1) := by decide +kernel
theorem dX12_count_107 : decode cX12_count 107 = .ok (.aload_n 0, 1) := by decide +kernel
theorem dX12_count_108 : decode cX12_count 108 = .ok (.getfield 409, 3) := by decide +kernel
theorem dX12_count_111 : decode cX12_count 111 = .ok (.ireturn, 1) := by decide +kernel
theorem dX12_count_112 : decode cX12_count 112 = .ok (.aload_n 0, 1) := by decide +kernel
theorem dX12_count_113 : decode cX12_count 113 = .ok (.getfield 420, 3) := by decide +kernel
theorem dX12_count_116 : decode cX12_count 116 = .ok (.ireturn, 1) := by decide +kernel
theorem dX12_count_117 : decode cX12_count 117 = .ok (.aload_n 0, 1) := by decide +kernel
theorem dX12_count_118 : decode cX12_count 118 = .ok (.getfield 388, 3) := by decide +kernel
theorem dX12_count_121 : decode cX12_count 121 = .ok (.ireturn, 1) := by decide +kernel
theorem dX12_count_122 : decode cX12_count 122 = .ok (.aload_n 0, 1) := by decide +kernel
theorem dX12_count_123 : decode cX12_count 123 = .ok (.getfield 256, 3) := by decide +kernel
theorem dX12_count_126 : decode cX12_count 126 = .ok (.ireturn, 1) := by decide +kernel
theorem dX12_count_127 : decode cX12_count 127 = .ok (.aload_n 0, 1) := by decide +kernel
theorem dX12_count_128 : decode cX12_count 128 = .ok (.getfield 64, 3) := by decide +kernel
theorem dX12_count_131 : decode cX12_count 131 = .ok (.ireturn, 1) := by decide +kernel
theorem dX12_count_132 : decode cX12_count 132 = .ok (.aload_n 0, 1) := by decide +kernel
theorem dX12_count_133 : decode cX12_count 133 = .ok (.invokevirtual 356, 3) := by decide +kernel
theorem dX12_count_136 : decode cX12_count 136 = .ok (.ireturn, 1) := by decide +kernel
theorem dX12_count_137 : decode cX12_count 137 = .ok (.iconst (-1), 1) := by decide +kernel
theorem dX12_count_138 : decode cX12_count 138 = .ok (.ireturn, 1) := by decide +kernel
theorem dX12_count_2 : decode cX12_count 2 = .ok (.putfield 150, 3) := by decide +kernel
theorem dX12_count_5 : decode cX12_count 5 = .ok (.iload_n 1, 1) := by decide +kernel
theorem dX12_count_6 : decode cX12_count 6 = .ok (.tableswitch 131 0 12 #[66, 71, 76, 81, 86, 91, 96, 101, 106, 111, 116, 121, 126], 66) := by decide +kernel
theorem dX12_count_72 : decode cX12_count 72 = .ok (.aload_n 0, 1) := by decide +kernel
theorem dX12_count_73 : decode cX12_count 73 = .ok (.getfield 153, 3) := by decide +kernel
theorem dX12_count_76 : decode cX12_count 76 = .ok (.ireturn, 1) := by decide +kernel
theorem dX12_count_77 : decode cX12_count 77 = .ok (.aload_n 0, 1) := by decide +kernel
theorem dX12_count_78 : decode cX12_count 78 = .ok (.getfield 175, 3) := by decide +kernel
theorem dX12_count_81 : decode cX12_count 81 = .ok (.ireturn, 1) := by decide +kernel
theorem dX12_count_82 : decode cX12_count 82 = .ok (.aload_n 0, 1) := by decide +kernel
theorem dX12_count_83 : decode cX12_count 83 = .ok (.getfield 194, 3) := by decide +kernel
theorem dX12_count_86 : decode cX12_count 86 = .ok (.ireturn, 1) := by decide +kernel
theorem dX12_count_87 : decode cX12_count 87 = .ok (.aload_n 0, 1) := by decide +kernel
theorem dX12_count_88 : decode cX12_count 88 = .ok (.getfield 229, 3) := by decide +kernel
theorem dX12_count_91 : decode cX12_count 91 = .ok (.ireturn, 1) := by decide +kernel
theorem dX12_count_92 : decode cX12_count 92 = .ok (.aload_n 0, 1) := by decide +kernel
theorem dX12_count_93 : decode cX12_count 93 = .ok (.getfield 320, 3) := by decide +kernel
theorem dX12_count_96 : decode cX12_count 96 = .ok (.ireturn, 1) := by decide +kernel
theorem dX12_count_97 : decode cX12_count 97 = .ok (.aload_n 0, 1) := by decide +kernel
theorem dX12_count_98 : decode cX12_count 98 = .ok (.invokevirtual 433, 3) := by decide +kernel
theorem dX12_due_0 : decode cX12_due 0 = .ok (.aload_n 0, 1) := by decide +kernel
theorem dX12_due_1 : decode cX12_due 1 = .ok (.iconst 0, 1) := by decide +kernel
theorem dX12_due_10 : decode cX12_due 10 = .ok (.ifCond .ne 5, 3) := by decide +kernel
theorem dX12_due_13 : decode cX12_due 13 = .ok (.iconst (-1), 1) := by decide +kernel
theorem dX12_due_14 : decode cX12_due 14 = .ok (.ireturn, 1) := by decide +kernel
theorem dX12_due_15 : decode cX12_due 15 = .ok (.aload_n 0, 1) := by decide +kernel
theorem dX12_due_16 : decode cX12_due 16 = .ok (.iload_n 1, 1) := by decide +kernel
theorem dX12_due_17 : decode cX12_due 17 = .ok (.iconst 0, 1) := by decide +kernel
theorem dX12_due_18 : decode cX12_due 18 = .ok (.invokevirtual 253, 3) := by decide +kernel
theorem dX12_due_2 : decode cX12_due 2 = .ok (.putfield 150, 3) := by decide +kernel
theorem dX12_due_21 : decode cX12_due 21 = .ok (.istore_n 2, 1) := by decide +kernel
theorem dX12_due_22 : decode cX12_due 22 = .ok (.aload_n 0, 1) := by decide +kernel
theorem dX12_due_23 : decode cX12_due 23 = .ok (.iload_n 1, 1) := by decide +kernel
theorem dX12_due_24 : decode cX12_due 24 = .ok (.iconst 1, 1) := by decide +kernel
theorem dX12_due_25 : decode cX12_due 25 = .ok (.invokevirtual 253, 3) := by decide +kernel
theorem dX12_due_28 : decode cX12_due 28 = .ok (.istore_n 3, 1) := by decide +kernel
theorem dX12_due_29 : decode cX12_due 29 = .ok (.iload_n 2, 1) := by decide +kernel
theorem dX12_due_30 : decode cX12_due 30 = .ok (.ifCond .lt 15, 3) := by decide +kernel
theorem dX12_due_33 : decode cX12_due 33 = .ok (.iload_n 3, 1) := by decide +kernel
theorem dX12_due_34 : decode cX12_due 34 = .ok (.ifCond .lt 11, 3) := by decide +kernel
theorem dX12_due_37 : decode cX12_due 37 = .ok (.iload_n 2, 1) := by decide +kernel
theorem dX12_due_38 : decode cX12_due 38 = .ok (.iload_n 3, 1) := by decide +kernel
theorem dX12_due_39 : decode cX12_due 39 = .ok (.iadd, 1) := by decide +kernel
theorem dX12_due_40 : decode cX12_due 40 = .ok (.iconst 2, 1) := by decide +kernel
theorem dX12_due_41 : decode cX12_due 41 = .ok (.idiv, 1) := by decide +kernel
theorem dX12_due_42 : decode cX12_due 42 = .ok (.goto 12, 3) := by decide +kernel
theorem dX12_due_45 : decode cX12_due 45 = .ok (.iconst 0, 1) := by decide +kernel
theorem dX12_due_46 : decode cX12_due 46 = .ok (.iload_n 2, 1) := by decide +kernel
theorem dX12_due_47 : decode cX12_due 47 = .ok (.iload_n 3, 1) := by decide +kernel
theorem dX12_due_48 : decode cX12_due 48 = .ok (.invokestatic 238, 3) := by decide +kernel
theorem dX12_due_5 : decode cX12_due 5 = .ok (.aload_n 0, 1) := by decide +kernel
theorem dX12_due_51 : decode cX12_due 51 = .ok (.invokestatic 238, 3) := by decide +kernel
theorem dX12_due_54 : decode cX12_due 54 = .ok (.istore 4, 2) := by decide +kernel
theorem dX12_due_56 : decode cX12_due 56 = .ok (.aload_n 0, 1) := by decide +kernel
theorem dX12_due_57 : decode cX12_due 57 = .ok (.getfield 28, 3) := by decide +kernel
theorem dX12_due_6 : decode cX12_due 6 = .ok (.iload_n 1, 1) := by decide +kernel
theorem dX12_due_60 : decode cX12_due 60 = .ok (.iload_n 1, 1) := by decide +kernel
theorem dX12_due_61 : decode cX12_due 61 = .ok (.iaload, 1) := by decide +kernel
theorem dX12_due_62 : decode cX12_due 62 = .ok (.i2l, 1) := by decide +kernel
theorem dX12_due_63 : decode cX12_due 63 = .ok (.aload_n 0, 1) := by decide +kernel
theorem dX12_due_64 : decode cX12_due 64 = .ok (.getfield 31, 3) := by decide +kernel
theorem dX12_due_67 : decode cX12_due 67 = .ok (.iload_n 1, 1) := by decide +kernel
theorem dX12_due_68 : decode cX12_due 68 = .ok (.iaload, 1) := by decide +kernel
theorem dX12_due_69 : decode cX12_due 69 = .ok (.i2l, 1) := by decide +kernel
theorem dX12_due_7 : decode cX12_due 7 = .ok (.invokevirtual 205, 3) := by decide +kernel
theorem dX12_due_70 : decode cX12_due 70 = .ok (.lmul, 1) := by decide +kernel
theorem dX12_due_71 : decode cX12_due 71 = .ok (.sipush 1000, 3) := by decide +kernel
theorem dX12_due_74 : decode cX12_due 74 = .ok (.iload 4, 2) := by decide +kernel
theorem dX12_due_76 : decode cX12_due 76 = .ok (.isub, 1) := by decide +kernel
theorem dX12_due_77 : decode cX12_due 77 = .ok (.i2l, 1) := by decide +kernel
theorem dX12_due_78 : decode cX12_due 78 = .ok (.lmul, 1) := by decide +kernel
theorem dX12_due_79 : decode cX12_due 79 = .ok (.ldc2_w 164, 3) := by decide +kernel
theorem dX12_due_82 : decode cX12_due 82 = .ok (.ldiv, 1) := by decide +kernel
theorem dX12_due_83 : decode cX12_due 83 = .ok (.l2i, 1) := by decide +kernel
theorem dX12_due_84 : decode cX12_due 84 = .ok (.ireturn, 1) := by decide +kernel
theorem dX12_dust_0 : decode cX12_dust 0 = .ok (.aload_n 0, 1) := by decide +kernel
theorem dX12_dust_1 : decode cX12_dust 1 = .ok (.getfield 28, 3) := by decide +kernel
theorem dX12_dust_11 : decode cX12_dust 11 = .ok (.isub, 1) := by decide +kernel
theorem dX12_dust_12 : decode cX12_dust 12 = .ok (.ireturn, 1) := by decide +kernel
theorem dX12_dust_4 : decode cX12_dust 4 = .ok (.iload_n 1, 1) := by decide +kernel
theorem dX12_dust_5 : decode cX12_dust 5 = .ok (.iaload, 1) := by decide +kernel
theorem dX12_dust_6 : decode cX12_dust 6 = .ok (.aload_n 0, 1) := by decide +kernel
theorem dX12_dust_7 : decode cX12_dust 7 = .ok (.iload_n 1, 1) := by decide +kernel
theorem dX12_dust_8 : decode cX12_dust 8 = .ok (.invokevirtual 220, 3) := by decide +kernel
theorem dX12_end_0 : decode cX12_end 0 = .ok (.aload_n 0, 1) := by decide +kernel
theorem dX12_end_1 : decode cX12_end 1 = .ok (.iconst 0, 1) := by decide +kernel
theorem dX12_end_12 : decode cX12_end 12 = .ok (.i2l, 1) := by decide +kernel
theorem dX12_end_13 : decode cX12_end 13 = .ok (.invokestatic 156, 3) := by decide +kernel
theorem dX12_end_16 : decode cX12_end 16 = .ok (.ifCond .ne 5, 3) := by decide +kernel
theorem dX12_end_19 : decode cX12_end 19 = .ok (.iconst 0, 1) := by decide +kernel
theorem dX12_end_2 : decode cX12_end 2 = .ok (.putfield 150, 3) := by decide +kernel
theorem dX12_end_20 : decode cX12_end 20 = .ok (.ireturn, 1) := by decide +kernel
theorem dX12_end_21 : decode cX12_end 21 = .ok (.aload_n 0, 1) := by decide +kernel
theorem dX12_end_22 : decode cX12_end 22 = .ok (.iload_n 1, 1) := by decide +kernel
theorem dX12_end_23 : decode cX12_end 23 = .ok (.putfield 256, 3) := by decide +kernel
theorem dX12_end_26 : decode cX12_end 26 = .ok (.iconst 1, 1) := by decide +kernel
theorem dX12_end_27 : decode cX12_end 27 = .ok (.ireturn, 1) := by decide +kernel
theorem dX12_end_5 : decode cX12_end 5 = .ok (.iload_n 1, 1) := by decide +kernel
theorem dX12_end_6 : decode cX12_end 6 = .ok (.i2l, 1) := by decide +kernel
theorem dX12_end_7 : decode cX12_end 7 = .ok (.lconst 0, 1) := by decide +kernel
theorem dX12_end_8 : decode cX12_end 8 = .ok (.aload_n 0, 1) := by decide +kernel
theorem dX12_end_9 : decode cX12_end 9 = .ok (.getfield 256, 3) := by decide +kernel
theorem dX12_enters_0 : decode cX12_enters 0 = .ok (.aload_n 0, 1) := by decide +kernel
theorem dX12_enters_1 : decode cX12_enters 1 = .ok (.getfield 102, 3) := by decide +kernel
theorem dX12_enters_10 : decode cX12_enters 10 = .ok (.aload_n 0, 1) := by decide +kernel
theorem dX12_enters_11 : decode cX12_enters 11 = .ok (.dup, 1) := by decide +kernel
theorem dX12_enters_12 : decode cX12_enters 12 = .ok (.getfield 388, 3) := by decide +kernel
theorem dX12_enters_15 : decode cX12_enters 15 = .ok (.iconst 1, 1) := by decide +kernel
theorem dX12_enters_16 : decode cX12_enters 16 = .ok (.iadd, 1) := by decide +kernel
theorem dX12_enters_17 : decode cX12_enters 17 = .ok (.putfield 388, 3) := by decide +kernel
theorem dX12_enters_20 : decode cX12_enters 20 = .ok (.return_, 1) := by decide +kernel
theorem dX12_enters_4 : decode cX12_enters 4 = .ok (.aload_n 0, 1) := by decide +kernel
theorem dX12_enters_5 : decode cX12_enters 5 = .ok (.getfield 388, 3) := by decide +kernel
theorem dX12_enters_8 : decode cX12_enters 8 = .ok (.iload_n 1, 1) := by decide +kernel
theorem dX12_enters_9 : decode cX12_enters 9 = .ok (.iastore, 1) := by decide +kernel
theorem dX12_entry_0 : decode cX12_entry 0 = .ok (.iload_n 0, 1) := by decide +kernel
theorem dX12_entry_1 : decode cX12_entry 1 = .ok (.ifCond .ne 8, 3) := by decide +kernel
theorem dX12_entry_10 : decode cX12_entry 10 = .ok (.iconst 1, 1) := by decide +kernel
theorem dX12_entry_11 : decode cX12_entry 11 = .ok (.if_icmp .ne 8, 3) := by decide +kernel
theorem dX12_entry_14 : decode cX12_entry 14 = .ok (.iload_n 1, 1) := by decide +kernel
theorem dX12_entry_15 : decode cX12_entry 15 = .ok (.i2s, 1) := by decide +kernel
theorem dX12_entry_16 : decode cX12_entry 16 = .ok (.goto 4, 3) := by decide +kernel
theorem dX12_entry_19 : decode cX12_entry 19 = .ok (.iload_n 1, 1) := by decide +kernel
theorem dX12_entry_20 : decode cX12_entry 20 = .ok (.ireturn, 1) := by decide +kernel
theorem dX12_entry_4 : decode cX12_entry 4 = .ok (.iload_n 1, 1) := by decide +kernel
theorem dX12_entry_5 : decode cX12_entry 5 = .ok (.i2b, 1) := by decide +kernel
theorem dX12_entry_6 : decode cX12_entry 6 = .ok (.goto 14, 3) := by decide +kernel
theorem dX12_entry_9 : decode cX12_entry 9 = .ok (.iload_n 0, 1) := by decide +kernel
theorem dX12_every_0 : decode cX12_every 0 = .ok (.aload_n 0, 1) := by decide +kernel
theorem dX12_every_1 : decode cX12_every 1 = .ok (.iload_n 1, 1) := by decide +kernel
theorem dX12_every_10 : decode cX12_every 10 = .ok (.aload_n 0, 1) := by decide +kernel
theorem dX12_every_11 : decode cX12_every 11 = .ok (.iload_n 1, 1) := by decide +kernel
theorem dX12_every_12 : decode cX12_every 12 = .ok (.bipush 38, 2) := by decide +kernel
theorem dX12_every_14 : decode cX12_every 14 = .ok (.invokevirtual 282, 3) := by decide +kernel
theorem dX12_every_17 : decode cX12_every 17 = .ok (.ifCond .eq 35, 3) := by decide +kernel
theorem dX12_every_2 : decode cX12_every 2 = .ok (.invokevirtual 312, 3) := by decide +kernel
theorem dX12_every_20 : decode cX12_every 20 = .ok (.aload_n 0, 1) := by decide +kernel
theorem dX12_every_21 : decode cX12_every 21 = .ok (.dup, 1) := by decide +kernel
theorem dX12_every_22 : decode cX12_every 22 = .ok (.getfield 259, 3) := by decide +kernel
theorem dX12_every_25 : decode cX12_every 25 = .ok (.iconst 1, 1) := by decide +kernel
theorem dX12_every_26 : decode cX12_every 26 = .ok (.iadd, 1) := by decide +kernel
theorem dX12_every_27 : decode cX12_every 27 = .ok (.putfield 259, 3) := by decide +kernel
theorem dX12_every_30 : decode cX12_every 30 = .ok (.aload_n 0, 1) := by decide +kernel
theorem dX12_every_31 : decode cX12_every 31 = .ok (.iload_n 1, 1) := by decide +kernel
theorem dX12_every_32 : decode cX12_every 32 = .ok (.invokevirtual 312, 3) := by decide +kernel
theorem dX12_every_35 : decode cX12_every 35 = .ok (.istore_n 2, 1) := by decide +kernel
theorem dX12_every_36 : decode cX12_every 36 = .ok (.iload_n 2, 1) := by decide +kernel
theorem dX12_every_37 : decode cX12_every 37 = .ok (.ifCond .eq (-31), 3) := by decide +kernel
theorem dX12_every_40 : decode cX12_every 40 = .ok (.aload_n 0, 1) := by decide +kernel
theorem dX12_every_41 : decode cX12_every 41 = .ok (.bipush 38, 2) := by decide +kernel
theorem dX12_every_43 : decode cX12_every 43 = .ok (.invokestatic 297, 3) := by decide +kernel
theorem dX12_every_46 : decode cX12_every 46 = .ok (.invokevirtual 276, 3) := by decide +kernel
theorem dX12_every_49 : decode cX12_every 49 = .ok (.goto (-43), 3) := by decide +kernel
theorem dX12_every_5 : decode cX12_every 5 = .ok (.istore_n 2, 1) := by decide +kernel
theorem dX12_every_52 : decode cX12_every 52 = .ok (.iload_n 2, 1) := by decide +kernel
theorem dX12_every_53 : decode cX12_every 53 = .ok (.ireturn, 1) := by decide +kernel
theorem dX12_every_6 : decode cX12_every 6 = .ok (.iload_n 2, 1) := by decide +kernel
theorem dX12_every_7 : decode cX12_every 7 = .ok (.ifCond .eq 45, 3) := by decide +kernel
theorem dX12_eyeOf_0 : decode cX12_eyeOf 0 = .ok (.aload_n 0, 1) := by decide +kernel
theorem dX12_eyeOf_1 : decode cX12_eyeOf 1 = .ok (.iload_n 1, 1) := by decide +kernel
theorem dX12_eyeOf_2 : decode cX12_eyeOf 2 = .ok (.iconst (-1), 1) := by decide +kernel
theorem dX12_eyeOf_3 : decode cX12_eyeOf 3 = .ok (.invokevirtual 412, 3) := by decide +kernel
theorem dX12_eyeOf_6 : decode cX12_eyeOf 6 = .ok (.ireturn, 1) := by decide +kernel
theorem dX12_eye_0 : decode cX12_eye 0 = .ok (.aload_n 0, 1) := by decide +kernel
theorem dX12_eye_1 : decode cX12_eye 1 = .ok (.iconst 0, 1) := by decide +kernel
theorem dX12_eye_12 : decode cX12_eye 12 = .ok (.aload_n 0, 1) := by decide +kernel
theorem dX12_eye_13 : decode cX12_eye 13 = .ok (.iload_n 1, 1) := by decide +kernel
theorem dX12_eye_14 : decode cX12_eye 14 = .ok (.invokevirtual 337, 3) := by decide +kernel
theorem dX12_eye_17 : decode cX12_eye 17 = .ok (.goto 4, 3) := by decide +kernel
theorem dX12_eye_2 : decode cX12_eye 2 = .ok (.putfield 150, 3) := by decide +kernel
theorem dX12_eye_20 : decode cX12_eye 20 = .ok (.iconst (-1), 1) := by decide +kernel
theorem dX12_eye_21 : decode cX12_eye 21 = .ok (.ireturn, 1) := by decide +kernel
theorem dX12_eye_5 : decode cX12_eye 5 = .ok (.iload_n 1, 1) := by decide +kernel
theorem dX12_eye_6 : decode cX12_eye 6 = .ok (.invokestatic 208, 3) := by decide +kernel
theorem dX12_eye_9 : decode cX12_eye 9 = .ok (.ifCond .eq 11, 3) := by decide +kernel
theorem dX12_fault_0 : decode cX12_fault 0 = .ok (.aload_n 0, 1) := by decide +kernel
theorem dX12_fault_1 : decode cX12_fault 1 = .ok (.iconst 0, 1) := by decide +kernel
theorem dX12_fault_10 : decode cX12_fault 10 = .ok (.ifCond .eq 15, 3) := by decide +kernel
theorem dX12_fault_13 : decode cX12_fault 13 = .ok (.iload_n 2, 1) := by decide +kernel
theorem dX12_fault_14 : decode cX12_fault 14 = .ok (.i2l, 1) := by decide +kernel
theorem dX12_fault_15 : decode cX12_fault 15 = .ok (.lconst 0, 1) := by decide +kernel
theorem dX12_fault_16 : decode cX12_fault 16 = .ok (.ldc2_w 318, 3) := by decide +kernel
theorem dX12_fault_19 : decode cX12_fault 19 = .ok (.invokestatic 156, 3) := by decide +kernel
theorem dX12_fault_2 : decode cX12_fault 2 = .ok (.putfield 150, 3) := by decide +kernel
theorem dX12_fault_22 : decode cX12_fault 22 = .ok (.ifCond .ne 5, 3) := by decide +kernel
theorem dX12_fault_25 : decode cX12_fault 25 = .ok (.iconst (-1), 1) := by decide +kernel
theorem dX12_fault_26 : decode cX12_fault 26 = .ok (.ireturn, 1) := by decide +kernel
theorem dX12_fault_27 : decode cX12_fault 27 = .ok (.aload_n 0, 1) := by decide +kernel
theorem dX12_fault_28 : decode cX12_fault 28 = .ok (.getfield 93, 3) := by decide +kernel
theorem dX12_fault_31 : decode cX12_fault 31 = .ok (.iload_n 1, 1) := by decide +kernel
theorem dX12_fault_32 : decode cX12_fault 32 = .ok (.iaload, 1) := by decide +kernel
theorem dX12_fault_33 : decode cX12_fault 33 = .ok (.istore_n 3, 1) := by decide +kernel
theorem dX12_fault_34 : decode cX12_fault 34 = .ok (.aload_n 0, 1) := by decide +kernel
theorem dX12_fault_35 : decode cX12_fault 35 = .ok (.getfield 93, 3) := by decide +kernel
theorem dX12_fault_38 : decode cX12_fault 38 = .ok (.iload_n 1, 1) := by decide +kernel
theorem dX12_fault_39 : decode cX12_fault 39 = .ok (.iload_n 2, 1) := by decide +kernel
theorem dX12_fault_40 : decode cX12_fault 40 = .ok (.iastore, 1) := by decide +kernel
theorem dX12_fault_41 : decode cX12_fault 41 = .ok (.iload_n 3, 1) := by decide +kernel
theorem dX12_fault_42 : decode cX12_fault 42 = .ok (.ireturn, 1) := by decide +kernel
theorem dX12_fault_5 : decode cX12_fault 5 = .ok (.aload_n 0, 1) := by decide +kernel
theorem dX12_fault_6 : decode cX12_fault 6 = .ok (.iload_n 1, 1) := by decide +kernel
theorem dX12_fault_7 : decode cX12_fault 7 = .ok (.invokevirtual 391, 3) := by decide +kernel
theorem dX12_fire_0 : decode cX12_fire 0 = .ok (.aload_n 0, 1) := by decide +kernel
theorem dX12_fire_1 : decode cX12_fire 1 = .ok (.iconst 0, 1) := by decide +kernel
theorem dX12_fire_100 : decode cX12_fire 100 = .ok (.iadd, 1) := by decide +kernel
theorem dX12_fire_101 : decode cX12_fire 101 = .ok (.istore_n 2, 1) := by decide +kernel
theorem dX12_fire_102 : decode cX12_fire 102 = .ok (.iinc 4 1, 3) := by decide +kernel
theorem dX12_fire_105 : decode cX12_fire 105 = .ok (.goto (-71), 3) := by decide +kernel
theorem dX12_fire_108 : decode cX12_fire 108 = .ok (.iinc 3 1, 3) := by decide +kernel
theorem dX12_fire_11 : decode cX12_fire 11 = .ok (.invokestatic 156, 3) := by decide +kernel
theorem dX12_fire_111 : decode cX12_fire 111 = .ok (.goto (-88), 3) := by decide +kernel
theorem dX12_fire_114 : decode cX12_fire 114 = .ok (.iload_n 2, 1) := by decide +kernel
theorem dX12_fire_115 : decode cX12_fire 115 = .ok (.ireturn, 1) := by decide +kernel
theorem dX12_fire_14 : decode cX12_fire 14 = .ok (.ifCond .ne 5, 3) := by decide +kernel
theorem dX12_fire_17 : decode cX12_fire 17 = .ok (.iconst (-1), 1) := by decide +kernel
theorem dX12_fire_18 : decode cX12_fire 18 = .ok (.ireturn, 1) := by decide +kernel
theorem dX12_fire_19 : decode cX12_fire 19 = .ok (.iconst 0, 1) := by decide +kernel
theorem dX12_fire_2 : decode cX12_fire 2 = .ok (.putfield 150, 3) := by decide +kernel
theorem dX12_fire_20 : decode cX12_fire 20 = .ok (.istore_n 2, 1) := by decide +kernel
theorem dX12_fire_21 : decode cX12_fire 21 = .ok (.iconst 0, 1) := by decide +kernel
theorem dX12_fire_22 : decode cX12_fire 22 = .ok (.istore_n 3, 1) := by decide +kernel
theorem dX12_fire_23 : decode cX12_fire 23 = .ok (.iload_n 3, 1) := by decide +kernel
theorem dX12_fire_24 : decode cX12_fire 24 = .ok (.aload_n 0, 1) := by decide +kernel
theorem dX12_fire_25 : decode cX12_fire 25 = .ok (.getfield 153, 3) := by decide +kernel
theorem dX12_fire_28 : decode cX12_fire 28 = .ok (.if_icmp .ge 86, 3) := by decide +kernel
theorem dX12_fire_31 : decode cX12_fire 31 = .ok (.iconst 0, 1) := by decide +kernel
theorem dX12_fire_32 : decode cX12_fire 32 = .ok (.istore 4, 2) := by decide +kernel
theorem dX12_fire_34 : decode cX12_fire 34 = .ok (.iload 4, 2) := by decide +kernel
theorem dX12_fire_36 : decode cX12_fire 36 = .ok (.aload_n 0, 1) := by decide +kernel
theorem dX12_fire_37 : decode cX12_fire 37 = .ok (.getfield 194, 3) := by decide +kernel
theorem dX12_fire_40 : decode cX12_fire 40 = .ok (.if_icmp .ge 68, 3) := by decide +kernel
theorem dX12_fire_43 : decode cX12_fire 43 = .ok (.bipush 24, 2) := by decide +kernel
theorem dX12_fire_45 : decode cX12_fire 45 = .ok (.iload_n 3, 1) := by decide +kernel
theorem dX12_fire_46 : decode cX12_fire 46 = .ok (.imul, 1) := by decide +kernel
theorem dX12_fire_47 : decode cX12_fire 47 = .ok (.iload 4, 2) := by decide +kernel
theorem dX12_fire_49 : decode cX12_fire 49 = .ok (.iadd, 1) := by decide +kernel
theorem dX12_fire_5 : decode cX12_fire 5 = .ok (.iload_n 1, 1) := by decide +kernel
theorem dX12_fire_50 : decode cX12_fire 50 = .ok (.istore 5, 2) := by decide +kernel
theorem dX12_fire_52 : decode cX12_fire 52 = .ok (.aload_n 0, 1) := by decide +kernel
theorem dX12_fire_53 : decode cX12_fire 53 = .ok (.getfield 43, 3) := by decide +kernel
theorem dX12_fire_56 : decode cX12_fire 56 = .ok (.iload 5, 2) := by decide +kernel
theorem dX12_fire_58 : decode cX12_fire 58 = .ok (.iaload, 1) := by decide +kernel
theorem dX12_fire_59 : decode cX12_fire 59 = .ok (.iload_n 1, 1) := by decide +kernel
theorem dX12_fire_6 : decode cX12_fire 6 = .ok (.i2l, 1) := by decide +kernel
theorem dX12_fire_60 : decode cX12_fire 60 = .ok (.imul, 1) := by decide +kernel
theorem dX12_fire_61 : decode cX12_fire 61 = .ok (.sipush 1000, 3) := by decide +kernel
theorem dX12_fire_64 : decode cX12_fire 64 = .ok (.iadd, 1) := by decide +kernel
theorem dX12_fire_65 : decode cX12_fire 65 = .ok (.iconst 1, 1) := by decide +kernel
theorem dX12_fire_66 : decode cX12_fire 66 = .ok (.isub, 1) := by decide +kernel
theorem dX12_fire_67 : decode cX12_fire 67 = .ok (.sipush 1000, 3) := by decide +kernel
theorem dX12_fire_7 : decode cX12_fire 7 = .ok (.lconst 0, 1) := by decide +kernel
theorem dX12_fire_70 : decode cX12_fire 70 = .ok (.idiv, 1) := by decide +kernel
theorem dX12_fire_71 : decode cX12_fire 71 = .ok (.istore 6, 2) := by decide +kernel
theorem dX12_fire_73 : decode cX12_fire 73 = .ok (.aload_n 0, 1) := by decide +kernel
theorem dX12_fire_74 : decode cX12_fire 74 = .ok (.getfield 43, 3) := by decide +kernel
theorem dX12_fire_77 : decode cX12_fire 77 = .ok (.iload 5, 2) := by decide +kernel
theorem dX12_fire_79 : decode cX12_fire 79 = .ok (.dup2, 1) := by decide +kernel
theorem dX12_fire_8 : decode cX12_fire 8 = .ok (.ldc2_w 164, 3) := by decide +kernel
theorem dX12_fire_80 : decode cX12_fire 80 = .ok (.iaload, 1) := by decide +kernel
theorem dX12_fire_81 : decode cX12_fire 81 = .ok (.iload 6, 2) := by decide +kernel
theorem dX12_fire_83 : decode cX12_fire 83 = .ok (.isub, 1) := by decide +kernel
theorem dX12_fire_84 : decode cX12_fire 84 = .ok (.iastore, 1) := by decide +kernel
theorem dX12_fire_85 : decode cX12_fire 85 = .ok (.aload_n 0, 1) := by decide +kernel
theorem dX12_fire_86 : decode cX12_fire 86 = .ok (.getfield 37, 3) := by decide +kernel
theorem dX12_fire_89 : decode cX12_fire 89 = .ok (.iload 4, 2) := by decide +kernel
theorem dX12_fire_91 : decode cX12_fire 91 = .ok (.dup2, 1) := by decide +kernel
theorem dX12_fire_92 : decode cX12_fire 92 = .ok (.iaload, 1) := by decide +kernel
theorem dX12_fire_93 : decode cX12_fire 93 = .ok (.iload 6, 2) := by decide +kernel
theorem dX12_fire_95 : decode cX12_fire 95 = .ok (.iadd, 1) := by decide +kernel
theorem dX12_fire_96 : decode cX12_fire 96 = .ok (.iastore, 1) := by decide +kernel
theorem dX12_fire_97 : decode cX12_fire 97 = .ok (.iload_n 2, 1) := by decide +kernel
theorem dX12_fire_98 : decode cX12_fire 98 = .ok (.iload 6, 2) := by decide +kernel
theorem dX12_foretell_0 : decode cX12_foretell 0 = .ok (.aload_n 0, 1) := by decide +kernel
theorem dX12_foretell_1 : decode cX12_foretell 1 = .ok (.iconst 0, 1) := by decide +kernel
theorem dX12_foretell_102 : decode cX12_foretell 102 = .ok (.iconst 0, 1) := by decide +kernel
theorem dX12_foretell_103 : decode cX12_foretell 103 = .ok (.istore 8, 2) := by decide +kernel
theorem dX12_foretell_105 : decode cX12_foretell 105 = .ok (.iconst 0, 1) := by decide +kernel
theorem dX12_foretell_106 : decode cX12_foretell 106 = .ok (.istore 9, 2) := by decide +kernel
theorem dX12_foretell_108 : decode cX12_foretell 108 = .ok (.iload 9, 2) := by decide +kernel
theorem dX12_foretell_11 : decode cX12_foretell 11 = .ok (.invokestatic 156, 3) := by decide +kernel
theorem dX12_foretell_110 : decode cX12_foretell 110 = .ok (.aload_n 0, 1) := by decide +kernel
theorem dX12_foretell_111 : decode cX12_foretell 111 = .ok (.getfield 153, 3) := by decide +kernel
theorem dX12_foretell_114 : decode cX12_foretell 114 = .ok (.if_icmp .ge 41, 3) := by decide +kernel
theorem dX12_foretell_117 : decode cX12_foretell 117 = .ok (.iload 8, 2) := by decide +kernel
theorem dX12_foretell_119 : decode cX12_foretell 119 = .ok (.aload_n 0, 1) := by decide +kernel
theorem dX12_foretell_120 : decode cX12_foretell 120 = .ok (.iload 9, 2) := by decide +kernel
theorem dX12_foretell_122 : decode cX12_foretell 122 = .ok (.iload_n 3, 1) := by decide +kernel
theorem dX12_foretell_123 : decode cX12_foretell 123 = .ok (.invokevirtual 186, 3) := by decide +kernel
theorem dX12_foretell_126 : decode cX12_foretell 126 = .ok (.ifCond .eq 19, 3) := by decide +kernel
theorem dX12_foretell_129 : decode cX12_foretell 129 = .ok (.aload_n 0, 1) := by decide +kernel
theorem dX12_foretell_130 : decode cX12_foretell 130 = .ok (.getfield 40, 3) := by decide +kernel
theorem dX12_foretell_133 : decode cX12_foretell 133 = .ok (.bipush 24, 2) := by decide +kernel
theorem dX12_foretell_135 : decode cX12_foretell 135 = .ok (.iload 9, 2) := by decide +kernel
theorem dX12_foretell_137 : decode cX12_foretell 137 = .ok (.imul, 1) := by decide +kernel
theorem dX12_foretell_138 : decode cX12_foretell 138 = .ok (.iload 7, 2) := by decide +kernel
theorem dX12_foretell_14 : decode cX12_foretell 14 = .ok (.ifCond .eq 25, 3) := by decide +kernel
theorem dX12_foretell_140 : decode cX12_foretell 140 = .ok (.iadd, 1) := by decide +kernel
theorem dX12_foretell_141 : decode cX12_foretell 141 = .ok (.iaload, 1) := by decide +kernel
theorem dX12_foretell_142 : decode cX12_foretell 142 = .ok (.goto 4, 3) := by decide +kernel
theorem dX12_foretell_145 : decode cX12_foretell 145 = .ok (.iconst 0, 1) := by decide +kernel
theorem dX12_foretell_146 : decode cX12_foretell 146 = .ok (.iadd, 1) := by decide +kernel
theorem dX12_foretell_147 : decode cX12_foretell 147 = .ok (.istore 8, 2) := by decide +kernel
theorem dX12_foretell_149 : decode cX12_foretell 149 = .ok (.iinc 9 1, 3) := by decide +kernel
theorem dX12_foretell_152 : decode cX12_foretell 152 = .ok (.goto (-44), 3) := by decide +kernel
theorem dX12_foretell_155 : decode cX12_foretell 155 = .ok (.iload 8, 2) := by decide +kernel
theorem dX12_foretell_157 : decode cX12_foretell 157 = .ok (.sipush 1000, 3) := by decide +kernel
theorem dX12_foretell_160 : decode cX12_foretell 160 = .ok (.imul, 1) := by decide +kernel
theorem dX12_foretell_161 : decode cX12_foretell 161 = .ok (.aload_n 0, 1) := by decide +kernel
theorem dX12_foretell_162 : decode cX12_foretell 162 = .ok (.getfield 28, 3) := by decide +kernel
theorem dX12_foretell_165 : decode cX12_foretell 165 = .ok (.iload 7, 2) := by decide +kernel
theorem dX12_foretell_167 : decode cX12_foretell 167 = .ok (.iaload, 1) := by decide +kernel
theorem dX12_foretell_168 : decode cX12_foretell 168 = .ok (.idiv, 1) := by decide +kernel
theorem dX12_foretell_169 : decode cX12_foretell 169 = .ok (.istore 9, 2) := by decide +kernel
theorem dX12_foretell_17 : decode cX12_foretell 17 = .ok (.iload_n 2, 1) := by decide +kernel
theorem dX12_foretell_171 : decode cX12_foretell 171 = .ok (.iload 6, 2) := by decide +kernel
theorem dX12_foretell_173 : decode cX12_foretell 173 = .ok (.ifCond .ne 8, 3) := by decide +kernel
theorem dX12_foretell_176 : decode cX12_foretell 176 = .ok (.iload 9, 2) := by decide +kernel
theorem dX12_foretell_178 : decode cX12_foretell 178 = .ok (.goto 10, 3) := by decide +kernel
theorem dX12_foretell_18 : decode cX12_foretell 18 = .ok (.i2l, 1) := by decide +kernel
theorem dX12_foretell_181 : decode cX12_foretell 181 = .ok (.iload 4, 2) := by decide +kernel
theorem dX12_foretell_183 : decode cX12_foretell 183 = .ok (.iload 9, 2) := by decide +kernel
theorem dX12_foretell_185 : decode cX12_foretell 185 = .ok (.invokestatic 250, 3) := by decide +kernel
theorem dX12_foretell_188 : decode cX12_foretell 188 = .ok (.istore 4, 2) := by decide +kernel
theorem dX12_foretell_19 : decode cX12_foretell 19 = .ok (.ldc2_w 407, 3) := by decide +kernel
theorem dX12_foretell_190 : decode cX12_foretell 190 = .ok (.iload 6, 2) := by decide +kernel
theorem dX12_foretell_192 : decode cX12_foretell 192 = .ok (.ifCond .ne 8, 3) := by decide +kernel
theorem dX12_foretell_195 : decode cX12_foretell 195 = .ok (.iload 9, 2) := by decide +kernel
theorem dX12_foretell_197 : decode cX12_foretell 197 = .ok (.goto 10, 3) := by decide +kernel
theorem dX12_foretell_2 : decode cX12_foretell 2 = .ok (.putfield 150, 3) := by decide +kernel
theorem dX12_foretell_200 : decode cX12_foretell 200 = .ok (.iload 5, 2) := by decide +kernel
theorem dX12_foretell_202 : decode cX12_foretell 202 = .ok (.iload 9, 2) := by decide +kernel
theorem dX12_foretell_204 : decode cX12_foretell 204 = .ok (.invokestatic 238, 3) := by decide +kernel
theorem dX12_foretell_207 : decode cX12_foretell 207 = .ok (.istore 5, 2) := by decide +kernel
theorem dX12_foretell_209 : decode cX12_foretell 209 = .ok (.iinc 6 1, 3) := by decide +kernel
theorem dX12_foretell_212 : decode cX12_foretell 212 = .ok (.iinc 7 1, 3) := by decide +kernel
theorem dX12_foretell_215 : decode cX12_foretell 215 = .ok (.goto (-162), 3) := by decide +kernel
theorem dX12_foretell_218 : decode cX12_foretell 218 = .ok (.iload 6, 2) := by decide +kernel
theorem dX12_foretell_22 : decode cX12_foretell 22 = .ok (.ldc2_w 199, 3) := by decide +kernel
theorem dX12_foretell_220 : decode cX12_foretell 220 = .ok (.ifCond .ne 5, 3) := by decide +kernel
theorem dX12_foretell_223 : decode cX12_foretell 223 = .ok (.iconst (-1), 1) := by decide +kernel
theorem dX12_foretell_224 : decode cX12_foretell 224 = .ok (.ireturn, 1) := by decide +kernel
theorem dX12_foretell_225 : decode cX12_foretell 225 = .ok (.aload_n 0, 1) := by decide +kernel
theorem dX12_foretell_226 : decode cX12_foretell 226 = .ok (.iconst 0, 1) := by decide +kernel
theorem dX12_foretell_227 : decode cX12_foretell 227 = .ok (.putfield 388, 3) := by decide +kernel
theorem dX12_foretell_230 : decode cX12_foretell 230 = .ok (.aload_n 0, 1) := by decide +kernel
theorem dX12_foretell_231 : decode cX12_foretell 231 = .ok (.iload 4, 2) := by decide +kernel
theorem dX12_foretell_233 : decode cX12_foretell 233 = .ok (.invokevirtual 394, 3) := by decide +kernel
theorem dX12_foretell_236 : decode cX12_foretell 236 = .ok (.aload_n 0, 1) := by decide +kernel
theorem dX12_foretell_237 : decode cX12_foretell 237 = .ok (.iload 5, 2) := by decide +kernel
theorem dX12_foretell_239 : decode cX12_foretell 239 = .ok (.invokevirtual 394, 3) := by decide +kernel
theorem dX12_foretell_242 : decode cX12_foretell 242 = .ok (.aload_n 0, 1) := by decide +kernel
theorem dX12_foretell_243 : decode cX12_foretell 243 = .ok (.iload 6, 2) := by decide +kernel
theorem dX12_foretell_245 : decode cX12_foretell 245 = .ok (.invokevirtual 394, 3) := by decide +kernel
theorem dX12_foretell_248 : decode cX12_foretell 248 = .ok (.iload 4, 2) := by decide +kernel
theorem dX12_foretell_25 : decode cX12_foretell 25 = .ok (.invokestatic 156, 3) := by decide +kernel
theorem dX12_foretell_250 : decode cX12_foretell 250 = .ok (.ireturn, 1) := by decide +kernel
theorem dX12_foretell_28 : decode cX12_foretell 28 = .ok (.ifCond .eq 11, 3) := by decide +kernel
theorem dX12_foretell_31 : decode cX12_foretell 31 = .ok (.aload_n 0, 1) := by decide +kernel
theorem dX12_foretell_32 : decode cX12_foretell 32 = .ok (.iload_n 3, 1) := by decide +kernel
theorem dX12_foretell_33 : decode cX12_foretell 33 = .ok (.invokevirtual 166, 3) := by decide +kernel
theorem dX12_foretell_36 : decode cX12_foretell 36 = .ok (.ifCond .ne 5, 3) := by decide +kernel
theorem dX12_foretell_39 : decode cX12_foretell 39 = .ok (.iconst (-1), 1) := by decide +kernel
theorem dX12_foretell_40 : decode cX12_foretell 40 = .ok (.ireturn, 1) := by decide +kernel
theorem dX12_foretell_41 : decode cX12_foretell 41 = .ok (.iconst 0, 1) := by decide +kernel
theorem dX12_foretell_42 : decode cX12_foretell 42 = .ok (.istore 4, 2) := by decide +kernel
theorem dX12_foretell_44 : decode cX12_foretell 44 = .ok (.iconst 0, 1) := by decide +kernel
theorem dX12_foretell_45 : decode cX12_foretell 45 = .ok (.istore 5, 2) := by decide +kernel
theorem dX12_foretell_47 : decode cX12_foretell 47 = .ok (.iconst 0, 1) := by decide +kernel
theorem dX12_foretell_48 : decode cX12_foretell 48 = .ok (.istore 6, 2) := by decide +kernel
theorem dX12_foretell_5 : decode cX12_foretell 5 = .ok (.iload_n 1, 1) := by decide +kernel
theorem dX12_foretell_50 : decode cX12_foretell 50 = .ok (.iconst 0, 1) := by decide +kernel
theorem dX12_foretell_51 : decode cX12_foretell 51 = .ok (.istore 7, 2) := by decide +kernel
theorem dX12_foretell_53 : decode cX12_foretell 53 = .ok (.iload 7, 2) := by decide +kernel
theorem dX12_foretell_55 : decode cX12_foretell 55 = .ok (.aload_n 0, 1) := by decide +kernel
theorem dX12_foretell_56 : decode cX12_foretell 56 = .ok (.getfield 194, 3) := by decide +kernel
theorem dX12_foretell_59 : decode cX12_foretell 59 = .ok (.if_icmp .ge 159, 3) := by decide +kernel
theorem dX12_foretell_6 : decode cX12_foretell 6 = .ok (.i2l, 1) := by decide +kernel
theorem dX12_foretell_62 : decode cX12_foretell 62 = .ok (.aload_n 0, 1) := by decide +kernel
theorem dX12_foretell_63 : decode cX12_foretell 63 = .ok (.getfield 34, 3) := by decide +kernel
theorem dX12_foretell_66 : decode cX12_foretell 66 = .ok (.iload 7, 2) := by decide +kernel
theorem dX12_foretell_68 : decode cX12_foretell 68 = .ok (.iaload, 1) := by decide +kernel
theorem dX12_foretell_69 : decode cX12_foretell 69 = .ok (.ifCond .lt 143, 3) := by decide +kernel
theorem dX12_foretell_7 : decode cX12_foretell 7 = .ok (.lconst 0, 1) := by decide +kernel
theorem dX12_foretell_72 : decode cX12_foretell 72 = .ok (.aload_n 0, 1) := by decide +kernel
theorem dX12_foretell_73 : decode cX12_foretell 73 = .ok (.getfield 22, 3) := by decide +kernel
theorem dX12_foretell_76 : decode cX12_foretell 76 = .ok (.iload 7, 2) := by decide +kernel
theorem dX12_foretell_78 : decode cX12_foretell 78 = .ok (.iaload, 1) := by decide +kernel
theorem dX12_foretell_79 : decode cX12_foretell 79 = .ok (.iload_n 1, 1) := by decide +kernel
theorem dX12_foretell_8 : decode cX12_foretell 8 = .ok (.ldc2_w 197, 3) := by decide +kernel
theorem dX12_foretell_80 : decode cX12_foretell 80 = .ok (.if_icmp .ne 132, 3) := by decide +kernel
theorem dX12_foretell_83 : decode cX12_foretell 83 = .ok (.iload_n 2, 1) := by decide +kernel
theorem dX12_foretell_84 : decode cX12_foretell 84 = .ok (.iconst (-1), 1) := by decide +kernel
theorem dX12_foretell_85 : decode cX12_foretell 85 = .ok (.if_icmp .eq 17, 3) := by decide +kernel
theorem dX12_foretell_88 : decode cX12_foretell 88 = .ok (.aload_n 0, 1) := by decide +kernel
theorem dX12_foretell_89 : decode cX12_foretell 89 = .ok (.getfield 25, 3) := by decide +kernel
theorem dX12_foretell_92 : decode cX12_foretell 92 = .ok (.iload 7, 2) := by decide +kernel
theorem dX12_foretell_94 : decode cX12_foretell 94 = .ok (.iaload, 1) := by decide +kernel
theorem dX12_foretell_95 : decode cX12_foretell 95 = .ok (.iload_n 2, 1) := by decide +kernel
theorem dX12_foretell_96 : decode cX12_foretell 96 = .ok (.if_icmp .eq 6, 3) := by decide +kernel
theorem dX12_foretell_99 : decode cX12_foretell 99 = .ok (.goto 113, 3) := by decide +kernel
theorem dX12_found_0 : decode cX12_found 0 = .ok (.iconst 0, 1) := by decide +kernel
theorem dX12_found_1 : decode cX12_found 1 = .ok (.istore_n 2, 1) := by decide +kernel
theorem dX12_found_12 : decode cX12_found 12 = .ok (.iload_n 2, 1) := by decide +kernel
theorem dX12_found_13 : decode cX12_found 13 = .ok (.aload_n 0, 1) := by decide +kernel
theorem dX12_found_14 : decode cX12_found 14 = .ok (.getfield 40, 3) := by decide +kernel
theorem dX12_found_17 : decode cX12_found 17 = .ok (.bipush 24, 2) := by decide +kernel
theorem dX12_found_19 : decode cX12_found 19 = .ok (.iload_n 3, 1) := by decide +kernel
theorem dX12_found_2 : decode cX12_found 2 = .ok (.iconst 0, 1) := by decide +kernel
theorem dX12_found_20 : decode cX12_found 20 = .ok (.imul, 1) := by decide +kernel
theorem dX12_found_21 : decode cX12_found 21 = .ok (.iload_n 1, 1) := by decide +kernel
theorem dX12_found_22 : decode cX12_found 22 = .ok (.iadd, 1) := by decide +kernel
theorem dX12_found_23 : decode cX12_found 23 = .ok (.iaload, 1) := by decide +kernel
theorem dX12_found_24 : decode cX12_found 24 = .ok (.iadd, 1) := by decide +kernel
theorem dX12_found_25 : decode cX12_found 25 = .ok (.istore_n 2, 1) := by decide +kernel
theorem dX12_found_26 : decode cX12_found 26 = .ok (.iinc 3 1, 3) := by decide +kernel
theorem dX12_found_29 : decode cX12_found 29 = .ok (.goto (-25), 3) := by decide +kernel
theorem dX12_found_3 : decode cX12_found 3 = .ok (.istore_n 3, 1) := by decide +kernel
theorem dX12_found_32 : decode cX12_found 32 = .ok (.iload_n 2, 1) := by decide +kernel
theorem dX12_found_33 : decode cX12_found 33 = .ok (.ireturn, 1) := by decide +kernel
theorem dX12_found_4 : decode cX12_found 4 = .ok (.iload_n 3, 1) := by decide +kernel
theorem dX12_found_5 : decode cX12_found 5 = .ok (.aload_n 0, 1) := by decide +kernel
theorem dX12_found_6 : decode cX12_found 6 = .ok (.getfield 153, 3) := by decide +kernel
theorem dX12_found_9 : decode cX12_found 9 = .ok (.if_icmp .ge 23, 3) := by decide +kernel
theorem dX12_given_0 : decode cX12_given 0 = .ok (.aload_n 0, 1) := by decide +kernel
theorem dX12_given_1 : decode cX12_given 1 = .ok (.getfield 123, 3) := by decide +kernel
theorem dX12_given_12 : decode cX12_given 12 = .ok (.iload_n 2, 1) := by decide +kernel
theorem dX12_given_13 : decode cX12_given 13 = .ok (.iaload, 1) := by decide +kernel
theorem dX12_given_14 : decode cX12_given 14 = .ok (.iadd, 1) := by decide +kernel
theorem dX12_given_15 : decode cX12_given 15 = .ok (.iaload, 1) := by decide +kernel
theorem dX12_given_16 : decode cX12_given 16 = .ok (.istore_n 3, 1) := by decide +kernel
theorem dX12_given_17 : decode cX12_given 17 = .ok (.aload_n 0, 1) := by decide +kernel
theorem dX12_given_18 : decode cX12_given 18 = .ok (.getfield 123, 3) := by decide +kernel
theorem dX12_given_21 : decode cX12_given 21 = .ok (.bipush 16, 2) := by decide +kernel
theorem dX12_given_23 : decode cX12_given 23 = .ok (.iload_n 1, 1) := by decide +kernel
theorem dX12_given_24 : decode cX12_given 24 = .ok (.imul, 1) := by decide +kernel
theorem dX12_given_25 : decode cX12_given 25 = .ok (.aload_n 0, 1) := by decide +kernel
theorem dX12_given_26 : decode cX12_given 26 = .ok (.getfield 135, 3) := by decide +kernel
theorem dX12_given_29 : decode cX12_given 29 = .ok (.iload_n 2, 1) := by decide +kernel
theorem dX12_given_30 : decode cX12_given 30 = .ok (.iaload, 1) := by decide +kernel
theorem dX12_given_31 : decode cX12_given 31 = .ok (.iadd, 1) := by decide +kernel
theorem dX12_given_32 : decode cX12_given 32 = .ok (.iaload, 1) := by decide +kernel
theorem dX12_given_33 : decode cX12_given 33 = .ok (.istore 4, 2) := by decide +kernel
theorem dX12_given_35 : decode cX12_given 35 = .ok (.iload_n 3, 1) := by decide +kernel
theorem dX12_given_36 : decode cX12_given 36 = .ok (.ifCond .lt 8, 3) := by decide +kernel
theorem dX12_given_39 : decode cX12_given 39 = .ok (.iload 4, 2) := by decide +kernel
theorem dX12_given_4 : decode cX12_given 4 = .ok (.bipush 16, 2) := by decide +kernel
theorem dX12_given_41 : decode cX12_given 41 = .ok (.ifCond .ge 8, 3) := by decide +kernel
theorem dX12_given_44 : decode cX12_given 44 = .ok (.bipush (-2), 2) := by decide +kernel
theorem dX12_given_46 : decode cX12_given 46 = .ok (.goto 21, 3) := by decide +kernel
theorem dX12_given_49 : decode cX12_given 49 = .ok (.iload_n 3, 1) := by decide +kernel
theorem dX12_given_50 : decode cX12_given 50 = .ok (.aload_n 0, 1) := by decide +kernel
theorem dX12_given_51 : decode cX12_given 51 = .ok (.getfield 132, 3) := by decide +kernel
theorem dX12_given_54 : decode cX12_given 54 = .ok (.iload_n 2, 1) := by decide +kernel
theorem dX12_given_55 : decode cX12_given 55 = .ok (.iaload, 1) := by decide +kernel
theorem dX12_given_56 : decode cX12_given 56 = .ok (.imul, 1) := by decide +kernel
theorem dX12_given_57 : decode cX12_given 57 = .ok (.iload 4, 2) := by decide +kernel
theorem dX12_given_59 : decode cX12_given 59 = .ok (.aload_n 0, 1) := by decide +kernel
theorem dX12_given_6 : decode cX12_given 6 = .ok (.iload_n 1, 1) := by decide +kernel
theorem dX12_given_60 : decode cX12_given 60 = .ok (.getfield 138, 3) := by decide +kernel
theorem dX12_given_63 : decode cX12_given 63 = .ok (.iload_n 2, 1) := by decide +kernel
theorem dX12_given_64 : decode cX12_given 64 = .ok (.iaload, 1) := by decide +kernel
theorem dX12_given_65 : decode cX12_given 65 = .ok (.imul, 1) := by decide +kernel
theorem dX12_given_66 : decode cX12_given 66 = .ok (.iadd, 1) := by decide +kernel
theorem dX12_given_67 : decode cX12_given 67 = .ok (.ireturn, 1) := by decide +kernel
theorem dX12_given_7 : decode cX12_given 7 = .ok (.imul, 1) := by decide +kernel
theorem dX12_given_8 : decode cX12_given 8 = .ok (.aload_n 0, 1) := by decide +kernel
theorem dX12_given_9 : decode cX12_given 9 = .ok (.getfield 129, 3) := by decide +kernel
theorem dX12_gives_0 : decode cX12_gives 0 = .ok (.aload_n 0, 1) := by decide +kernel
theorem dX12_gives_1 : decode cX12_gives 1 = .ok (.iconst 0, 1) := by decide +kernel
theorem dX12_gives_12 : decode cX12_gives 12 = .ok (.iload_n 2, 1) := by decide +kernel
theorem dX12_gives_13 : decode cX12_gives 13 = .ok (.i2l, 1) := by decide +kernel
theorem dX12_gives_14 : decode cX12_gives 14 = .ok (.lconst 0, 1) := by decide +kernel
theorem dX12_gives_15 : decode cX12_gives 15 = .ok (.aload_n 0, 1) := by decide +kernel
theorem dX12_gives_16 : decode cX12_gives 16 = .ok (.getfield 420, 3) := by decide +kernel
theorem dX12_gives_19 : decode cX12_gives 19 = .ok (.iconst 1, 1) := by decide +kernel
theorem dX12_gives_2 : decode cX12_gives 2 = .ok (.putfield 150, 3) := by decide +kernel
theorem dX12_gives_20 : decode cX12_gives 20 = .ok (.isub, 1) := by decide +kernel
theorem dX12_gives_21 : decode cX12_gives 21 = .ok (.i2l, 1) := by decide +kernel
theorem dX12_gives_22 : decode cX12_gives 22 = .ok (.invokestatic 156, 3) := by decide +kernel
theorem dX12_gives_25 : decode cX12_gives 25 = .ok (.ifCond .eq 12, 3) := by decide +kernel
theorem dX12_gives_28 : decode cX12_gives 28 = .ok (.aload_n 0, 1) := by decide +kernel
theorem dX12_gives_29 : decode cX12_gives 29 = .ok (.iload_n 1, 1) := by decide +kernel
theorem dX12_gives_30 : decode cX12_gives 30 = .ok (.iload_n 2, 1) := by decide +kernel
theorem dX12_gives_31 : decode cX12_gives 31 = .ok (.invokevirtual 423, 3) := by decide +kernel
theorem dX12_gives_34 : decode cX12_gives 34 = .ok (.goto 4, 3) := by decide +kernel
theorem dX12_gives_37 : decode cX12_gives 37 = .ok (.iconst (-1), 1) := by decide +kernel
theorem dX12_gives_38 : decode cX12_gives 38 = .ok (.ireturn, 1) := by decide +kernel
theorem dX12_gives_5 : decode cX12_gives 5 = .ok (.iload_n 1, 1) := by decide +kernel
theorem dX12_gives_6 : decode cX12_gives 6 = .ok (.invokestatic 415, 3) := by decide +kernel
theorem dX12_gives_9 : decode cX12_gives 9 = .ok (.ifCond .eq 28, 3) := by decide +kernel
theorem dX12_hadOf_0 : decode cX12_hadOf 0 = .ok (.iconst 0, 1) := by decide +kernel
theorem dX12_hadOf_1 : decode cX12_hadOf 1 = .ok (.istore_n 2, 1) := by decide +kernel
theorem dX12_hadOf_12 : decode cX12_hadOf 12 = .ok (.iload_n 2, 1) := by decide +kernel
theorem dX12_hadOf_13 : decode cX12_hadOf 13 = .ok (.aload_n 0, 1) := by decide +kernel
theorem dX12_hadOf_14 : decode cX12_hadOf 14 = .ok (.getfield 40, 3) := by decide +kernel
theorem dX12_hadOf_17 : decode cX12_hadOf 17 = .ok (.bipush 24, 2) := by decide +kernel
theorem dX12_hadOf_19 : decode cX12_hadOf 19 = .ok (.iload_n 1, 1) := by decide +kernel
theorem dX12_hadOf_2 : decode cX12_hadOf 2 = .ok (.iconst 0, 1) := by decide +kernel
theorem dX12_hadOf_20 : decode cX12_hadOf 20 = .ok (.imul, 1) := by decide +kernel
theorem dX12_hadOf_21 : decode cX12_hadOf 21 = .ok (.iload_n 3, 1) := by decide +kernel
theorem dX12_hadOf_22 : decode cX12_hadOf 22 = .ok (.iadd, 1) := by decide +kernel
theorem dX12_hadOf_23 : decode cX12_hadOf 23 = .ok (.iaload, 1) := by decide +kernel
theorem dX12_hadOf_24 : decode cX12_hadOf 24 = .ok (.iadd, 1) := by decide +kernel
theorem dX12_hadOf_25 : decode cX12_hadOf 25 = .ok (.istore_n 2, 1) := by decide +kernel
theorem dX12_hadOf_26 : decode cX12_hadOf 26 = .ok (.iinc 3 1, 3) := by decide +kernel
theorem dX12_hadOf_29 : decode cX12_hadOf 29 = .ok (.goto (-25), 3) := by decide +kernel
theorem dX12_hadOf_3 : decode cX12_hadOf 3 = .ok (.istore_n 3, 1) := by decide +kernel
theorem dX12_hadOf_32 : decode cX12_hadOf 32 = .ok (.iload_n 2, 1) := by decide +kernel
theorem dX12_hadOf_33 : decode cX12_hadOf 33 = .ok (.ireturn, 1) := by decide +kernel
theorem dX12_hadOf_4 : decode cX12_hadOf 4 = .ok (.iload_n 3, 1) := by decide +kernel
theorem dX12_hadOf_5 : decode cX12_hadOf 5 = .ok (.aload_n 0, 1) := by decide +kernel
theorem dX12_hadOf_6 : decode cX12_hadOf 6 = .ok (.getfield 194, 3) := by decide +kernel
theorem dX12_hadOf_9 : decode cX12_hadOf 9 = .ok (.if_icmp .ge 23, 3) := by decide +kernel
theorem dX12_hush_0 : decode cX12_hush 0 = .ok (.iconst 0, 1) := by decide +kernel
theorem dX12_hush_1 : decode cX12_hush 1 = .ok (.istore_n 1, 1) := by decide +kernel
theorem dX12_hush_11 : decode cX12_hush 11 = .ok (.aload_n 0, 1) := by decide +kernel
theorem dX12_hush_12 : decode cX12_hush 12 = .ok (.getfield 81, 3) := by decide +kernel
theorem dX12_hush_15 : decode cX12_hush 15 = .ok (.iload_n 1, 1) := by decide +kernel
theorem dX12_hush_16 : decode cX12_hush 16 = .ok (.iconst 0, 1) := by decide +kernel
theorem dX12_hush_17 : decode cX12_hush 17 = .ok (.iastore, 1) := by decide +kernel
theorem dX12_hush_18 : decode cX12_hush 18 = .ok (.iinc 1 1, 3) := by decide +kernel
theorem dX12_hush_2 : decode cX12_hush 2 = .ok (.iload_n 1, 1) := by decide +kernel
theorem dX12_hush_21 : decode cX12_hush 21 = .ok (.goto (-19), 3) := by decide +kernel
theorem dX12_hush_24 : decode cX12_hush 24 = .ok (.return_, 1) := by decide +kernel
theorem dX12_hush_3 : decode cX12_hush 3 = .ok (.aload_n 0, 1) := by decide +kernel
theorem dX12_hush_4 : decode cX12_hush 4 = .ok (.getfield 81, 3) := by decide +kernel
theorem dX12_hush_7 : decode cX12_hush 7 = .ok (.arraylength, 1) := by decide +kernel
theorem dX12_hush_8 : decode cX12_hush 8 = .ok (.if_icmp .ge 16, 3) := by decide +kernel
theorem dX12_in_0 : decode cX12_in 0 = .ok (.lload_n 0, 1) := by decide +kernel
theorem dX12_in_1 : decode cX12_in 1 = .ok (.lload_n 2, 1) := by decide +kernel
theorem dX12_in_10 : decode cX12_in 10 = .ok (.ifCond .gt 7, 3) := by decide +kernel
theorem dX12_in_13 : decode cX12_in 13 = .ok (.iconst 1, 1) := by decide +kernel
theorem dX12_in_14 : decode cX12_in 14 = .ok (.goto 4, 3) := by decide +kernel
theorem dX12_in_17 : decode cX12_in 17 = .ok (.iconst 0, 1) := by decide +kernel
theorem dX12_in_18 : decode cX12_in 18 = .ok (.ireturn, 1) := by decide +kernel
theorem dX12_in_2 : decode cX12_in 2 = .ok (.lcmp, 1) := by decide +kernel
theorem dX12_in_3 : decode cX12_in 3 = .ok (.ifCond .lt 14, 3) := by decide +kernel
theorem dX12_in_6 : decode cX12_in 6 = .ok (.lload_n 0, 1) := by decide +kernel
theorem dX12_in_7 : decode cX12_in 7 = .ok (.lload 4, 2) := by decide +kernel
theorem dX12_in_9 : decode cX12_in 9 = .ok (.lcmp, 1) := by decide +kernel
theorem dX12_init_0 : decode cX12_init 0 = .ok (.aload_n 0, 1) := by decide +kernel
theorem dX12_init_1 : decode cX12_init 1 = .ok (.invokespecial 3, 3) := by decide +kernel
theorem dX12_init_102 : decode cX12_init 102 = .ok (.aload_n 0, 1) := by decide +kernel
theorem dX12_init_103 : decode cX12_init 103 = .ok (.bipush 24, 2) := by decide +kernel
theorem dX12_init_105 : decode cX12_init 105 = .ok (.newarray .int, 2) := by decide +kernel
theorem dX12_init_107 : decode cX12_init 107 = .ok (.putfield 46, 3) := by decide +kernel
theorem dX12_init_110 : decode cX12_init 110 = .ok (.aload_n 0, 1) := by decide +kernel
theorem dX12_init_111 : decode cX12_init 111 = .ok (.bipush 60, 2) := by decide +kernel
theorem dX12_init_113 : decode cX12_init 113 = .ok (.newarray .int, 2) := by decide +kernel
theorem dX12_init_115 : decode cX12_init 115 = .ok (.putfield 49, 3) := by decide +kernel
theorem dX12_init_118 : decode cX12_init 118 = .ok (.aload_n 0, 1) := by decide +kernel
theorem dX12_init_119 : decode cX12_init 119 = .ok (.bipush 60, 2) := by decide +kernel
theorem dX12_init_12 : decode cX12_init 12 = .ok (.aload_n 0, 1) := by decide +kernel
theorem dX12_init_121 : decode cX12_init 121 = .ok (.newarray .int, 2) := by decide +kernel
theorem dX12_init_123 : decode cX12_init 123 = .ok (.putfield 52, 3) := by decide +kernel
theorem dX12_init_126 : decode cX12_init 126 = .ok (.aload_n 0, 1) := by decide +kernel
theorem dX12_init_127 : decode cX12_init 127 = .ok (.bipush 60, 2) := by decide +kernel
theorem dX12_init_129 : decode cX12_init 129 = .ok (.newarray .int, 2) := by decide +kernel
theorem dX12_init_13 : decode cX12_init 13 = .ok (.bipush 60, 2) := by decide +kernel
theorem dX12_init_131 : decode cX12_init 131 = .ok (.putfield 55, 3) := by decide +kernel
theorem dX12_init_134 : decode cX12_init 134 = .ok (.aload_n 0, 1) := by decide +kernel
theorem dX12_init_135 : decode cX12_init 135 = .ok (.bipush 60, 2) := by decide +kernel
theorem dX12_init_137 : decode cX12_init 137 = .ok (.newarray .int, 2) := by decide +kernel
theorem dX12_init_139 : decode cX12_init 139 = .ok (.putfield 58, 3) := by decide +kernel
theorem dX12_init_142 : decode cX12_init 142 = .ok (.aload_n 0, 1) := by decide +kernel
theorem dX12_init_143 : decode cX12_init 143 = .ok (.bipush 60, 2) := by decide +kernel
theorem dX12_init_145 : decode cX12_init 145 = .ok (.newarray .int, 2) := by decide +kernel
theorem dX12_init_147 : decode cX12_init 147 = .ok (.putfield 61, 3) := by decide +kernel
theorem dX12_init_15 : decode cX12_init 15 = .ok (.newarray .int, 2) := by decide +kernel
theorem dX12_init_150 : decode cX12_init 150 = .ok (.aload_n 0, 1) := by decide +kernel
theorem dX12_init_151 : decode cX12_init 151 = .ok (.bipush 99, 2) := by decide +kernel
theorem dX12_init_153 : decode cX12_init 153 = .ok (.putfield 64, 3) := by decide +kernel
theorem dX12_init_156 : decode cX12_init 156 = .ok (.aload_n 0, 1) := by decide +kernel
theorem dX12_init_157 : decode cX12_init 157 = .ok (.bipush 12, 2) := by decide +kernel
theorem dX12_init_159 : decode cX12_init 159 = .ok (.newarray .boolean, 2) := by decide +kernel
theorem dX12_init_161 : decode cX12_init 161 = .ok (.putfield 68, 3) := by decide +kernel
theorem dX12_init_164 : decode cX12_init 164 = .ok (.aload_n 0, 1) := by decide +kernel
theorem dX12_init_165 : decode cX12_init 165 = .ok (.sipush 768, 3) := by decide +kernel
theorem dX12_init_168 : decode cX12_init 168 = .ok (.newarray .int, 2) := by decide +kernel
theorem dX12_init_17 : decode cX12_init 17 = .ok (.putfield 13, 3) := by decide +kernel
theorem dX12_init_170 : decode cX12_init 170 = .ok (.putfield 72, 3) := by decide +kernel
theorem dX12_init_173 : decode cX12_init 173 = .ok (.aload_n 0, 1) := by decide +kernel
theorem dX12_init_174 : decode cX12_init 174 = .ok (.bipush 12, 2) := by decide +kernel
theorem dX12_init_176 : decode cX12_init 176 = .ok (.newarray .int, 2) := by decide +kernel
theorem dX12_init_178 : decode cX12_init 178 = .ok (.putfield 75, 3) := by decide +kernel
theorem dX12_init_181 : decode cX12_init 181 = .ok (.aload_n 0, 1) := by decide +kernel
theorem dX12_init_182 : decode cX12_init 182 = .ok (.bipush 64, 2) := by decide +kernel
theorem dX12_init_184 : decode cX12_init 184 = .ok (.newarray .int, 2) := by decide +kernel
theorem dX12_init_186 : decode cX12_init 186 = .ok (.putfield 78, 3) := by decide +kernel
theorem dX12_init_189 : decode cX12_init 189 = .ok (.aload_n 0, 1) := by decide +kernel
theorem dX12_init_190 : decode cX12_init 190 = .ok (.bipush 16, 2) := by decide +kernel
theorem dX12_init_192 : decode cX12_init 192 = .ok (.newarray .int, 2) := by decide +kernel
theorem dX12_init_194 : decode cX12_init 194 = .ok (.putfield 81, 3) := by decide +kernel
theorem dX12_init_197 : decode cX12_init 197 = .ok (.aload_n 0, 1) := by decide +kernel
theorem dX12_init_198 : decode cX12_init 198 = .ok (.bipush 100, 2) := by decide +kernel
theorem dX12_init_20 : decode cX12_init 20 = .ok (.aload_n 0, 1) := by decide +kernel
theorem dX12_init_200 : decode cX12_init 200 = .ok (.newarray .int, 2) := by decide +kernel
theorem dX12_init_202 : decode cX12_init 202 = .ok (.putfield 84, 3) := by decide +kernel
theorem dX12_init_205 : decode cX12_init 205 = .ok (.aload_n 0, 1) := by decide +kernel
theorem dX12_init_206 : decode cX12_init 206 = .ok (.bipush 16, 2) := by decide +kernel
theorem dX12_init_208 : decode cX12_init 208 = .ok (.newarray .int, 2) := by decide +kernel
theorem dX12_init_21 : decode cX12_init 21 = .ok (.bipush 60, 2) := by decide +kernel
theorem dX12_init_210 : decode cX12_init 210 = .ok (.putfield 87, 3) := by decide +kernel
theorem dX12_init_213 : decode cX12_init 213 = .ok (.aload_n 0, 1) := by decide +kernel
theorem dX12_init_214 : decode cX12_init 214 = .ok (.sipush 480, 3) := by decide +kernel
theorem dX12_init_217 : decode cX12_init 217 = .ok (.newarray .int, 2) := by decide +kernel
theorem dX12_init_219 : decode cX12_init 219 = .ok (.putfield 90, 3) := by decide +kernel
theorem dX12_init_222 : decode cX12_init 222 = .ok (.aload_n 0, 1) := by decide +kernel
theorem dX12_init_223 : decode cX12_init 223 = .ok (.bipush 20, 2) := by decide +kernel
theorem dX12_init_225 : decode cX12_init 225 = .ok (.newarray .int, 2) := by decide +kernel
theorem dX12_init_227 : decode cX12_init 227 = .ok (.putfield 93, 3) := by decide +kernel
theorem dX12_init_23 : decode cX12_init 23 = .ok (.newarray .int, 2) := by decide +kernel
theorem dX12_init_230 : decode cX12_init 230 = .ok (.aload_n 0, 1) := by decide +kernel
theorem dX12_init_231 : decode cX12_init 231 = .ok (.bipush 16, 2) := by decide +kernel
theorem dX12_init_233 : decode cX12_init 233 = .ok (.newarray .int, 2) := by decide +kernel
theorem dX12_init_235 : decode cX12_init 235 = .ok (.putfield 96, 3) := by decide +kernel
theorem dX12_init_238 : decode cX12_init 238 = .ok (.aload_n 0, 1) := by decide +kernel
theorem dX12_init_239 : decode cX12_init 239 = .ok (.bipush 16, 2) := by decide +kernel
theorem dX12_init_241 : decode cX12_init 241 = .ok (.newarray .int, 2) := by decide +kernel
theorem dX12_init_243 : decode cX12_init 243 = .ok (.putfield 99, 3) := by decide +kernel
theorem dX12_init_246 : decode cX12_init 246 = .ok (.aload_n 0, 1) := by decide +kernel
theorem dX12_init_247 : decode cX12_init 247 = .ok (.bipush 48, 2) := by decide +kernel
theorem dX12_init_249 : decode cX12_init 249 = .ok (.newarray .int, 2) := by decide +kernel
theorem dX12_init_25 : decode cX12_init 25 = .ok (.putfield 16, 3) := by decide +kernel
theorem dX12_init_251 : decode cX12_init 251 = .ok (.putfield 102, 3) := by decide +kernel
theorem dX12_init_254 : decode cX12_init 254 = .ok (.aload_n 0, 1) := by decide +kernel
theorem dX12_init_255 : decode cX12_init 255 = .ok (.iconst 4, 1) := by decide +kernel
theorem dX12_init_256 : decode cX12_init 256 = .ok (.newarray .int, 2) := by decide +kernel
theorem dX12_init_258 : decode cX12_init 258 = .ok (.putfield 105, 3) := by decide +kernel
theorem dX12_init_261 : decode cX12_init 261 = .ok (.aload_n 0, 1) := by decide +kernel
theorem dX12_init_262 : decode cX12_init 262 = .ok (.bipush 99, 2) := by decide +kernel
theorem dX12_init_264 : decode cX12_init 264 = .ok (.newarray .int, 2) := by decide +kernel
theorem dX12_init_266 : decode cX12_init 266 = .ok (.putfield 108, 3) := by decide +kernel
theorem dX12_init_269 : decode cX12_init 269 = .ok (.aload_n 0, 1) := by decide +kernel
theorem dX12_init_270 : decode cX12_init 270 = .ok (.bipush 99, 2) := by decide +kernel
theorem dX12_init_272 : decode cX12_init 272 = .ok (.newarray .int, 2) := by decide +kernel
theorem dX12_init_274 : decode cX12_init 274 = .ok (.putfield 111, 3) := by decide +kernel
theorem dX12_init_277 : decode cX12_init 277 = .ok (.aload_n 0, 1) := by decide +kernel
theorem dX12_init_278 : decode cX12_init 278 = .ok (.bipush 99, 2) := by decide +kernel
theorem dX12_init_28 : decode cX12_init 28 = .ok (.aload_n 0, 1) := by decide +kernel
theorem dX12_init_280 : decode cX12_init 280 = .ok (.newarray .int, 2) := by decide +kernel
theorem dX12_init_282 : decode cX12_init 282 = .ok (.putfield 114, 3) := by decide +kernel
theorem dX12_init_285 : decode cX12_init 285 = .ok (.aload_n 0, 1) := by decide +kernel
theorem dX12_init_286 : decode cX12_init 286 = .ok (.bipush 99, 2) := by decide +kernel
theorem dX12_init_288 : decode cX12_init 288 = .ok (.newarray .int, 2) := by decide +kernel
theorem dX12_init_29 : decode cX12_init 29 = .ok (.bipush 60, 2) := by decide +kernel
theorem dX12_init_290 : decode cX12_init 290 = .ok (.putfield 117, 3) := by decide +kernel
theorem dX12_init_293 : decode cX12_init 293 = .ok (.aload_n 0, 1) := by decide +kernel
theorem dX12_init_294 : decode cX12_init 294 = .ok (.bipush 6, 2) := by decide +kernel
theorem dX12_init_296 : decode cX12_init 296 = .ok (.newarray .boolean, 2) := by decide +kernel
theorem dX12_init_298 : decode cX12_init 298 = .ok (.putfield 120, 3) := by decide +kernel
theorem dX12_init_301 : decode cX12_init 301 = .ok (.aload_n 0, 1) := by decide +kernel
theorem dX12_init_302 : decode cX12_init 302 = .ok (.bipush 64, 2) := by decide +kernel
theorem dX12_init_304 : decode cX12_init 304 = .ok (.newarray .int, 2) := by decide +kernel
theorem dX12_init_306 : decode cX12_init 306 = .ok (.putfield 123, 3) := by decide +kernel
theorem dX12_init_309 : decode cX12_init 309 = .ok (.aload_n 0, 1) := by decide +kernel
theorem dX12_init_31 : decode cX12_init 31 = .ok (.newarray .int, 2) := by decide +kernel
theorem dX12_init_310 : decode cX12_init 310 = .ok (.iconst 4, 1) := by decide +kernel
theorem dX12_init_311 : decode cX12_init 311 = .ok (.newarray .int, 2) := by decide +kernel
theorem dX12_init_313 : decode cX12_init 313 = .ok (.putfield 126, 3) := by decide +kernel
theorem dX12_init_316 : decode cX12_init 316 = .ok (.aload_n 0, 1) := by decide +kernel
theorem dX12_init_317 : decode cX12_init 317 = .ok (.bipush 8, 2) := by decide +kernel
theorem dX12_init_319 : decode cX12_init 319 = .ok (.newarray .int, 2) := by decide +kernel
theorem dX12_init_321 : decode cX12_init 321 = .ok (.putfield 129, 3) := by decide +kernel
theorem dX12_init_324 : decode cX12_init 324 = .ok (.aload_n 0, 1) := by decide +kernel
theorem dX12_init_325 : decode cX12_init 325 = .ok (.bipush 8, 2) := by decide +kernel
theorem dX12_init_327 : decode cX12_init 327 = .ok (.newarray .int, 2) := by decide +kernel
theorem dX12_init_329 : decode cX12_init 329 = .ok (.putfield 132, 3) := by decide +kernel
theorem dX12_init_33 : decode cX12_init 33 = .ok (.putfield 19, 3) := by decide +kernel
theorem dX12_init_332 : decode cX12_init 332 = .ok (.aload_n 0, 1) := by decide +kernel
theorem dX12_init_333 : decode cX12_init 333 = .ok (.bipush 8, 2) := by decide +kernel
theorem dX12_init_335 : decode cX12_init 335 = .ok (.newarray .int, 2) := by decide +kernel
theorem dX12_init_337 : decode cX12_init 337 = .ok (.putfield 135, 3) := by decide +kernel
theorem dX12_init_340 : decode cX12_init 340 = .ok (.aload_n 0, 1) := by decide +kernel
theorem dX12_init_341 : decode cX12_init 341 = .ok (.bipush 8, 2) := by decide +kernel
theorem dX12_init_343 : decode cX12_init 343 = .ok (.newarray .int, 2) := by decide +kernel
theorem dX12_init_345 : decode cX12_init 345 = .ok (.putfield 138, 3) := by decide +kernel
theorem dX12_init_348 : decode cX12_init 348 = .ok (.aload_n 0, 1) := by decide +kernel
theorem dX12_init_349 : decode cX12_init 349 = .ok (.bipush 8, 2) := by decide +kernel
theorem dX12_init_351 : decode cX12_init 351 = .ok (.newarray .int, 2) := by decide +kernel
theorem dX12_init_353 : decode cX12_init 353 = .ok (.putfield 141, 3) := by decide +kernel
theorem dX12_init_356 : decode cX12_init 356 = .ok (.aload_n 0, 1) := by decide +kernel
theorem dX12_init_357 : decode cX12_init 357 = .ok (.bipush 8, 2) := by decide +kernel
theorem dX12_init_359 : decode cX12_init 359 = .ok (.newarray .int, 2) := by decide +kernel
theorem dX12_init_36 : decode cX12_init 36 = .ok (.aload_n 0, 1) := by decide +kernel
theorem dX12_init_361 : decode cX12_init 361 = .ok (.putfield 144, 3) := by decide +kernel
theorem dX12_init_364 : decode cX12_init 364 = .ok (.aload_n 0, 1) := by decide +kernel
theorem dX12_init_365 : decode cX12_init 365 = .ok (.iconst 4, 1) := by decide +kernel
theorem dX12_init_366 : decode cX12_init 366 = .ok (.newarray .int, 2) := by decide +kernel
theorem dX12_init_368 : decode cX12_init 368 = .ok (.putfield 147, 3) := by decide +kernel
theorem dX12_init_37 : decode cX12_init 37 = .ok (.bipush 24, 2) := by decide +kernel
theorem dX12_init_371 : decode cX12_init 371 = .ok (.return_, 1) := by decide +kernel
theorem dX12_init_39 : decode cX12_init 39 = .ok (.newarray .int, 2) := by decide +kernel
theorem dX12_init_4 : decode cX12_init 4 = .ok (.aload_n 0, 1) := by decide +kernel
theorem dX12_init_41 : decode cX12_init 41 = .ok (.putfield 22, 3) := by decide +kernel
theorem dX12_init_44 : decode cX12_init 44 = .ok (.aload_n 0, 1) := by decide +kernel
theorem dX12_init_45 : decode cX12_init 45 = .ok (.bipush 24, 2) := by decide +kernel
theorem dX12_init_47 : decode cX12_init 47 = .ok (.newarray .int, 2) := by decide +kernel
theorem dX12_init_49 : decode cX12_init 49 = .ok (.putfield 25, 3) := by decide +kernel
theorem dX12_init_5 : decode cX12_init 5 = .ok (.bipush 112, 2) := by decide +kernel
theorem dX12_init_52 : decode cX12_init 52 = .ok (.aload_n 0, 1) := by decide +kernel
theorem dX12_init_53 : decode cX12_init 53 = .ok (.bipush 24, 2) := by decide +kernel
theorem dX12_init_55 : decode cX12_init 55 = .ok (.newarray .int, 2) := by decide +kernel
theorem dX12_init_57 : decode cX12_init 57 = .ok (.putfield 28, 3) := by decide +kernel
theorem dX12_init_60 : decode cX12_init 60 = .ok (.aload_n 0, 1) := by decide +kernel
theorem dX12_init_61 : decode cX12_init 61 = .ok (.bipush 24, 2) := by decide +kernel
theorem dX12_init_63 : decode cX12_init 63 = .ok (.newarray .int, 2) := by decide +kernel
theorem dX12_init_65 : decode cX12_init 65 = .ok (.putfield 31, 3) := by decide +kernel
theorem dX12_init_68 : decode cX12_init 68 = .ok (.aload_n 0, 1) := by decide +kernel
theorem dX12_init_69 : decode cX12_init 69 = .ok (.bipush 24, 2) := by decide +kernel
theorem dX12_init_7 : decode cX12_init 7 = .ok (.newarray .int, 2) := by decide +kernel
theorem dX12_init_71 : decode cX12_init 71 = .ok (.newarray .int, 2) := by decide +kernel
theorem dX12_init_73 : decode cX12_init 73 = .ok (.putfield 34, 3) := by decide +kernel
theorem dX12_init_76 : decode cX12_init 76 = .ok (.aload_n 0, 1) := by decide +kernel
theorem dX12_init_77 : decode cX12_init 77 = .ok (.bipush 24, 2) := by decide +kernel
theorem dX12_init_79 : decode cX12_init 79 = .ok (.newarray .int, 2) := by decide +kernel
theorem dX12_init_81 : decode cX12_init 81 = .ok (.putfield 37, 3) := by decide +kernel
theorem dX12_init_84 : decode cX12_init 84 = .ok (.aload_n 0, 1) := by decide +kernel
theorem dX12_init_85 : decode cX12_init 85 = .ok (.sipush 384, 3) := by decide +kernel
theorem dX12_init_88 : decode cX12_init 88 = .ok (.newarray .int, 2) := by decide +kernel
theorem dX12_init_9 : decode cX12_init 9 = .ok (.putfield 9, 3) := by decide +kernel
theorem dX12_init_90 : decode cX12_init 90 = .ok (.putfield 40, 3) := by decide +kernel
theorem dX12_init_93 : decode cX12_init 93 = .ok (.aload_n 0, 1) := by decide +kernel
theorem dX12_init_94 : decode cX12_init 94 = .ok (.sipush 384, 3) := by decide +kernel
theorem dX12_init_97 : decode cX12_init 97 = .ok (.newarray .int, 2) := by decide +kernel
theorem dX12_init_99 : decode cX12_init 99 = .ok (.putfield 43, 3) := by decide +kernel
theorem dX12_isBale_0 : decode cX12_isBale 0 = .ok (.iload_n 1, 1) := by decide +kernel
theorem dX12_isBale_1 : decode cX12_isBale 1 = .ok (.i2l, 1) := by decide +kernel
theorem dX12_isBale_10 : decode cX12_isBale 10 = .ok (.invokestatic 156, 3) := by decide +kernel
theorem dX12_isBale_13 : decode cX12_isBale 13 = .ok (.ireturn, 1) := by decide +kernel
theorem dX12_isBale_2 : decode cX12_isBale 2 = .ok (.lconst 0, 1) := by decide +kernel
theorem dX12_isBale_3 : decode cX12_isBale 3 = .ok (.aload_n 0, 1) := by decide +kernel
theorem dX12_isBale_4 : decode cX12_isBale 4 = .ok (.getfield 194, 3) := by decide +kernel
theorem dX12_isBale_7 : decode cX12_isBale 7 = .ok (.iconst 1, 1) := by decide +kernel
theorem dX12_isBale_8 : decode cX12_isBale 8 = .ok (.isub, 1) := by decide +kernel
theorem dX12_isBale_9 : decode cX12_isBale 9 = .ok (.i2l, 1) := by decide +kernel
theorem dX12_isClean_0 : decode cX12_isClean 0 = .ok (.iconst 1, 1) := by decide +kernel
theorem dX12_isClean_1 : decode cX12_isClean 1 = .ok (.istore_n 2, 1) := by decide +kernel
theorem dX12_isClean_12 : decode cX12_isClean 12 = .ok (.iload_n 2, 1) := by decide +kernel
theorem dX12_isClean_13 : decode cX12_isClean 13 = .ok (.ifCond .eq 30, 3) := by decide +kernel
theorem dX12_isClean_16 : decode cX12_isClean 16 = .ok (.aload_n 0, 1) := by decide +kernel
theorem dX12_isClean_17 : decode cX12_isClean 17 = .ok (.getfield 93, 3) := by decide +kernel
theorem dX12_isClean_2 : decode cX12_isClean 2 = .ok (.iconst 0, 1) := by decide +kernel
theorem dX12_isClean_20 : decode cX12_isClean 20 = .ok (.iload_n 3, 1) := by decide +kernel
theorem dX12_isClean_21 : decode cX12_isClean 21 = .ok (.iaload, 1) := by decide +kernel
theorem dX12_isClean_22 : decode cX12_isClean 22 = .ok (.ifCond .ne 17, 3) := by decide +kernel
theorem dX12_isClean_25 : decode cX12_isClean 25 = .ok (.aload_n 0, 1) := by decide +kernel
theorem dX12_isClean_26 : decode cX12_isClean 26 = .ok (.getfield 90, 3) := by decide +kernel
theorem dX12_isClean_29 : decode cX12_isClean 29 = .ok (.bipush 24, 2) := by decide +kernel
theorem dX12_isClean_3 : decode cX12_isClean 3 = .ok (.istore_n 3, 1) := by decide +kernel
theorem dX12_isClean_31 : decode cX12_isClean 31 = .ok (.iload_n 3, 1) := by decide +kernel
theorem dX12_isClean_32 : decode cX12_isClean 32 = .ok (.imul, 1) := by decide +kernel
theorem dX12_isClean_33 : decode cX12_isClean 33 = .ok (.iload_n 1, 1) := by decide +kernel
theorem dX12_isClean_34 : decode cX12_isClean 34 = .ok (.iadd, 1) := by decide +kernel
theorem dX12_isClean_35 : decode cX12_isClean 35 = .ok (.iaload, 1) := by decide +kernel
theorem dX12_isClean_36 : decode cX12_isClean 36 = .ok (.ifCond .ne 7, 3) := by decide +kernel
theorem dX12_isClean_39 : decode cX12_isClean 39 = .ok (.iconst 1, 1) := by decide +kernel
theorem dX12_isClean_4 : decode cX12_isClean 4 = .ok (.iload_n 3, 1) := by decide +kernel
theorem dX12_isClean_40 : decode cX12_isClean 40 = .ok (.goto 4, 3) := by decide +kernel
theorem dX12_isClean_43 : decode cX12_isClean 43 = .ok (.iconst 0, 1) := by decide +kernel
theorem dX12_isClean_44 : decode cX12_isClean 44 = .ok (.istore_n 2, 1) := by decide +kernel
theorem dX12_isClean_45 : decode cX12_isClean 45 = .ok (.iinc 3 1, 3) := by decide +kernel
theorem dX12_isClean_48 : decode cX12_isClean 48 = .ok (.goto (-44), 3) := by decide +kernel
theorem dX12_isClean_5 : decode cX12_isClean 5 = .ok (.aload_n 0, 1) := by decide +kernel
theorem dX12_isClean_51 : decode cX12_isClean 51 = .ok (.iload_n 2, 1) := by decide +kernel
theorem dX12_isClean_52 : decode cX12_isClean 52 = .ok (.ireturn, 1) := by decide +kernel
theorem dX12_isClean_6 : decode cX12_isClean 6 = .ok (.getfield 223, 3) := by decide +kernel
theorem dX12_isClean_9 : decode cX12_isClean 9 = .ok (.if_icmp .ge 42, 3) := by decide +kernel
theorem dX12_isCloth_0 : decode cX12_isCloth 0 = .ok (.iload_n 1, 1) := by decide +kernel
theorem dX12_isCloth_1 : decode cX12_isCloth 1 = .ok (.i2l, 1) := by decide +kernel
theorem dX12_isCloth_10 : decode cX12_isCloth 10 = .ok (.invokestatic 156, 3) := by decide +kernel
theorem dX12_isCloth_13 : decode cX12_isCloth 13 = .ok (.ireturn, 1) := by decide +kernel
theorem dX12_isCloth_2 : decode cX12_isCloth 2 = .ok (.lconst 0, 1) := by decide +kernel
theorem dX12_isCloth_3 : decode cX12_isCloth 3 = .ok (.aload_n 0, 1) := by decide +kernel
theorem dX12_isCloth_4 : decode cX12_isCloth 4 = .ok (.getfield 223, 3) := by decide +kernel
theorem dX12_isCloth_7 : decode cX12_isCloth 7 = .ok (.iconst 1, 1) := by decide +kernel
theorem dX12_isCloth_8 : decode cX12_isCloth 8 = .ok (.isub, 1) := by decide +kernel
theorem dX12_isCloth_9 : decode cX12_isCloth 9 = .ok (.i2l, 1) := by decide +kernel
theorem dX12_isDay_0 : decode cX12_isDay 0 = .ok (.iload_n 0, 1) := by decide +kernel
theorem dX12_isDay_1 : decode cX12_isDay 1 = .ok (.i2l, 1) := by decide +kernel
theorem dX12_isDay_2 : decode cX12_isDay 2 = .ok (.lconst 0, 1) := by decide +kernel
theorem dX12_isDay_3 : decode cX12_isDay 3 = .ok (.ldc2_w 160, 3) := by decide +kernel
theorem dX12_isDay_6 : decode cX12_isDay 6 = .ok (.invokestatic 156, 3) := by decide +kernel
theorem dX12_isDay_9 : decode cX12_isDay 9 = .ok (.ireturn, 1) := by decide +kernel
theorem dX12_isEnough_0 : decode cX12_isEnough 0 = .ok (.iconst 1, 1) := by decide +kernel
theorem dX12_isEnough_1 : decode cX12_isEnough 1 = .ok (.istore_n 2, 1) := by decide +kernel
theorem dX12_isEnough_12 : decode cX12_isEnough 12 = .ok (.iload_n 2, 1) := by decide +kernel
theorem dX12_isEnough_13 : decode cX12_isEnough 13 = .ok (.ifCond .eq 26, 3) := by decide +kernel
theorem dX12_isEnough_16 : decode cX12_isEnough 16 = .ok (.aload_n 0, 1) := by decide +kernel
theorem dX12_isEnough_17 : decode cX12_isEnough 17 = .ok (.iload_n 3, 1) := by decide +kernel
theorem dX12_isEnough_18 : decode cX12_isEnough 18 = .ok (.invokevirtual 340, 3) := by decide +kernel
theorem dX12_isEnough_2 : decode cX12_isEnough 2 = .ok (.iconst 0, 1) := by decide +kernel
theorem dX12_isEnough_21 : decode cX12_isEnough 21 = .ok (.aload_n 0, 1) := by decide +kernel
theorem dX12_isEnough_22 : decode cX12_isEnough 22 = .ok (.getfield 87, 3) := by decide +kernel
theorem dX12_isEnough_25 : decode cX12_isEnough 25 = .ok (.iload_n 3, 1) := by decide +kernel
theorem dX12_isEnough_26 : decode cX12_isEnough 26 = .ok (.iaload, 1) := by decide +kernel
theorem dX12_isEnough_27 : decode cX12_isEnough 27 = .ok (.iload_n 1, 1) := by decide +kernel
theorem dX12_isEnough_28 : decode cX12_isEnough 28 = .ok (.bipush 12, 2) := by decide +kernel
theorem dX12_isEnough_3 : decode cX12_isEnough 3 = .ok (.istore_n 3, 1) := by decide +kernel
theorem dX12_isEnough_30 : decode cX12_isEnough 30 = .ok (.idiv, 1) := by decide +kernel
theorem dX12_isEnough_31 : decode cX12_isEnough 31 = .ok (.imul, 1) := by decide +kernel
theorem dX12_isEnough_32 : decode cX12_isEnough 32 = .ok (.if_icmp .lt 7, 3) := by decide +kernel
theorem dX12_isEnough_35 : decode cX12_isEnough 35 = .ok (.iconst 1, 1) := by decide +kernel
theorem dX12_isEnough_36 : decode cX12_isEnough 36 = .ok (.goto 4, 3) := by decide +kernel
theorem dX12_isEnough_39 : decode cX12_isEnough 39 = .ok (.iconst 0, 1) := by decide +kernel
theorem dX12_isEnough_4 : decode cX12_isEnough 4 = .ok (.iload_n 3, 1) := by decide +kernel
theorem dX12_isEnough_40 : decode cX12_isEnough 40 = .ok (.istore_n 2, 1) := by decide +kernel
theorem dX12_isEnough_41 : decode cX12_isEnough 41 = .ok (.iinc 3 1, 3) := by decide +kernel
theorem dX12_isEnough_44 : decode cX12_isEnough 44 = .ok (.goto (-40), 3) := by decide +kernel
theorem dX12_isEnough_47 : decode cX12_isEnough 47 = .ok (.iload_n 2, 1) := by decide +kernel
theorem dX12_isEnough_48 : decode cX12_isEnough 48 = .ok (.ireturn, 1) := by decide +kernel
theorem dX12_isEnough_5 : decode cX12_isEnough 5 = .ok (.aload_n 0, 1) := by decide +kernel
theorem dX12_isEnough_6 : decode cX12_isEnough 6 = .ok (.getfield 153, 3) := by decide +kernel
theorem dX12_isEnough_9 : decode cX12_isEnough 9 = .ok (.if_icmp .ge 38, 3) := by decide +kernel
theorem dX12_isFound_0 : decode cX12_isFound 0 = .ok (.iload_n 2, 1) := by decide +kernel
theorem dX12_isFound_1 : decode cX12_isFound 1 = .ok (.ifCond .ne 9, 3) := by decide +kernel
theorem dX12_isFound_10 : decode cX12_isFound 10 = .ok (.iload_n 3, 1) := by decide +kernel
theorem dX12_isFound_11 : decode cX12_isFound 11 = .ok (.istore 4, 2) := by decide +kernel
theorem dX12_isFound_13 : decode cX12_isFound 13 = .ok (.iload 4, 2) := by decide +kernel
theorem dX12_isFound_15 : decode cX12_isFound 15 = .ok (.aload_n 0, 1) := by decide +kernel
theorem dX12_isFound_16 : decode cX12_isFound 16 = .ok (.getfield 194, 3) := by decide +kernel
theorem dX12_isFound_19 : decode cX12_isFound 19 = .ok (.if_icmp .ge 45, 3) := by decide +kernel
theorem dX12_isFound_22 : decode cX12_isFound 22 = .ok (.aload_n 0, 1) := by decide +kernel
theorem dX12_isFound_23 : decode cX12_isFound 23 = .ok (.getfield 105, 3) := by decide +kernel
theorem dX12_isFound_26 : decode cX12_isFound 26 = .ok (.iload_n 1, 1) := by decide +kernel
theorem dX12_isFound_27 : decode cX12_isFound 27 = .ok (.iload 4, 2) := by decide +kernel
theorem dX12_isFound_29 : decode cX12_isFound 29 = .ok (.iastore, 1) := by decide +kernel
theorem dX12_isFound_30 : decode cX12_isFound 30 = .ok (.aload_n 0, 1) := by decide +kernel
theorem dX12_isFound_31 : decode cX12_isFound 31 = .ok (.iload 4, 2) := by decide +kernel
theorem dX12_isFound_33 : decode cX12_isFound 33 = .ok (.invokevirtual 400, 3) := by decide +kernel
theorem dX12_isFound_36 : decode cX12_isFound 36 = .ok (.ifCond .eq 22, 3) := by decide +kernel
theorem dX12_isFound_39 : decode cX12_isFound 39 = .ok (.aload_n 0, 1) := by decide +kernel
theorem dX12_isFound_4 : decode cX12_isFound 4 = .ok (.aload_n 0, 1) := by decide +kernel
theorem dX12_isFound_40 : decode cX12_isFound 40 = .ok (.iload_n 1, 1) := by decide +kernel
theorem dX12_isFound_41 : decode cX12_isFound 41 = .ok (.iconst 1, 1) := by decide +kernel
theorem dX12_isFound_42 : decode cX12_isFound 42 = .ok (.iadd, 1) := by decide +kernel
theorem dX12_isFound_43 : decode cX12_isFound 43 = .ok (.iload_n 2, 1) := by decide +kernel
theorem dX12_isFound_44 : decode cX12_isFound 44 = .ok (.iconst 1, 1) := by decide +kernel
theorem dX12_isFound_45 : decode cX12_isFound 45 = .ok (.isub, 1) := by decide +kernel
theorem dX12_isFound_46 : decode cX12_isFound 46 = .ok (.iload 4, 2) := by decide +kernel
theorem dX12_isFound_48 : decode cX12_isFound 48 = .ok (.iconst 1, 1) := by decide +kernel
theorem dX12_isFound_49 : decode cX12_isFound 49 = .ok (.iadd, 1) := by decide +kernel
theorem dX12_isFound_5 : decode cX12_isFound 5 = .ok (.iload_n 1, 1) := by decide +kernel
theorem dX12_isFound_50 : decode cX12_isFound 50 = .ok (.invokevirtual 403, 3) := by decide +kernel
theorem dX12_isFound_53 : decode cX12_isFound 53 = .ok (.ifCond .eq 5, 3) := by decide +kernel
theorem dX12_isFound_56 : decode cX12_isFound 56 = .ok (.iconst 1, 1) := by decide +kernel
theorem dX12_isFound_57 : decode cX12_isFound 57 = .ok (.ireturn, 1) := by decide +kernel
theorem dX12_isFound_58 : decode cX12_isFound 58 = .ok (.iinc 4 1, 3) := by decide +kernel
theorem dX12_isFound_6 : decode cX12_isFound 6 = .ok (.invokevirtual 397, 3) := by decide +kernel
theorem dX12_isFound_61 : decode cX12_isFound 61 = .ok (.goto (-48), 3) := by decide +kernel
theorem dX12_isFound_64 : decode cX12_isFound 64 = .ok (.iconst 0, 1) := by decide +kernel
theorem dX12_isFound_65 : decode cX12_isFound 65 = .ok (.ireturn, 1) := by decide +kernel
theorem dX12_isFound_9 : decode cX12_isFound 9 = .ok (.ireturn, 1) := by decide +kernel
theorem dX12_isLand_0 : decode cX12_isLand 0 = .ok (.iload_n 0, 1) := by decide +kernel
theorem dX12_isLand_1 : decode cX12_isLand 1 = .ok (.i2l, 1) := by decide +kernel
theorem dX12_isLand_2 : decode cX12_isLand 2 = .ok (.lconst 0, 1) := by decide +kernel
theorem dX12_isLand_3 : decode cX12_isLand 3 = .ok (.ldc2_w 197, 3) := by decide +kernel
theorem dX12_isLand_6 : decode cX12_isLand 6 = .ok (.invokestatic 156, 3) := by decide +kernel
theorem dX12_isLand_9 : decode cX12_isLand 9 = .ok (.ireturn, 1) := by decide +kernel
theorem dX12_isOf_0 : decode cX12_isOf 0 = .ok (.aload_n 0, 1) := by decide +kernel
theorem dX12_isOf_1 : decode cX12_isOf 1 = .ok (.getfield 259, 3) := by decide +kernel
theorem dX12_isOf_12 : decode cX12_isOf 12 = .ok (.aload_n 0, 1) := by decide +kernel
theorem dX12_isOf_13 : decode cX12_isOf 13 = .ok (.getfield 259, 3) := by decide +kernel
theorem dX12_isOf_16 : decode cX12_isOf 16 = .ok (.iaload, 1) := by decide +kernel
theorem dX12_isOf_17 : decode cX12_isOf 17 = .ok (.ifCond .le 23, 3) := by decide +kernel
theorem dX12_isOf_20 : decode cX12_isOf 20 = .ok (.aload_n 2, 1) := by decide +kernel
theorem dX12_isOf_21 : decode cX12_isOf 21 = .ok (.aload_n 0, 1) := by decide +kernel
theorem dX12_isOf_22 : decode cX12_isOf 22 = .ok (.getfield 84, 3) := by decide +kernel
theorem dX12_isOf_25 : decode cX12_isOf 25 = .ok (.aload_n 0, 1) := by decide +kernel
theorem dX12_isOf_26 : decode cX12_isOf 26 = .ok (.getfield 259, 3) := by decide +kernel
theorem dX12_isOf_29 : decode cX12_isOf 29 = .ok (.iaload, 1) := by decide +kernel
theorem dX12_isOf_30 : decode cX12_isOf 30 = .ok (.invokevirtual 262, 3) := by decide +kernel
theorem dX12_isOf_33 : decode cX12_isOf 33 = .ok (.ifCond .lt 7, 3) := by decide +kernel
theorem dX12_isOf_36 : decode cX12_isOf 36 = .ok (.iconst 1, 1) := by decide +kernel
theorem dX12_isOf_37 : decode cX12_isOf 37 = .ok (.goto 4, 3) := by decide +kernel
theorem dX12_isOf_4 : decode cX12_isOf 4 = .ok (.iload_n 1, 1) := by decide +kernel
theorem dX12_isOf_40 : decode cX12_isOf 40 = .ok (.iconst 0, 1) := by decide +kernel
theorem dX12_isOf_41 : decode cX12_isOf 41 = .ok (.ireturn, 1) := by decide +kernel
theorem dX12_isOf_5 : decode cX12_isOf 5 = .ok (.if_icmp .ge 35, 3) := by decide +kernel
theorem dX12_isOf_8 : decode cX12_isOf 8 = .ok (.aload_n 0, 1) := by decide +kernel
theorem dX12_isOf_9 : decode cX12_isOf 9 = .ok (.getfield 84, 3) := by decide +kernel
theorem dX12_isRecipe_0 : decode cX12_isRecipe 0 = .ok (.iload_n 1, 1) := by decide +kernel
theorem dX12_isRecipe_1 : decode cX12_isRecipe 1 = .ok (.i2l, 1) := by decide +kernel
theorem dX12_isRecipe_10 : decode cX12_isRecipe 10 = .ok (.invokestatic 156, 3) := by decide +kernel
theorem dX12_isRecipe_13 : decode cX12_isRecipe 13 = .ok (.ireturn, 1) := by decide +kernel
theorem dX12_isRecipe_2 : decode cX12_isRecipe 2 = .ok (.lconst 0, 1) := by decide +kernel
theorem dX12_isRecipe_3 : decode cX12_isRecipe 3 = .ok (.aload_n 0, 1) := by decide +kernel
theorem dX12_isRecipe_4 : decode cX12_isRecipe 4 = .ok (.getfield 320, 3) := by decide +kernel
theorem dX12_isRecipe_7 : decode cX12_isRecipe 7 = .ok (.iconst 1, 1) := by decide +kernel
theorem dX12_isRecipe_8 : decode cX12_isRecipe 8 = .ok (.isub, 1) := by decide +kernel
theorem dX12_isRecipe_9 : decode cX12_isRecipe 9 = .ok (.i2l, 1) := by decide +kernel
theorem dX12_isSign_0 : decode cX12_isSign 0 = .ok (.aload_n 0, 1) := by decide +kernel
theorem dX12_isSign_1 : decode cX12_isSign 1 = .ok (.getfield 259, 3) := by decide +kernel
theorem dX12_isSign_12 : decode cX12_isSign 12 = .ok (.aload_n 0, 1) := by decide +kernel
theorem dX12_isSign_13 : decode cX12_isSign 13 = .ok (.getfield 259, 3) := by decide +kernel
theorem dX12_isSign_16 : decode cX12_isSign 16 = .ok (.iaload, 1) := by decide +kernel
theorem dX12_isSign_17 : decode cX12_isSign 17 = .ok (.iload_n 2, 1) := by decide +kernel
theorem dX12_isSign_18 : decode cX12_isSign 18 = .ok (.if_icmp .ne 7, 3) := by decide +kernel
theorem dX12_isSign_21 : decode cX12_isSign 21 = .ok (.iconst 1, 1) := by decide +kernel
theorem dX12_isSign_22 : decode cX12_isSign 22 = .ok (.goto 4, 3) := by decide +kernel
theorem dX12_isSign_25 : decode cX12_isSign 25 = .ok (.iconst 0, 1) := by decide +kernel
theorem dX12_isSign_26 : decode cX12_isSign 26 = .ok (.ireturn, 1) := by decide +kernel
theorem dX12_isSign_4 : decode cX12_isSign 4 = .ok (.iload_n 1, 1) := by decide +kernel
theorem dX12_isSign_5 : decode cX12_isSign 5 = .ok (.if_icmp .ge 20, 3) := by decide +kernel
theorem dX12_isSign_8 : decode cX12_isSign 8 = .ok (.aload_n 0, 1) := by decide +kernel
theorem dX12_isSign_9 : decode cX12_isSign 9 = .ok (.getfield 84, 3) := by decide +kernel
theorem dX12_isSort_0 : decode cX12_isSort 0 = .ok (.iload_n 1, 1) := by decide +kernel
theorem dX12_isSort_1 : decode cX12_isSort 1 = .ok (.i2l, 1) := by decide +kernel
theorem dX12_isSort_10 : decode cX12_isSort 10 = .ok (.invokestatic 156, 3) := by decide +kernel
theorem dX12_isSort_13 : decode cX12_isSort 13 = .ok (.ireturn, 1) := by decide +kernel
theorem dX12_isSort_2 : decode cX12_isSort 2 = .ok (.lconst 0, 1) := by decide +kernel
theorem dX12_isSort_3 : decode cX12_isSort 3 = .ok (.aload_n 0, 1) := by decide +kernel
theorem dX12_isSort_4 : decode cX12_isSort 4 = .ok (.getfield 153, 3) := by decide +kernel
theorem dX12_isSort_7 : decode cX12_isSort 7 = .ok (.iconst 1, 1) := by decide +kernel
theorem dX12_isSort_8 : decode cX12_isSort 8 = .ok (.isub, 1) := by decide +kernel
theorem dX12_isSort_9 : decode cX12_isSort 9 = .ok (.i2l, 1) := by decide +kernel
theorem dX12_isSorter_0 : decode cX12_isSorter 0 = .ok (.iload_n 0, 1) := by decide +kernel
theorem dX12_isSorter_1 : decode cX12_isSorter 1 = .ok (.i2l, 1) := by decide +kernel
theorem dX12_isSorter_2 : decode cX12_isSorter 2 = .ok (.lconst 0, 1) := by decide +kernel
theorem dX12_isSorter_3 : decode cX12_isSorter 3 = .ok (.ldc2_w 203, 3) := by decide +kernel
theorem dX12_isSorter_6 : decode cX12_isSorter 6 = .ok (.invokestatic 156, 3) := by decide +kernel
theorem dX12_isSorter_9 : decode cX12_isSorter 9 = .ok (.ireturn, 1) := by decide +kernel
theorem dX12_isWeek_0 : decode cX12_isWeek 0 = .ok (.iload_n 0, 1) := by decide +kernel
theorem dX12_isWeek_1 : decode cX12_isWeek 1 = .ok (.i2l, 1) := by decide +kernel
theorem dX12_isWeek_2 : decode cX12_isWeek 2 = .ok (.lconst 0, 1) := by decide +kernel
theorem dX12_isWeek_3 : decode cX12_isWeek 3 = .ok (.ldc2_w 160, 3) := by decide +kernel
theorem dX12_isWeek_6 : decode cX12_isWeek 6 = .ok (.invokestatic 156, 3) := by decide +kernel
theorem dX12_isWeek_9 : decode cX12_isWeek 9 = .ok (.ireturn, 1) := by decide +kernel
theorem dX12_isWithin_0 : decode cX12_isWithin 0 = .ok (.iload_n 1, 1) := by decide +kernel
theorem dX12_isWithin_1 : decode cX12_isWithin 1 = .ok (.istore_n 3, 1) := by decide +kernel
theorem dX12_isWithin_11 : decode cX12_isWithin 11 = .ok (.aload_n 0, 1) := by decide +kernel
theorem dX12_isWithin_12 : decode cX12_isWithin 12 = .ok (.iload_n 3, 1) := by decide +kernel
theorem dX12_isWithin_13 : decode cX12_isWithin 13 = .ok (.invokevirtual 182, 3) := by decide +kernel
theorem dX12_isWithin_16 : decode cX12_isWithin 16 = .ok (.istore_n 3, 1) := by decide +kernel
theorem dX12_isWithin_17 : decode cX12_isWithin 17 = .ok (.goto (-15), 3) := by decide +kernel
theorem dX12_isWithin_2 : decode cX12_isWithin 2 = .ok (.iload_n 3, 1) := by decide +kernel
theorem dX12_isWithin_20 : decode cX12_isWithin 20 = .ok (.iload_n 3, 1) := by decide +kernel
theorem dX12_isWithin_21 : decode cX12_isWithin 21 = .ok (.iload_n 2, 1) := by decide +kernel
theorem dX12_isWithin_22 : decode cX12_isWithin 22 = .ok (.if_icmp .ne 7, 3) := by decide +kernel
theorem dX12_isWithin_25 : decode cX12_isWithin 25 = .ok (.iconst 1, 1) := by decide +kernel
theorem dX12_isWithin_26 : decode cX12_isWithin 26 = .ok (.goto 4, 3) := by decide +kernel
theorem dX12_isWithin_29 : decode cX12_isWithin 29 = .ok (.iconst 0, 1) := by decide +kernel
theorem dX12_isWithin_3 : decode cX12_isWithin 3 = .ok (.ifCond .lt 17, 3) := by decide +kernel
theorem dX12_isWithin_30 : decode cX12_isWithin 30 = .ok (.ireturn, 1) := by decide +kernel
theorem dX12_isWithin_6 : decode cX12_isWithin 6 = .ok (.iload_n 3, 1) := by decide +kernel
theorem dX12_isWithin_7 : decode cX12_isWithin 7 = .ok (.iload_n 2, 1) := by decide +kernel
theorem dX12_isWithin_8 : decode cX12_isWithin 8 = .ok (.if_icmp .eq 12, 3) := by decide +kernel
theorem dX12_judge_0 : decode cX12_judge 0 = .ok (.aload_n 0, 1) := by decide +kernel
theorem dX12_judge_1 : decode cX12_judge 1 = .ok (.iconst 0, 1) := by decide +kernel
theorem dX12_judge_10 : decode cX12_judge 10 = .ok (.ifCond .eq 12, 3) := by decide +kernel
theorem dX12_judge_13 : decode cX12_judge 13 = .ok (.aload_n 0, 1) := by decide +kernel
theorem dX12_judge_14 : decode cX12_judge 14 = .ok (.invokevirtual 356, 3) := by decide +kernel
theorem dX12_judge_17 : decode cX12_judge 17 = .ok (.bipush 12, 2) := by decide +kernel
theorem dX12_judge_19 : decode cX12_judge 19 = .ok (.if_icmp .eq 5, 3) := by decide +kernel
theorem dX12_judge_2 : decode cX12_judge 2 = .ok (.putfield 150, 3) := by decide +kernel
theorem dX12_judge_22 : decode cX12_judge 22 = .ok (.iconst (-1), 1) := by decide +kernel
theorem dX12_judge_23 : decode cX12_judge 23 = .ok (.ireturn, 1) := by decide +kernel
theorem dX12_judge_24 : decode cX12_judge 24 = .ok (.aload_n 0, 1) := by decide +kernel
theorem dX12_judge_25 : decode cX12_judge 25 = .ok (.iload_n 1, 1) := by decide +kernel
theorem dX12_judge_26 : decode cX12_judge 26 = .ok (.invokevirtual 365, 3) := by decide +kernel
theorem dX12_judge_29 : decode cX12_judge 29 = .ok (.istore_n 2, 1) := by decide +kernel
theorem dX12_judge_30 : decode cX12_judge 30 = .ok (.iload_n 2, 1) := by decide +kernel
theorem dX12_judge_31 : decode cX12_judge 31 = .ok (.ifCond .ge 8, 3) := by decide +kernel
theorem dX12_judge_34 : decode cX12_judge 34 = .ok (.bipush (-2), 2) := by decide +kernel
theorem dX12_judge_36 : decode cX12_judge 36 = .ok (.goto 4, 3) := by decide +kernel
theorem dX12_judge_39 : decode cX12_judge 39 = .ok (.iload_n 2, 1) := by decide +kernel
theorem dX12_judge_40 : decode cX12_judge 40 = .ok (.ireturn, 1) := by decide +kernel
theorem dX12_judge_5 : decode cX12_judge 5 = .ok (.aload_n 0, 1) := by decide +kernel
theorem dX12_judge_6 : decode cX12_judge 6 = .ok (.iload_n 1, 1) := by decide +kernel
theorem dX12_judge_7 : decode cX12_judge 7 = .ok (.invokevirtual 362, 3) := by decide +kernel
theorem dX12_judged_0 : decode cX12_judged 0 = .ok (.iconst 0, 1) := by decide +kernel
theorem dX12_judged_1 : decode cX12_judged 1 = .ok (.istore_n 2, 1) := by decide +kernel
theorem dX12_judged_10 : decode cX12_judged 10 = .ok (.getfield 153, 3) := by decide +kernel
theorem dX12_judged_100 : decode cX12_judged 100 = .ok (.invokevirtual 243, 3) := by decide +kernel
theorem dX12_judged_103 : decode cX12_judged 103 = .ok (.aload_n 0, 1) := by decide +kernel
theorem dX12_judged_104 : decode cX12_judged 104 = .ok (.bipush 119, 2) := by decide +kernel
theorem dX12_judged_106 : decode cX12_judged 106 = .ok (.aload_n 0, 1) := by decide +kernel
theorem dX12_judged_107 : decode cX12_judged 107 = .ok (.iconst 4, 1) := by decide +kernel
theorem dX12_judged_108 : decode cX12_judged 108 = .ok (.invokevirtual 359, 3) := by decide +kernel
theorem dX12_judged_111 : decode cX12_judged 111 = .ok (.invokevirtual 243, 3) := by decide +kernel
theorem dX12_judged_114 : decode cX12_judged 114 = .ok (.aload_n 0, 1) := by decide +kernel
theorem dX12_judged_115 : decode cX12_judged 115 = .ok (.bipush 118, 2) := by decide +kernel
theorem dX12_judged_117 : decode cX12_judged 117 = .ok (.aload_n 0, 1) := by decide +kernel
theorem dX12_judged_118 : decode cX12_judged 118 = .ok (.iconst 5, 1) := by decide +kernel
theorem dX12_judged_119 : decode cX12_judged 119 = .ok (.invokevirtual 359, 3) := by decide +kernel
theorem dX12_judged_122 : decode cX12_judged 122 = .ok (.invokevirtual 243, 3) := by decide +kernel
theorem dX12_judged_125 : decode cX12_judged 125 = .ok (.aload_n 0, 1) := by decide +kernel
theorem dX12_judged_126 : decode cX12_judged 126 = .ok (.bipush 110, 2) := by decide +kernel
theorem dX12_judged_128 : decode cX12_judged 128 = .ok (.iload_n 2, 1) := by decide +kernel
theorem dX12_judged_129 : decode cX12_judged 129 = .ok (.invokevirtual 243, 3) := by decide +kernel
theorem dX12_judged_13 : decode cX12_judged 13 = .ok (.if_icmp .ge 42, 3) := by decide +kernel
theorem dX12_judged_132 : decode cX12_judged 132 = .ok (.aload_n 0, 1) := by decide +kernel
theorem dX12_judged_133 : decode cX12_judged 133 = .ok (.bipush 109, 2) := by decide +kernel
theorem dX12_judged_135 : decode cX12_judged 135 = .ok (.iload_n 3, 1) := by decide +kernel
theorem dX12_judged_136 : decode cX12_judged 136 = .ok (.invokevirtual 243, 3) := by decide +kernel
theorem dX12_judged_139 : decode cX12_judged 139 = .ok (.bipush 64, 2) := by decide +kernel
theorem dX12_judged_141 : decode cX12_judged 141 = .ok (.iconst 4, 1) := by decide +kernel
theorem dX12_judged_142 : decode cX12_judged 142 = .ok (.iload_n 1, 1) := by decide +kernel
theorem dX12_judged_143 : decode cX12_judged 143 = .ok (.iadd, 1) := by decide +kernel
theorem dX12_judged_144 : decode cX12_judged 144 = .ok (.imul, 1) := by decide +kernel
theorem dX12_judged_145 : decode cX12_judged 145 = .ok (.istore 4, 2) := by decide +kernel
theorem dX12_judged_147 : decode cX12_judged 147 = .ok (.iload 4, 2) := by decide +kernel
theorem dX12_judged_149 : decode cX12_judged 149 = .ok (.aload_n 0, 1) := by decide +kernel
theorem dX12_judged_150 : decode cX12_judged 150 = .ok (.getfield 75, 3) := by decide +kernel
theorem dX12_judged_153 : decode cX12_judged 153 = .ok (.iconst 4, 1) := by decide +kernel
theorem dX12_judged_154 : decode cX12_judged 154 = .ok (.iload_n 1, 1) := by decide +kernel
theorem dX12_judged_155 : decode cX12_judged 155 = .ok (.iadd, 1) := by decide +kernel
theorem dX12_judged_156 : decode cX12_judged 156 = .ok (.iaload, 1) := by decide +kernel
theorem dX12_judged_157 : decode cX12_judged 157 = .ok (.iadd, 1) := by decide +kernel
theorem dX12_judged_158 : decode cX12_judged 158 = .ok (.istore 5, 2) := by decide +kernel
theorem dX12_judged_16 : decode cX12_judged 16 = .ok (.iload_n 2, 1) := by decide +kernel
theorem dX12_judged_160 : decode cX12_judged 160 = .ok (.iconst 0, 1) := by decide +kernel
theorem dX12_judged_161 : decode cX12_judged 161 = .ok (.istore 6, 2) := by decide +kernel
theorem dX12_judged_163 : decode cX12_judged 163 = .ok (.iload 4, 2) := by decide +kernel
theorem dX12_judged_165 : decode cX12_judged 165 = .ok (.iload 5, 2) := by decide +kernel
theorem dX12_judged_167 : decode cX12_judged 167 = .ok (.if_icmp .ge 31, 3) := by decide +kernel
theorem dX12_judged_17 : decode cX12_judged 17 = .ok (.aload_n 0, 1) := by decide +kernel
theorem dX12_judged_170 : decode cX12_judged 170 = .ok (.aload_n 0, 1) := by decide +kernel
theorem dX12_judged_171 : decode cX12_judged 171 = .ok (.iload 4, 2) := by decide +kernel
theorem dX12_judged_173 : decode cX12_judged 173 = .ok (.iload 5, 2) := by decide +kernel
theorem dX12_judged_175 : decode cX12_judged 175 = .ok (.invokevirtual 334, 3) := by decide +kernel
theorem dX12_judged_178 : decode cX12_judged 178 = .ok (.ifCond .ne 6, 3) := by decide +kernel
theorem dX12_judged_18 : decode cX12_judged 18 = .ok (.getfield 87, 3) := by decide +kernel
theorem dX12_judged_181 : decode cX12_judged 181 = .ok (.iload 6, 2) := by decide +kernel
theorem dX12_judged_183 : decode cX12_judged 183 = .ok (.ireturn, 1) := by decide +kernel
theorem dX12_judged_184 : decode cX12_judged 184 = .ok (.aload_n 0, 1) := by decide +kernel
theorem dX12_judged_185 : decode cX12_judged 185 = .ok (.getfield 331, 3) := by decide +kernel
theorem dX12_judged_188 : decode cX12_judged 188 = .ok (.iconst 1, 1) := by decide +kernel
theorem dX12_judged_189 : decode cX12_judged 189 = .ok (.iadd, 1) := by decide +kernel
theorem dX12_judged_190 : decode cX12_judged 190 = .ok (.istore 4, 2) := by decide +kernel
theorem dX12_judged_192 : decode cX12_judged 192 = .ok (.iinc 6 1, 3) := by decide +kernel
theorem dX12_judged_195 : decode cX12_judged 195 = .ok (.goto (-32), 3) := by decide +kernel
theorem dX12_judged_198 : decode cX12_judged 198 = .ok (.iconst (-1), 1) := by decide +kernel
theorem dX12_judged_199 : decode cX12_judged 199 = .ok (.ireturn, 1) := by decide +kernel
theorem dX12_judged_2 : decode cX12_judged 2 = .ok (.iconst 0, 1) := by decide +kernel
theorem dX12_judged_21 : decode cX12_judged 21 = .ok (.iload 4, 2) := by decide +kernel
theorem dX12_judged_23 : decode cX12_judged 23 = .ok (.iaload, 1) := by decide +kernel
theorem dX12_judged_24 : decode cX12_judged 24 = .ok (.ifCond .le 7, 3) := by decide +kernel
theorem dX12_judged_27 : decode cX12_judged 27 = .ok (.iconst 1, 1) := by decide +kernel
theorem dX12_judged_28 : decode cX12_judged 28 = .ok (.goto 4, 3) := by decide +kernel
theorem dX12_judged_3 : decode cX12_judged 3 = .ok (.istore_n 3, 1) := by decide +kernel
theorem dX12_judged_31 : decode cX12_judged 31 = .ok (.iconst 0, 1) := by decide +kernel
theorem dX12_judged_32 : decode cX12_judged 32 = .ok (.invokestatic 190, 3) := by decide +kernel
theorem dX12_judged_35 : decode cX12_judged 35 = .ok (.iadd, 1) := by decide +kernel
theorem dX12_judged_36 : decode cX12_judged 36 = .ok (.istore_n 2, 1) := by decide +kernel
theorem dX12_judged_37 : decode cX12_judged 37 = .ok (.iload_n 3, 1) := by decide +kernel
theorem dX12_judged_38 : decode cX12_judged 38 = .ok (.aload_n 0, 1) := by decide +kernel
theorem dX12_judged_39 : decode cX12_judged 39 = .ok (.getfield 87, 3) := by decide +kernel
theorem dX12_judged_4 : decode cX12_judged 4 = .ok (.iconst 0, 1) := by decide +kernel
theorem dX12_judged_42 : decode cX12_judged 42 = .ok (.iload 4, 2) := by decide +kernel
theorem dX12_judged_44 : decode cX12_judged 44 = .ok (.iaload, 1) := by decide +kernel
theorem dX12_judged_45 : decode cX12_judged 45 = .ok (.invokestatic 238, 3) := by decide +kernel
theorem dX12_judged_48 : decode cX12_judged 48 = .ok (.istore_n 3, 1) := by decide +kernel
theorem dX12_judged_49 : decode cX12_judged 49 = .ok (.iinc 4 1, 3) := by decide +kernel
theorem dX12_judged_5 : decode cX12_judged 5 = .ok (.istore 4, 2) := by decide +kernel
theorem dX12_judged_52 : decode cX12_judged 52 = .ok (.goto (-45), 3) := by decide +kernel
theorem dX12_judged_55 : decode cX12_judged 55 = .ok (.aload_n 0, 1) := by decide +kernel
theorem dX12_judged_56 : decode cX12_judged 56 = .ok (.invokevirtual 235, 3) := by decide +kernel
theorem dX12_judged_59 : decode cX12_judged 59 = .ok (.aload_n 0, 1) := by decide +kernel
theorem dX12_judged_60 : decode cX12_judged 60 = .ok (.bipush 114, 2) := by decide +kernel
theorem dX12_judged_62 : decode cX12_judged 62 = .ok (.aload_n 0, 1) := by decide +kernel
theorem dX12_judged_63 : decode cX12_judged 63 = .ok (.iconst 0, 1) := by decide +kernel
theorem dX12_judged_64 : decode cX12_judged 64 = .ok (.invokevirtual 359, 3) := by decide +kernel
theorem dX12_judged_67 : decode cX12_judged 67 = .ok (.invokevirtual 243, 3) := by decide +kernel
theorem dX12_judged_7 : decode cX12_judged 7 = .ok (.iload 4, 2) := by decide +kernel
theorem dX12_judged_70 : decode cX12_judged 70 = .ok (.aload_n 0, 1) := by decide +kernel
theorem dX12_judged_71 : decode cX12_judged 71 = .ok (.bipush 103, 2) := by decide +kernel
theorem dX12_judged_73 : decode cX12_judged 73 = .ok (.aload_n 0, 1) := by decide +kernel
theorem dX12_judged_74 : decode cX12_judged 74 = .ok (.iconst 1, 1) := by decide +kernel
theorem dX12_judged_75 : decode cX12_judged 75 = .ok (.invokevirtual 359, 3) := by decide +kernel
theorem dX12_judged_78 : decode cX12_judged 78 = .ok (.invokevirtual 243, 3) := by decide +kernel
theorem dX12_judged_81 : decode cX12_judged 81 = .ok (.aload_n 0, 1) := by decide +kernel
theorem dX12_judged_82 : decode cX12_judged 82 = .ok (.bipush 98, 2) := by decide +kernel
theorem dX12_judged_84 : decode cX12_judged 84 = .ok (.aload_n 0, 1) := by decide +kernel
theorem dX12_judged_85 : decode cX12_judged 85 = .ok (.iconst 2, 1) := by decide +kernel
theorem dX12_judged_86 : decode cX12_judged 86 = .ok (.invokevirtual 359, 3) := by decide +kernel
theorem dX12_judged_89 : decode cX12_judged 89 = .ok (.invokevirtual 243, 3) := by decide +kernel
theorem dX12_judged_9 : decode cX12_judged 9 = .ok (.aload_n 0, 1) := by decide +kernel
theorem dX12_judged_92 : decode cX12_judged 92 = .ok (.aload_n 0, 1) := by decide +kernel
theorem dX12_judged_93 : decode cX12_judged 93 = .ok (.bipush 115, 2) := by decide +kernel
theorem dX12_judged_95 : decode cX12_judged 95 = .ok (.aload_n 0, 1) := by decide +kernel
theorem dX12_judged_96 : decode cX12_judged 96 = .ok (.iconst 3, 1) := by decide +kernel
theorem dX12_judged_97 : decode cX12_judged 97 = .ok (.invokevirtual 359, 3) := by decide +kernel
theorem dX12_led_0 : decode cX12_led 0 = .ok (.aload_n 0, 1) := by decide +kernel
theorem dX12_led_1 : decode cX12_led 1 = .ok (.iconst 0, 1) := by decide +kernel
theorem dX12_led_10 : decode cX12_led 10 = .ok (.ifCond .ne 5, 3) := by decide +kernel
theorem dX12_led_13 : decode cX12_led 13 = .ok (.iconst (-1), 1) := by decide +kernel
theorem dX12_led_14 : decode cX12_led 14 = .ok (.ireturn, 1) := by decide +kernel
theorem dX12_led_15 : decode cX12_led 15 = .ok (.aload_n 0, 1) := by decide +kernel
theorem dX12_led_16 : decode cX12_led 16 = .ok (.iconst 0, 1) := by decide +kernel
theorem dX12_led_17 : decode cX12_led 17 = .ok (.putfield 388, 3) := by decide +kernel
theorem dX12_led_2 : decode cX12_led 2 = .ok (.putfield 150, 3) := by decide +kernel
theorem dX12_led_20 : decode cX12_led 20 = .ok (.iconst 0, 1) := by decide +kernel
theorem dX12_led_21 : decode cX12_led 21 = .ok (.istore_n 2, 1) := by decide +kernel
theorem dX12_led_22 : decode cX12_led 22 = .ok (.iload_n 2, 1) := by decide +kernel
theorem dX12_led_23 : decode cX12_led 23 = .ok (.aload_n 0, 1) := by decide +kernel
theorem dX12_led_24 : decode cX12_led 24 = .ok (.getfield 194, 3) := by decide +kernel
theorem dX12_led_27 : decode cX12_led 27 = .ok (.if_icmp .ge 43, 3) := by decide +kernel
theorem dX12_led_30 : decode cX12_led 30 = .ok (.aload_n 0, 1) := by decide +kernel
theorem dX12_led_31 : decode cX12_led 31 = .ok (.getfield 90, 3) := by decide +kernel
theorem dX12_led_34 : decode cX12_led 34 = .ok (.bipush 24, 2) := by decide +kernel
theorem dX12_led_36 : decode cX12_led 36 = .ok (.iload_n 1, 1) := by decide +kernel
theorem dX12_led_37 : decode cX12_led 37 = .ok (.imul, 1) := by decide +kernel
theorem dX12_led_38 : decode cX12_led 38 = .ok (.iload_n 2, 1) := by decide +kernel
theorem dX12_led_39 : decode cX12_led 39 = .ok (.iadd, 1) := by decide +kernel
theorem dX12_led_40 : decode cX12_led 40 = .ok (.iaload, 1) := by decide +kernel
theorem dX12_led_41 : decode cX12_led 41 = .ok (.ifCond .le 23, 3) := by decide +kernel
theorem dX12_led_44 : decode cX12_led 44 = .ok (.aload_n 0, 1) := by decide +kernel
theorem dX12_led_45 : decode cX12_led 45 = .ok (.iload_n 2, 1) := by decide +kernel
theorem dX12_led_46 : decode cX12_led 46 = .ok (.invokevirtual 394, 3) := by decide +kernel
theorem dX12_led_49 : decode cX12_led 49 = .ok (.aload_n 0, 1) := by decide +kernel
theorem dX12_led_5 : decode cX12_led 5 = .ok (.aload_n 0, 1) := by decide +kernel
theorem dX12_led_50 : decode cX12_led 50 = .ok (.aload_n 0, 1) := by decide +kernel
theorem dX12_led_51 : decode cX12_led 51 = .ok (.getfield 90, 3) := by decide +kernel
theorem dX12_led_54 : decode cX12_led 54 = .ok (.bipush 24, 2) := by decide +kernel
theorem dX12_led_56 : decode cX12_led 56 = .ok (.iload_n 1, 1) := by decide +kernel
theorem dX12_led_57 : decode cX12_led 57 = .ok (.imul, 1) := by decide +kernel
theorem dX12_led_58 : decode cX12_led 58 = .ok (.iload_n 2, 1) := by decide +kernel
theorem dX12_led_59 : decode cX12_led 59 = .ok (.iadd, 1) := by decide +kernel
theorem dX12_led_6 : decode cX12_led 6 = .ok (.iload_n 1, 1) := by decide +kernel
theorem dX12_led_60 : decode cX12_led 60 = .ok (.iaload, 1) := by decide +kernel
theorem dX12_led_61 : decode cX12_led 61 = .ok (.invokevirtual 394, 3) := by decide +kernel
theorem dX12_led_64 : decode cX12_led 64 = .ok (.iinc 2 1, 3) := by decide +kernel
theorem dX12_led_67 : decode cX12_led 67 = .ok (.goto (-45), 3) := by decide +kernel
theorem dX12_led_7 : decode cX12_led 7 = .ok (.invokevirtual 391, 3) := by decide +kernel
theorem dX12_led_70 : decode cX12_led 70 = .ok (.aload_n 0, 1) := by decide +kernel
theorem dX12_led_71 : decode cX12_led 71 = .ok (.getfield 388, 3) := by decide +kernel
theorem dX12_led_74 : decode cX12_led 74 = .ok (.iconst 2, 1) := by decide +kernel
theorem dX12_led_75 : decode cX12_led 75 = .ok (.idiv, 1) := by decide +kernel
theorem dX12_led_76 : decode cX12_led 76 = .ok (.ireturn, 1) := by decide +kernel
theorem dX12_lookOf_0 : decode cX12_lookOf 0 = .ok (.iconst (-1), 1) := by decide +kernel
theorem dX12_lookOf_1 : decode cX12_lookOf 1 = .ok (.istore_n 3, 1) := by decide +kernel
theorem dX12_lookOf_11 : decode cX12_lookOf 11 = .ok (.if_icmp .ge 68, 3) := by decide +kernel
theorem dX12_lookOf_14 : decode cX12_lookOf 14 = .ok (.aload_n 0, 1) := by decide +kernel
theorem dX12_lookOf_15 : decode cX12_lookOf 15 = .ok (.getfield 49, 3) := by decide +kernel
theorem dX12_lookOf_18 : decode cX12_lookOf 18 = .ok (.iload 4, 2) := by decide +kernel
theorem dX12_lookOf_2 : decode cX12_lookOf 2 = .ok (.iconst 0, 1) := by decide +kernel
theorem dX12_lookOf_20 : decode cX12_lookOf 20 = .ok (.iaload, 1) := by decide +kernel
theorem dX12_lookOf_21 : decode cX12_lookOf 21 = .ok (.iload_n 1, 1) := by decide +kernel
theorem dX12_lookOf_22 : decode cX12_lookOf 22 = .ok (.if_icmp .ne 51, 3) := by decide +kernel
theorem dX12_lookOf_25 : decode cX12_lookOf 25 = .ok (.aload_n 0, 1) := by decide +kernel
theorem dX12_lookOf_26 : decode cX12_lookOf 26 = .ok (.getfield 52, 3) := by decide +kernel
theorem dX12_lookOf_29 : decode cX12_lookOf 29 = .ok (.iload 4, 2) := by decide +kernel
theorem dX12_lookOf_3 : decode cX12_lookOf 3 = .ok (.istore 4, 2) := by decide +kernel
theorem dX12_lookOf_31 : decode cX12_lookOf 31 = .ok (.iaload, 1) := by decide +kernel
theorem dX12_lookOf_32 : decode cX12_lookOf 32 = .ok (.iload_n 2, 1) := by decide +kernel
theorem dX12_lookOf_33 : decode cX12_lookOf 33 = .ok (.if_icmp .ne 40, 3) := by decide +kernel
theorem dX12_lookOf_36 : decode cX12_lookOf 36 = .ok (.aload_n 0, 1) := by decide +kernel
theorem dX12_lookOf_37 : decode cX12_lookOf 37 = .ok (.getfield 55, 3) := by decide +kernel
theorem dX12_lookOf_40 : decode cX12_lookOf 40 = .ok (.iload 4, 2) := by decide +kernel
theorem dX12_lookOf_42 : decode cX12_lookOf 42 = .ok (.iaload, 1) := by decide +kernel
theorem dX12_lookOf_43 : decode cX12_lookOf 43 = .ok (.aload_n 0, 1) := by decide +kernel
theorem dX12_lookOf_44 : decode cX12_lookOf 44 = .ok (.getfield 64, 3) := by decide +kernel
theorem dX12_lookOf_47 : decode cX12_lookOf 47 = .ok (.if_icmp .gt 26, 3) := by decide +kernel
theorem dX12_lookOf_5 : decode cX12_lookOf 5 = .ok (.iload 4, 2) := by decide +kernel
theorem dX12_lookOf_50 : decode cX12_lookOf 50 = .ok (.iload_n 3, 1) := by decide +kernel
theorem dX12_lookOf_51 : decode cX12_lookOf 51 = .ok (.ifCond .lt 19, 3) := by decide +kernel
theorem dX12_lookOf_54 : decode cX12_lookOf 54 = .ok (.aload_n 0, 1) := by decide +kernel
theorem dX12_lookOf_55 : decode cX12_lookOf 55 = .ok (.getfield 55, 3) := by decide +kernel
theorem dX12_lookOf_58 : decode cX12_lookOf 58 = .ok (.iload 4, 2) := by decide +kernel
theorem dX12_lookOf_60 : decode cX12_lookOf 60 = .ok (.iaload, 1) := by decide +kernel
theorem dX12_lookOf_61 : decode cX12_lookOf 61 = .ok (.aload_n 0, 1) := by decide +kernel
theorem dX12_lookOf_62 : decode cX12_lookOf 62 = .ok (.getfield 55, 3) := by decide +kernel
theorem dX12_lookOf_65 : decode cX12_lookOf 65 = .ok (.iload_n 3, 1) := by decide +kernel
theorem dX12_lookOf_66 : decode cX12_lookOf 66 = .ok (.iaload, 1) := by decide +kernel
theorem dX12_lookOf_67 : decode cX12_lookOf 67 = .ok (.if_icmp .lt 6, 3) := by decide +kernel
theorem dX12_lookOf_7 : decode cX12_lookOf 7 = .ok (.aload_n 0, 1) := by decide +kernel
theorem dX12_lookOf_70 : decode cX12_lookOf 70 = .ok (.iload 4, 2) := by decide +kernel
theorem dX12_lookOf_72 : decode cX12_lookOf 72 = .ok (.istore_n 3, 1) := by decide +kernel
theorem dX12_lookOf_73 : decode cX12_lookOf 73 = .ok (.iinc 4 1, 3) := by decide +kernel
theorem dX12_lookOf_76 : decode cX12_lookOf 76 = .ok (.goto (-71), 3) := by decide +kernel
theorem dX12_lookOf_79 : decode cX12_lookOf 79 = .ok (.iload_n 3, 1) := by decide +kernel
theorem dX12_lookOf_8 : decode cX12_lookOf 8 = .ok (.getfield 229, 3) := by decide +kernel
theorem dX12_lookOf_80 : decode cX12_lookOf 80 = .ok (.ireturn, 1) := by decide +kernel
theorem dX12_look_0 : decode cX12_look 0 = .ok (.aload_n 0, 1) := by decide +kernel
theorem dX12_look_1 : decode cX12_look 1 = .ok (.iconst 0, 1) := by decide +kernel
theorem dX12_look_10 : decode cX12_look 10 = .ok (.ifCond .eq 55, 3) := by decide +kernel
theorem dX12_look_101 : decode cX12_look 101 = .ok (.aload_n 0, 1) := by decide +kernel
theorem dX12_look_102 : decode cX12_look 102 = .ok (.getfield 229, 3) := by decide +kernel
theorem dX12_look_105 : decode cX12_look 105 = .ok (.iload 4, 2) := by decide +kernel
theorem dX12_look_107 : decode cX12_look 107 = .ok (.iastore, 1) := by decide +kernel
theorem dX12_look_108 : decode cX12_look 108 = .ok (.aload_n 0, 1) := by decide +kernel
theorem dX12_look_109 : decode cX12_look 109 = .ok (.getfield 61, 3) := by decide +kernel
theorem dX12_look_112 : decode cX12_look 112 = .ok (.aload_n 0, 1) := by decide +kernel
theorem dX12_look_113 : decode cX12_look 113 = .ok (.getfield 229, 3) := by decide +kernel
theorem dX12_look_116 : decode cX12_look 116 = .ok (.iload 5, 2) := by decide +kernel
theorem dX12_look_118 : decode cX12_look 118 = .ok (.iastore, 1) := by decide +kernel
theorem dX12_look_119 : decode cX12_look 119 = .ok (.aload_n 0, 1) := by decide +kernel
theorem dX12_look_120 : decode cX12_look 120 = .ok (.dup, 1) := by decide +kernel
theorem dX12_look_121 : decode cX12_look 121 = .ok (.getfield 229, 3) := by decide +kernel
theorem dX12_look_124 : decode cX12_look 124 = .ok (.iconst 1, 1) := by decide +kernel
theorem dX12_look_125 : decode cX12_look 125 = .ok (.iadd, 1) := by decide +kernel
theorem dX12_look_126 : decode cX12_look 126 = .ok (.putfield 229, 3) := by decide +kernel
theorem dX12_look_129 : decode cX12_look 129 = .ok (.aload_n 0, 1) := by decide +kernel
theorem dX12_look_13 : decode cX12_look 13 = .ok (.iload_n 2, 1) := by decide +kernel
theorem dX12_look_130 : decode cX12_look 130 = .ok (.getfield 229, 3) := by decide +kernel
theorem dX12_look_133 : decode cX12_look 133 = .ok (.ireturn, 1) := by decide +kernel
theorem dX12_look_14 : decode cX12_look 14 = .ok (.i2l, 1) := by decide +kernel
theorem dX12_look_15 : decode cX12_look 15 = .ok (.lconst 0, 1) := by decide +kernel
theorem dX12_look_16 : decode cX12_look 16 = .ok (.lconst 1, 1) := by decide +kernel
theorem dX12_look_17 : decode cX12_look 17 = .ok (.invokestatic 156, 3) := by decide +kernel
theorem dX12_look_2 : decode cX12_look 2 = .ok (.putfield 150, 3) := by decide +kernel
theorem dX12_look_20 : decode cX12_look 20 = .ok (.ifCond .eq 45, 3) := by decide +kernel
theorem dX12_look_23 : decode cX12_look 23 = .ok (.iload_n 3, 1) := by decide +kernel
theorem dX12_look_24 : decode cX12_look 24 = .ok (.invokestatic 226, 3) := by decide +kernel
theorem dX12_look_27 : decode cX12_look 27 = .ok (.ifCond .eq 38, 3) := by decide +kernel
theorem dX12_look_30 : decode cX12_look 30 = .ok (.iload 4, 2) := by decide +kernel
theorem dX12_look_32 : decode cX12_look 32 = .ok (.i2l, 1) := by decide +kernel
theorem dX12_look_33 : decode cX12_look 33 = .ok (.lconst 0, 1) := by decide +kernel
theorem dX12_look_34 : decode cX12_look 34 = .ok (.ldc2_w 201, 3) := by decide +kernel
theorem dX12_look_37 : decode cX12_look 37 = .ok (.invokestatic 156, 3) := by decide +kernel
theorem dX12_look_40 : decode cX12_look 40 = .ok (.ifCond .eq 25, 3) := by decide +kernel
theorem dX12_look_43 : decode cX12_look 43 = .ok (.iload 5, 2) := by decide +kernel
theorem dX12_look_45 : decode cX12_look 45 = .ok (.i2l, 1) := by decide +kernel
theorem dX12_look_46 : decode cX12_look 46 = .ok (.lconst 0, 1) := by decide +kernel
theorem dX12_look_47 : decode cX12_look 47 = .ok (.ldc2_w 164, 3) := by decide +kernel
theorem dX12_look_5 : decode cX12_look 5 = .ok (.aload_n 0, 1) := by decide +kernel
theorem dX12_look_50 : decode cX12_look 50 = .ok (.invokestatic 156, 3) := by decide +kernel
theorem dX12_look_53 : decode cX12_look 53 = .ok (.ifCond .eq 12, 3) := by decide +kernel
theorem dX12_look_56 : decode cX12_look 56 = .ok (.aload_n 0, 1) := by decide +kernel
theorem dX12_look_57 : decode cX12_look 57 = .ok (.getfield 229, 3) := by decide +kernel
theorem dX12_look_6 : decode cX12_look 6 = .ok (.iload_n 1, 1) := by decide +kernel
theorem dX12_look_60 : decode cX12_look 60 = .ok (.bipush 60, 2) := by decide +kernel
theorem dX12_look_62 : decode cX12_look 62 = .ok (.if_icmp .ne 5, 3) := by decide +kernel
theorem dX12_look_65 : decode cX12_look 65 = .ok (.iconst (-1), 1) := by decide +kernel
theorem dX12_look_66 : decode cX12_look 66 = .ok (.ireturn, 1) := by decide +kernel
theorem dX12_look_67 : decode cX12_look 67 = .ok (.aload_n 0, 1) := by decide +kernel
theorem dX12_look_68 : decode cX12_look 68 = .ok (.getfield 49, 3) := by decide +kernel
theorem dX12_look_7 : decode cX12_look 7 = .ok (.invokevirtual 205, 3) := by decide +kernel
theorem dX12_look_71 : decode cX12_look 71 = .ok (.aload_n 0, 1) := by decide +kernel
theorem dX12_look_72 : decode cX12_look 72 = .ok (.getfield 229, 3) := by decide +kernel
theorem dX12_look_75 : decode cX12_look 75 = .ok (.iload_n 1, 1) := by decide +kernel
theorem dX12_look_76 : decode cX12_look 76 = .ok (.iastore, 1) := by decide +kernel
theorem dX12_look_77 : decode cX12_look 77 = .ok (.aload_n 0, 1) := by decide +kernel
theorem dX12_look_78 : decode cX12_look 78 = .ok (.getfield 52, 3) := by decide +kernel
theorem dX12_look_81 : decode cX12_look 81 = .ok (.aload_n 0, 1) := by decide +kernel
theorem dX12_look_82 : decode cX12_look 82 = .ok (.getfield 229, 3) := by decide +kernel
theorem dX12_look_85 : decode cX12_look 85 = .ok (.iload_n 2, 1) := by decide +kernel
theorem dX12_look_86 : decode cX12_look 86 = .ok (.iastore, 1) := by decide +kernel
theorem dX12_look_87 : decode cX12_look 87 = .ok (.aload_n 0, 1) := by decide +kernel
theorem dX12_look_88 : decode cX12_look 88 = .ok (.getfield 55, 3) := by decide +kernel
theorem dX12_look_91 : decode cX12_look 91 = .ok (.aload_n 0, 1) := by decide +kernel
theorem dX12_look_92 : decode cX12_look 92 = .ok (.getfield 229, 3) := by decide +kernel
theorem dX12_look_95 : decode cX12_look 95 = .ok (.iload_n 3, 1) := by decide +kernel
theorem dX12_look_96 : decode cX12_look 96 = .ok (.iastore, 1) := by decide +kernel
theorem dX12_look_97 : decode cX12_look 97 = .ok (.aload_n 0, 1) := by decide +kernel
theorem dX12_look_98 : decode cX12_look 98 = .ok (.getfield 58, 3) := by decide +kernel
theorem dX12_lots_0 : decode cX12_lots 0 = .ok (.iconst 0, 1) := by decide +kernel
theorem dX12_lots_1 : decode cX12_lots 1 = .ok (.istore_n 1, 1) := by decide +kernel
theorem dX12_lots_10 : decode cX12_lots 10 = .ok (.if_icmp .ge 29, 3) := by decide +kernel
theorem dX12_lots_13 : decode cX12_lots 13 = .ok (.iload_n 1, 1) := by decide +kernel
theorem dX12_lots_14 : decode cX12_lots 14 = .ok (.aload_n 0, 1) := by decide +kernel
theorem dX12_lots_15 : decode cX12_lots 15 = .ok (.getfield 43, 3) := by decide +kernel
theorem dX12_lots_18 : decode cX12_lots 18 = .ok (.iload_n 2, 1) := by decide +kernel
theorem dX12_lots_19 : decode cX12_lots 19 = .ok (.iaload, 1) := by decide +kernel
theorem dX12_lots_2 : decode cX12_lots 2 = .ok (.iconst 0, 1) := by decide +kernel
theorem dX12_lots_20 : decode cX12_lots 20 = .ok (.ifCond .le 7, 3) := by decide +kernel
theorem dX12_lots_23 : decode cX12_lots 23 = .ok (.iconst 1, 1) := by decide +kernel
theorem dX12_lots_24 : decode cX12_lots 24 = .ok (.goto 4, 3) := by decide +kernel
theorem dX12_lots_27 : decode cX12_lots 27 = .ok (.iconst 0, 1) := by decide +kernel
theorem dX12_lots_28 : decode cX12_lots 28 = .ok (.invokestatic 190, 3) := by decide +kernel
theorem dX12_lots_3 : decode cX12_lots 3 = .ok (.istore_n 2, 1) := by decide +kernel
theorem dX12_lots_31 : decode cX12_lots 31 = .ok (.iadd, 1) := by decide +kernel
theorem dX12_lots_32 : decode cX12_lots 32 = .ok (.istore_n 1, 1) := by decide +kernel
theorem dX12_lots_33 : decode cX12_lots 33 = .ok (.iinc 2 1, 3) := by decide +kernel
theorem dX12_lots_36 : decode cX12_lots 36 = .ok (.goto (-32), 3) := by decide +kernel
theorem dX12_lots_39 : decode cX12_lots 39 = .ok (.iload_n 1, 1) := by decide +kernel
theorem dX12_lots_4 : decode cX12_lots 4 = .ok (.iload_n 2, 1) := by decide +kernel
theorem dX12_lots_40 : decode cX12_lots 40 = .ok (.ireturn, 1) := by decide +kernel
theorem dX12_lots_5 : decode cX12_lots 5 = .ok (.aload_n 0, 1) := by decide +kernel
theorem dX12_lots_6 : decode cX12_lots 6 = .ok (.getfield 43, 3) := by decide +kernel
theorem dX12_lots_9 : decode cX12_lots 9 = .ok (.arraylength, 1) := by decide +kernel
theorem dX12_make_0 : decode cX12_make 0 = .ok (.aload_n 0, 1) := by decide +kernel
theorem dX12_make_1 : decode cX12_make 1 = .ok (.iconst 0, 1) := by decide +kernel
theorem dX12_make_101 : decode cX12_make 101 = .ok (.iconst 1, 1) := by decide +kernel
theorem dX12_make_102 : decode cX12_make 102 = .ok (.isub, 1) := by decide +kernel
theorem dX12_make_103 : decode cX12_make 103 = .ok (.invokevirtual 343, 3) := by decide +kernel
theorem dX12_make_106 : decode cX12_make 106 = .ok (.iinc 2 1, 3) := by decide +kernel
theorem dX12_make_109 : decode cX12_make 109 = .ok (.goto (-33), 3) := by decide +kernel
theorem dX12_make_11 : decode cX12_make 11 = .ok (.if_icmp .ne 41, 3) := by decide +kernel
theorem dX12_make_112 : decode cX12_make 112 = .ok (.aload_n 0, 1) := by decide +kernel
theorem dX12_make_113 : decode cX12_make 113 = .ok (.getfield 223, 3) := by decide +kernel
theorem dX12_make_116 : decode cX12_make 116 = .ok (.iconst 1, 1) := by decide +kernel
theorem dX12_make_117 : decode cX12_make 117 = .ok (.isub, 1) := by decide +kernel
theorem dX12_make_118 : decode cX12_make 118 = .ok (.ireturn, 1) := by decide +kernel
theorem dX12_make_14 : decode cX12_make 14 = .ok (.iload_n 1, 1) := by decide +kernel
theorem dX12_make_15 : decode cX12_make 15 = .ok (.i2l, 1) := by decide +kernel
theorem dX12_make_16 : decode cX12_make 16 = .ok (.ldc2_w 354, 3) := by decide +kernel
theorem dX12_make_19 : decode cX12_make 19 = .ok (.ldc2_w 386, 3) := by decide +kernel
theorem dX12_make_2 : decode cX12_make 2 = .ok (.putfield 150, 3) := by decide +kernel
theorem dX12_make_22 : decode cX12_make 22 = .ok (.invokestatic 156, 3) := by decide +kernel
theorem dX12_make_25 : decode cX12_make 25 = .ok (.ifCond .eq 27, 3) := by decide +kernel
theorem dX12_make_28 : decode cX12_make 28 = .ok (.iload_n 1, 1) := by decide +kernel
theorem dX12_make_29 : decode cX12_make 29 = .ok (.bipush 12, 2) := by decide +kernel
theorem dX12_make_31 : decode cX12_make 31 = .ok (.irem, 1) := by decide +kernel
theorem dX12_make_32 : decode cX12_make 32 = .ok (.ifCond .ne 20, 3) := by decide +kernel
theorem dX12_make_35 : decode cX12_make 35 = .ok (.aload_n 0, 1) := by decide +kernel
theorem dX12_make_36 : decode cX12_make 36 = .ok (.getfield 223, 3) := by decide +kernel
theorem dX12_make_39 : decode cX12_make 39 = .ok (.bipush 20, 2) := by decide +kernel
theorem dX12_make_41 : decode cX12_make 41 = .ok (.if_icmp .eq 11, 3) := by decide +kernel
theorem dX12_make_44 : decode cX12_make 44 = .ok (.aload_n 0, 1) := by decide +kernel
theorem dX12_make_45 : decode cX12_make 45 = .ok (.iload_n 1, 1) := by decide +kernel
theorem dX12_make_46 : decode cX12_make 46 = .ok (.invokevirtual 371, 3) := by decide +kernel
theorem dX12_make_49 : decode cX12_make 49 = .ok (.ifCond .ne 5, 3) := by decide +kernel
theorem dX12_make_5 : decode cX12_make 5 = .ok (.aload_n 0, 1) := by decide +kernel
theorem dX12_make_52 : decode cX12_make 52 = .ok (.iconst (-1), 1) := by decide +kernel
theorem dX12_make_53 : decode cX12_make 53 = .ok (.ireturn, 1) := by decide +kernel
theorem dX12_make_54 : decode cX12_make 54 = .ok (.aload_n 0, 1) := by decide +kernel
theorem dX12_make_55 : decode cX12_make 55 = .ok (.getfield 93, 3) := by decide +kernel
theorem dX12_make_58 : decode cX12_make 58 = .ok (.aload_n 0, 1) := by decide +kernel
theorem dX12_make_59 : decode cX12_make 59 = .ok (.getfield 223, 3) := by decide +kernel
theorem dX12_make_6 : decode cX12_make 6 = .ok (.invokevirtual 356, 3) := by decide +kernel
theorem dX12_make_62 : decode cX12_make 62 = .ok (.iconst 2, 1) := by decide +kernel
theorem dX12_make_63 : decode cX12_make 63 = .ok (.iastore, 1) := by decide +kernel
theorem dX12_make_64 : decode cX12_make 64 = .ok (.aload_n 0, 1) := by decide +kernel
theorem dX12_make_65 : decode cX12_make 65 = .ok (.dup, 1) := by decide +kernel
theorem dX12_make_66 : decode cX12_make 66 = .ok (.getfield 223, 3) := by decide +kernel
theorem dX12_make_69 : decode cX12_make 69 = .ok (.iconst 1, 1) := by decide +kernel
theorem dX12_make_70 : decode cX12_make 70 = .ok (.iadd, 1) := by decide +kernel
theorem dX12_make_71 : decode cX12_make 71 = .ok (.putfield 223, 3) := by decide +kernel
theorem dX12_make_74 : decode cX12_make 74 = .ok (.iconst 0, 1) := by decide +kernel
theorem dX12_make_75 : decode cX12_make 75 = .ok (.istore_n 2, 1) := by decide +kernel
theorem dX12_make_76 : decode cX12_make 76 = .ok (.iload_n 2, 1) := by decide +kernel
theorem dX12_make_77 : decode cX12_make 77 = .ok (.aload_n 0, 1) := by decide +kernel
theorem dX12_make_78 : decode cX12_make 78 = .ok (.getfield 153, 3) := by decide +kernel
theorem dX12_make_81 : decode cX12_make 81 = .ok (.if_icmp .ge 31, 3) := by decide +kernel
theorem dX12_make_84 : decode cX12_make 84 = .ok (.aload_n 0, 1) := by decide +kernel
theorem dX12_make_85 : decode cX12_make 85 = .ok (.iload_n 2, 1) := by decide +kernel
theorem dX12_make_86 : decode cX12_make 86 = .ok (.aload_n 0, 1) := by decide +kernel
theorem dX12_make_87 : decode cX12_make 87 = .ok (.getfield 87, 3) := by decide +kernel
theorem dX12_make_9 : decode cX12_make 9 = .ok (.bipush 12, 2) := by decide +kernel
theorem dX12_make_90 : decode cX12_make 90 = .ok (.iload_n 2, 1) := by decide +kernel
theorem dX12_make_91 : decode cX12_make 91 = .ok (.iaload, 1) := by decide +kernel
theorem dX12_make_92 : decode cX12_make 92 = .ok (.iload_n 1, 1) := by decide +kernel
theorem dX12_make_93 : decode cX12_make 93 = .ok (.bipush 12, 2) := by decide +kernel
theorem dX12_make_95 : decode cX12_make 95 = .ok (.idiv, 1) := by decide +kernel
theorem dX12_make_96 : decode cX12_make 96 = .ok (.imul, 1) := by decide +kernel
theorem dX12_make_97 : decode cX12_make 97 = .ok (.aload_n 0, 1) := by decide +kernel
theorem dX12_make_98 : decode cX12_make 98 = .ok (.getfield 223, 3) := by decide +kernel
theorem dX12_marks_0 : decode cX12_marks 0 = .ok (.aload_n 0, 1) := by decide +kernel
theorem dX12_marks_1 : decode cX12_marks 1 = .ok (.getfield 72, 3) := by decide +kernel
theorem dX12_marks_10 : decode cX12_marks 10 = .ok (.imul, 1) := by decide +kernel
theorem dX12_marks_11 : decode cX12_marks 11 = .ok (.aload_n 0, 1) := by decide +kernel
theorem dX12_marks_12 : decode cX12_marks 12 = .ok (.getfield 75, 3) := by decide +kernel
theorem dX12_marks_15 : decode cX12_marks 15 = .ok (.aload_n 0, 1) := by decide +kernel
theorem dX12_marks_16 : decode cX12_marks 16 = .ok (.getfield 267, 3) := by decide +kernel
theorem dX12_marks_19 : decode cX12_marks 19 = .ok (.iaload, 1) := by decide +kernel
theorem dX12_marks_20 : decode cX12_marks 20 = .ok (.iadd, 1) := by decide +kernel
theorem dX12_marks_21 : decode cX12_marks 21 = .ok (.iload_n 1, 1) := by decide +kernel
theorem dX12_marks_22 : decode cX12_marks 22 = .ok (.iastore, 1) := by decide +kernel
theorem dX12_marks_23 : decode cX12_marks 23 = .ok (.aload_n 0, 1) := by decide +kernel
theorem dX12_marks_24 : decode cX12_marks 24 = .ok (.getfield 75, 3) := by decide +kernel
theorem dX12_marks_27 : decode cX12_marks 27 = .ok (.aload_n 0, 1) := by decide +kernel
theorem dX12_marks_28 : decode cX12_marks 28 = .ok (.getfield 267, 3) := by decide +kernel
theorem dX12_marks_31 : decode cX12_marks 31 = .ok (.dup2, 1) := by decide +kernel
theorem dX12_marks_32 : decode cX12_marks 32 = .ok (.iaload, 1) := by decide +kernel
theorem dX12_marks_33 : decode cX12_marks 33 = .ok (.iconst 1, 1) := by decide +kernel
theorem dX12_marks_34 : decode cX12_marks 34 = .ok (.iadd, 1) := by decide +kernel
theorem dX12_marks_35 : decode cX12_marks 35 = .ok (.iastore, 1) := by decide +kernel
theorem dX12_marks_36 : decode cX12_marks 36 = .ok (.return_, 1) := by decide +kernel
theorem dX12_marks_4 : decode cX12_marks 4 = .ok (.bipush 64, 2) := by decide +kernel
theorem dX12_marks_6 : decode cX12_marks 6 = .ok (.aload_n 0, 1) := by decide +kernel
theorem dX12_marks_7 : decode cX12_marks 7 = .ok (.getfield 267, 3) := by decide +kernel
theorem dX12_met_0 : decode cX12_met 0 = .ok (.aload_n 0, 1) := by decide +kernel
theorem dX12_met_1 : decode cX12_met 1 = .ok (.iconst 0, 1) := by decide +kernel
theorem dX12_met_12 : decode cX12_met 12 = .ok (.iload_n 2, 1) := by decide +kernel
theorem dX12_met_13 : decode cX12_met 13 = .ok (.invokestatic 208, 3) := by decide +kernel
theorem dX12_met_16 : decode cX12_met 16 = .ok (.ifCond .eq 17, 3) := by decide +kernel
theorem dX12_met_19 : decode cX12_met 19 = .ok (.iload_n 1, 1) := by decide +kernel
theorem dX12_met_2 : decode cX12_met 2 = .ok (.putfield 150, 3) := by decide +kernel
theorem dX12_met_20 : decode cX12_met 20 = .ok (.iload_n 2, 1) := by decide +kernel
theorem dX12_met_21 : decode cX12_met 21 = .ok (.if_icmp .eq 12, 3) := by decide +kernel
theorem dX12_met_24 : decode cX12_met 24 = .ok (.aload_n 0, 1) := by decide +kernel
theorem dX12_met_25 : decode cX12_met 25 = .ok (.iload_n 1, 1) := by decide +kernel
theorem dX12_met_26 : decode cX12_met 26 = .ok (.iload_n 2, 1) := by decide +kernel
theorem dX12_met_27 : decode cX12_met 27 = .ok (.invokevirtual 412, 3) := by decide +kernel
theorem dX12_met_30 : decode cX12_met 30 = .ok (.goto 4, 3) := by decide +kernel
theorem dX12_met_33 : decode cX12_met 33 = .ok (.iconst (-1), 1) := by decide +kernel
theorem dX12_met_34 : decode cX12_met 34 = .ok (.ireturn, 1) := by decide +kernel
theorem dX12_met_5 : decode cX12_met 5 = .ok (.iload_n 1, 1) := by decide +kernel
theorem dX12_met_6 : decode cX12_met 6 = .ok (.invokestatic 208, 3) := by decide +kernel
theorem dX12_met_9 : decode cX12_met 9 = .ok (.ifCond .eq 24, 3) := by decide +kernel
theorem dX12_mix_0 : decode cX12_mix 0 = .ok (.aload_n 0, 1) := by decide +kernel
theorem dX12_mix_1 : decode cX12_mix 1 = .ok (.iconst 0, 1) := by decide +kernel
theorem dX12_mix_10 : decode cX12_mix 10 = .ok (.ifCond .eq 61, 3) := by decide +kernel
theorem dX12_mix_100 : decode cX12_mix 100 = .ok (.getfield 87, 3) := by decide +kernel
theorem dX12_mix_103 : decode cX12_mix 103 = .ok (.iload 6, 2) := by decide +kernel
theorem dX12_mix_105 : decode cX12_mix 105 = .ok (.iaload, 1) := by decide +kernel
theorem dX12_mix_106 : decode cX12_mix 106 = .ok (.iastore, 1) := by decide +kernel
theorem dX12_mix_107 : decode cX12_mix 107 = .ok (.aload_n 0, 1) := by decide +kernel
theorem dX12_mix_108 : decode cX12_mix 108 = .ok (.getfield 87, 3) := by decide +kernel
theorem dX12_mix_111 : decode cX12_mix 111 = .ok (.iload 6, 2) := by decide +kernel
theorem dX12_mix_113 : decode cX12_mix 113 = .ok (.iconst 0, 1) := by decide +kernel
theorem dX12_mix_114 : decode cX12_mix 114 = .ok (.iastore, 1) := by decide +kernel
theorem dX12_mix_115 : decode cX12_mix 115 = .ok (.iinc 6 1, 3) := by decide +kernel
theorem dX12_mix_118 : decode cX12_mix 118 = .ok (.goto (-34), 3) := by decide +kernel
theorem dX12_mix_121 : decode cX12_mix 121 = .ok (.aload_n 0, 1) := by decide +kernel
theorem dX12_mix_122 : decode cX12_mix 122 = .ok (.iconst (-1), 1) := by decide +kernel
theorem dX12_mix_123 : decode cX12_mix 123 = .ok (.putfield 374, 3) := by decide +kernel
theorem dX12_mix_126 : decode cX12_mix 126 = .ok (.aload_n 0, 1) := by decide +kernel
theorem dX12_mix_127 : decode cX12_mix 127 = .ok (.iload_n 1, 1) := by decide +kernel
theorem dX12_mix_128 : decode cX12_mix 128 = .ok (.iload_n 2, 1) := by decide +kernel
theorem dX12_mix_129 : decode cX12_mix 129 = .ok (.iload_n 3, 1) := by decide +kernel
theorem dX12_mix_13 : decode cX12_mix 13 = .ok (.iload_n 2, 1) := by decide +kernel
theorem dX12_mix_130 : decode cX12_mix 130 = .ok (.iload 4, 2) := by decide +kernel
theorem dX12_mix_132 : decode cX12_mix 132 = .ok (.iconst 0, 1) := by decide +kernel
theorem dX12_mix_133 : decode cX12_mix 133 = .ok (.bipush 12, 2) := by decide +kernel
theorem dX12_mix_135 : decode cX12_mix 135 = .ok (.invokevirtual 377, 3) := by decide +kernel
theorem dX12_mix_138 : decode cX12_mix 138 = .ok (.iconst 0, 1) := by decide +kernel
theorem dX12_mix_139 : decode cX12_mix 139 = .ok (.istore 6, 2) := by decide +kernel
theorem dX12_mix_14 : decode cX12_mix 14 = .ok (.i2l, 1) := by decide +kernel
theorem dX12_mix_141 : decode cX12_mix 141 = .ok (.iload 6, 2) := by decide +kernel
theorem dX12_mix_143 : decode cX12_mix 143 = .ok (.aload_n 0, 1) := by decide +kernel
theorem dX12_mix_144 : decode cX12_mix 144 = .ok (.getfield 153, 3) := by decide +kernel
theorem dX12_mix_147 : decode cX12_mix 147 = .ok (.if_icmp .ge 40, 3) := by decide +kernel
theorem dX12_mix_15 : decode cX12_mix 15 = .ok (.lconst 1, 1) := by decide +kernel
theorem dX12_mix_150 : decode cX12_mix 150 = .ok (.aload_n 0, 1) := by decide +kernel
theorem dX12_mix_151 : decode cX12_mix 151 = .ok (.getfield 87, 3) := by decide +kernel
theorem dX12_mix_154 : decode cX12_mix 154 = .ok (.iload 6, 2) := by decide +kernel
theorem dX12_mix_156 : decode cX12_mix 156 = .ok (.aload_n 0, 1) := by decide +kernel
theorem dX12_mix_157 : decode cX12_mix 157 = .ok (.getfield 374, 3) := by decide +kernel
theorem dX12_mix_16 : decode cX12_mix 16 = .ok (.iconst 1, 1) := by decide +kernel
theorem dX12_mix_160 : decode cX12_mix 160 = .ok (.ifCond .ge 13, 3) := by decide +kernel
theorem dX12_mix_163 : decode cX12_mix 163 = .ok (.aload_n 0, 1) := by decide +kernel
theorem dX12_mix_164 : decode cX12_mix 164 = .ok (.getfield 96, 3) := by decide +kernel
theorem dX12_mix_167 : decode cX12_mix 167 = .ok (.iload 6, 2) := by decide +kernel
theorem dX12_mix_169 : decode cX12_mix 169 = .ok (.iaload, 1) := by decide +kernel
theorem dX12_mix_17 : decode cX12_mix 17 = .ok (.aload_n 0, 1) := by decide +kernel
theorem dX12_mix_170 : decode cX12_mix 170 = .ok (.goto 10, 3) := by decide +kernel
theorem dX12_mix_173 : decode cX12_mix 173 = .ok (.aload_n 0, 1) := by decide +kernel
theorem dX12_mix_174 : decode cX12_mix 174 = .ok (.getfield 99, 3) := by decide +kernel
theorem dX12_mix_177 : decode cX12_mix 177 = .ok (.iload 6, 2) := by decide +kernel
theorem dX12_mix_179 : decode cX12_mix 179 = .ok (.iaload, 1) := by decide +kernel
theorem dX12_mix_18 : decode cX12_mix 18 = .ok (.getfield 153, 3) := by decide +kernel
theorem dX12_mix_180 : decode cX12_mix 180 = .ok (.iastore, 1) := by decide +kernel
theorem dX12_mix_181 : decode cX12_mix 181 = .ok (.iinc 6 1, 3) := by decide +kernel
theorem dX12_mix_184 : decode cX12_mix 184 = .ok (.goto (-43), 3) := by decide +kernel
theorem dX12_mix_187 : decode cX12_mix 187 = .ok (.aload_n 0, 1) := by decide +kernel
theorem dX12_mix_188 : decode cX12_mix 188 = .ok (.getfield 374, 3) := by decide +kernel
theorem dX12_mix_191 : decode cX12_mix 191 = .ok (.ifCond .ge 8, 3) := by decide +kernel
theorem dX12_mix_194 : decode cX12_mix 194 = .ok (.bipush (-2), 2) := by decide +kernel
theorem dX12_mix_196 : decode cX12_mix 196 = .ok (.goto 7, 3) := by decide +kernel
theorem dX12_mix_199 : decode cX12_mix 199 = .ok (.aload_n 0, 1) := by decide +kernel
theorem dX12_mix_2 : decode cX12_mix 2 = .ok (.putfield 150, 3) := by decide +kernel
theorem dX12_mix_200 : decode cX12_mix 200 = .ok (.getfield 374, 3) := by decide +kernel
theorem dX12_mix_203 : decode cX12_mix 203 = .ok (.ireturn, 1) := by decide +kernel
theorem dX12_mix_21 : decode cX12_mix 21 = .ok (.ishl, 1) := by decide +kernel
theorem dX12_mix_22 : decode cX12_mix 22 = .ok (.iconst 1, 1) := by decide +kernel
theorem dX12_mix_23 : decode cX12_mix 23 = .ok (.isub, 1) := by decide +kernel
theorem dX12_mix_24 : decode cX12_mix 24 = .ok (.i2l, 1) := by decide +kernel
theorem dX12_mix_25 : decode cX12_mix 25 = .ok (.invokestatic 156, 3) := by decide +kernel
theorem dX12_mix_28 : decode cX12_mix 28 = .ok (.ifCond .eq 43, 3) := by decide +kernel
theorem dX12_mix_31 : decode cX12_mix 31 = .ok (.iload_n 2, 1) := by decide +kernel
theorem dX12_mix_32 : decode cX12_mix 32 = .ok (.invokestatic 381, 3) := by decide +kernel
theorem dX12_mix_35 : decode cX12_mix 35 = .ok (.bipush 6, 2) := by decide +kernel
theorem dX12_mix_37 : decode cX12_mix 37 = .ok (.if_icmp .gt 34, 3) := by decide +kernel
theorem dX12_mix_40 : decode cX12_mix 40 = .ok (.iload_n 3, 1) := by decide +kernel
theorem dX12_mix_41 : decode cX12_mix 41 = .ok (.i2l, 1) := by decide +kernel
theorem dX12_mix_42 : decode cX12_mix 42 = .ok (.lconst 0, 1) := by decide +kernel
theorem dX12_mix_43 : decode cX12_mix 43 = .ok (.ldc2_w 386, 3) := by decide +kernel
theorem dX12_mix_46 : decode cX12_mix 46 = .ok (.invokestatic 156, 3) := by decide +kernel
theorem dX12_mix_49 : decode cX12_mix 49 = .ok (.ifCond .eq 22, 3) := by decide +kernel
theorem dX12_mix_5 : decode cX12_mix 5 = .ok (.aload_n 0, 1) := by decide +kernel
theorem dX12_mix_52 : decode cX12_mix 52 = .ok (.iload_n 3, 1) := by decide +kernel
theorem dX12_mix_53 : decode cX12_mix 53 = .ok (.bipush 12, 2) := by decide +kernel
theorem dX12_mix_55 : decode cX12_mix 55 = .ok (.irem, 1) := by decide +kernel
theorem dX12_mix_56 : decode cX12_mix 56 = .ok (.ifCond .ne 15, 3) := by decide +kernel
theorem dX12_mix_59 : decode cX12_mix 59 = .ok (.iload 4, 2) := by decide +kernel
theorem dX12_mix_6 : decode cX12_mix 6 = .ok (.iload_n 1, 1) := by decide +kernel
theorem dX12_mix_61 : decode cX12_mix 61 = .ok (.invokestatic 170, 3) := by decide +kernel
theorem dX12_mix_64 : decode cX12_mix 64 = .ok (.ifCond .eq 7, 3) := by decide +kernel
theorem dX12_mix_67 : decode cX12_mix 67 = .ok (.iconst 1, 1) := by decide +kernel
theorem dX12_mix_68 : decode cX12_mix 68 = .ok (.goto 4, 3) := by decide +kernel
theorem dX12_mix_7 : decode cX12_mix 7 = .ok (.invokevirtual 362, 3) := by decide +kernel
theorem dX12_mix_71 : decode cX12_mix 71 = .ok (.iconst 0, 1) := by decide +kernel
theorem dX12_mix_72 : decode cX12_mix 72 = .ok (.istore 5, 2) := by decide +kernel
theorem dX12_mix_74 : decode cX12_mix 74 = .ok (.iload 5, 2) := by decide +kernel
theorem dX12_mix_76 : decode cX12_mix 76 = .ok (.ifCond .ne 5, 3) := by decide +kernel
theorem dX12_mix_79 : decode cX12_mix 79 = .ok (.iconst (-1), 1) := by decide +kernel
theorem dX12_mix_80 : decode cX12_mix 80 = .ok (.ireturn, 1) := by decide +kernel
theorem dX12_mix_81 : decode cX12_mix 81 = .ok (.iconst 0, 1) := by decide +kernel
theorem dX12_mix_82 : decode cX12_mix 82 = .ok (.istore 6, 2) := by decide +kernel
theorem dX12_mix_84 : decode cX12_mix 84 = .ok (.iload 6, 2) := by decide +kernel
theorem dX12_mix_86 : decode cX12_mix 86 = .ok (.aload_n 0, 1) := by decide +kernel
theorem dX12_mix_87 : decode cX12_mix 87 = .ok (.getfield 153, 3) := by decide +kernel
theorem dX12_mix_90 : decode cX12_mix 90 = .ok (.if_icmp .ge 31, 3) := by decide +kernel
theorem dX12_mix_93 : decode cX12_mix 93 = .ok (.aload_n 0, 1) := by decide +kernel
theorem dX12_mix_94 : decode cX12_mix 94 = .ok (.getfield 96, 3) := by decide +kernel
theorem dX12_mix_97 : decode cX12_mix 97 = .ok (.iload 6, 2) := by decide +kernel
theorem dX12_mix_99 : decode cX12_mix 99 = .ok (.aload_n 0, 1) := by decide +kernel
theorem dX12_mixes_0 : decode cX12_mixes 0 = .ok (.iload 5, 2) := by decide +kernel
theorem dX12_mixes_101 : decode cX12_mixes 101 = .ok (.ishr, 1) := by decide +kernel
theorem dX12_mixes_102 : decode cX12_mixes 102 = .ok (.iconst 1, 1) := by decide +kernel
theorem dX12_mixes_103 : decode cX12_mixes 103 = .ok (.iand, 1) := by decide +kernel
theorem dX12_mixes_104 : decode cX12_mixes 104 = .ok (.iconst 1, 1) := by decide +kernel
theorem dX12_mixes_105 : decode cX12_mixes 105 = .ok (.if_icmp .ne 8, 3) := by decide +kernel
theorem dX12_mixes_108 : decode cX12_mixes 108 = .ok (.iload 6, 2) := by decide +kernel
theorem dX12_mixes_11 : decode cX12_mixes 11 = .ok (.ifCond .ne 81, 3) := by decide +kernel
theorem dX12_mixes_110 : decode cX12_mixes 110 = .ok (.goto 4, 3) := by decide +kernel
theorem dX12_mixes_113 : decode cX12_mixes 113 = .ok (.iconst 0, 1) := by decide +kernel
theorem dX12_mixes_114 : decode cX12_mixes 114 = .ok (.if_icmp .gt 36, 3) := by decide +kernel
theorem dX12_mixes_117 : decode cX12_mixes 117 = .ok (.aload_n 0, 1) := by decide +kernel
theorem dX12_mixes_118 : decode cX12_mixes 118 = .ok (.getfield 87, 3) := by decide +kernel
theorem dX12_mixes_121 : decode cX12_mixes 121 = .ok (.iload 5, 2) := by decide +kernel
theorem dX12_mixes_123 : decode cX12_mixes 123 = .ok (.iload 7, 2) := by decide +kernel
theorem dX12_mixes_125 : decode cX12_mixes 125 = .ok (.iastore, 1) := by decide +kernel
theorem dX12_mixes_126 : decode cX12_mixes 126 = .ok (.aload_n 0, 1) := by decide +kernel
theorem dX12_mixes_127 : decode cX12_mixes 127 = .ok (.iload_n 1, 1) := by decide +kernel
theorem dX12_mixes_128 : decode cX12_mixes 128 = .ok (.iload_n 2, 1) := by decide +kernel
theorem dX12_mixes_129 : decode cX12_mixes 129 = .ok (.iload_n 3, 1) := by decide +kernel
theorem dX12_mixes_130 : decode cX12_mixes 130 = .ok (.iload 4, 2) := by decide +kernel
theorem dX12_mixes_132 : decode cX12_mixes 132 = .ok (.iload 5, 2) := by decide +kernel
theorem dX12_mixes_134 : decode cX12_mixes 134 = .ok (.iconst 1, 1) := by decide +kernel
theorem dX12_mixes_135 : decode cX12_mixes 135 = .ok (.iadd, 1) := by decide +kernel
theorem dX12_mixes_136 : decode cX12_mixes 136 = .ok (.iload 6, 2) := by decide +kernel
theorem dX12_mixes_138 : decode cX12_mixes 138 = .ok (.iload 7, 2) := by decide +kernel
theorem dX12_mixes_14 : decode cX12_mixes 14 = .ok (.aload_n 0, 1) := by decide +kernel
theorem dX12_mixes_140 : decode cX12_mixes 140 = .ok (.isub, 1) := by decide +kernel
theorem dX12_mixes_141 : decode cX12_mixes 141 = .ok (.invokevirtual 377, 3) := by decide +kernel
theorem dX12_mixes_144 : decode cX12_mixes 144 = .ok (.iinc 7 1, 3) := by decide +kernel
theorem dX12_mixes_147 : decode cX12_mixes 147 = .ok (.goto (-51), 3) := by decide +kernel
theorem dX12_mixes_15 : decode cX12_mixes 15 = .ok (.iload_n 3, 1) := by decide +kernel
theorem dX12_mixes_150 : decode cX12_mixes 150 = .ok (.aload_n 0, 1) := by decide +kernel
theorem dX12_mixes_151 : decode cX12_mixes 151 = .ok (.getfield 87, 3) := by decide +kernel
theorem dX12_mixes_154 : decode cX12_mixes 154 = .ok (.iload 5, 2) := by decide +kernel
theorem dX12_mixes_156 : decode cX12_mixes 156 = .ok (.iconst 0, 1) := by decide +kernel
theorem dX12_mixes_157 : decode cX12_mixes 157 = .ok (.iastore, 1) := by decide +kernel
theorem dX12_mixes_158 : decode cX12_mixes 158 = .ok (.return_, 1) := by decide +kernel
theorem dX12_mixes_16 : decode cX12_mixes 16 = .ok (.invokevirtual 371, 3) := by decide +kernel
theorem dX12_mixes_19 : decode cX12_mixes 19 = .ok (.ifCond .eq 73, 3) := by decide +kernel
theorem dX12_mixes_2 : decode cX12_mixes 2 = .ok (.aload_n 0, 1) := by decide +kernel
theorem dX12_mixes_22 : decode cX12_mixes 22 = .ok (.aload_n 0, 1) := by decide +kernel
theorem dX12_mixes_23 : decode cX12_mixes 23 = .ok (.iload_n 1, 1) := by decide +kernel
theorem dX12_mixes_24 : decode cX12_mixes 24 = .ok (.invokevirtual 365, 3) := by decide +kernel
theorem dX12_mixes_27 : decode cX12_mixes 27 = .ok (.ifCond .ge 65, 3) := by decide +kernel
theorem dX12_mixes_3 : decode cX12_mixes 3 = .ok (.getfield 153, 3) := by decide +kernel
theorem dX12_mixes_30 : decode cX12_mixes 30 = .ok (.aload_n 0, 1) := by decide +kernel
theorem dX12_mixes_31 : decode cX12_mixes 31 = .ok (.getfield 374, 3) := by decide +kernel
theorem dX12_mixes_34 : decode cX12_mixes 34 = .ok (.ifCond .lt 16, 3) := by decide +kernel
theorem dX12_mixes_37 : decode cX12_mixes 37 = .ok (.aload_n 0, 1) := by decide +kernel
theorem dX12_mixes_38 : decode cX12_mixes 38 = .ok (.iload 4, 2) := by decide +kernel
theorem dX12_mixes_40 : decode cX12_mixes 40 = .ok (.invokevirtual 368, 3) := by decide +kernel
theorem dX12_mixes_43 : decode cX12_mixes 43 = .ok (.aload_n 0, 1) := by decide +kernel
theorem dX12_mixes_44 : decode cX12_mixes 44 = .ok (.getfield 374, 3) := by decide +kernel
theorem dX12_mixes_47 : decode cX12_mixes 47 = .ok (.if_icmp .ge 45, 3) := by decide +kernel
theorem dX12_mixes_50 : decode cX12_mixes 50 = .ok (.aload_n 0, 1) := by decide +kernel
theorem dX12_mixes_51 : decode cX12_mixes 51 = .ok (.aload_n 0, 1) := by decide +kernel
theorem dX12_mixes_52 : decode cX12_mixes 52 = .ok (.iload 4, 2) := by decide +kernel
theorem dX12_mixes_54 : decode cX12_mixes 54 = .ok (.invokevirtual 368, 3) := by decide +kernel
theorem dX12_mixes_57 : decode cX12_mixes 57 = .ok (.putfield 374, 3) := by decide +kernel
theorem dX12_mixes_6 : decode cX12_mixes 6 = .ok (.if_icmp .ne 87, 3) := by decide +kernel
theorem dX12_mixes_60 : decode cX12_mixes 60 = .ok (.iconst 0, 1) := by decide +kernel
theorem dX12_mixes_61 : decode cX12_mixes 61 = .ok (.istore 7, 2) := by decide +kernel
theorem dX12_mixes_63 : decode cX12_mixes 63 = .ok (.iload 7, 2) := by decide +kernel
theorem dX12_mixes_65 : decode cX12_mixes 65 = .ok (.aload_n 0, 1) := by decide +kernel
theorem dX12_mixes_66 : decode cX12_mixes 66 = .ok (.getfield 153, 3) := by decide +kernel
theorem dX12_mixes_69 : decode cX12_mixes 69 = .ok (.if_icmp .ge 23, 3) := by decide +kernel
theorem dX12_mixes_72 : decode cX12_mixes 72 = .ok (.aload_n 0, 1) := by decide +kernel
theorem dX12_mixes_73 : decode cX12_mixes 73 = .ok (.getfield 99, 3) := by decide +kernel
theorem dX12_mixes_76 : decode cX12_mixes 76 = .ok (.iload 7, 2) := by decide +kernel
theorem dX12_mixes_78 : decode cX12_mixes 78 = .ok (.aload_n 0, 1) := by decide +kernel
theorem dX12_mixes_79 : decode cX12_mixes 79 = .ok (.getfield 87, 3) := by decide +kernel
theorem dX12_mixes_82 : decode cX12_mixes 82 = .ok (.iload 7, 2) := by decide +kernel
theorem dX12_mixes_84 : decode cX12_mixes 84 = .ok (.iaload, 1) := by decide +kernel
theorem dX12_mixes_85 : decode cX12_mixes 85 = .ok (.iastore, 1) := by decide +kernel
theorem dX12_mixes_86 : decode cX12_mixes 86 = .ok (.iinc 7 1, 3) := by decide +kernel
theorem dX12_mixes_89 : decode cX12_mixes 89 = .ok (.goto (-26), 3) := by decide +kernel
theorem dX12_mixes_9 : decode cX12_mixes 9 = .ok (.iload 6, 2) := by decide +kernel
theorem dX12_mixes_92 : decode cX12_mixes 92 = .ok (.return_, 1) := by decide +kernel
theorem dX12_mixes_93 : decode cX12_mixes 93 = .ok (.iconst 0, 1) := by decide +kernel
theorem dX12_mixes_94 : decode cX12_mixes 94 = .ok (.istore 7, 2) := by decide +kernel
theorem dX12_mixes_96 : decode cX12_mixes 96 = .ok (.iload 7, 2) := by decide +kernel
theorem dX12_mixes_98 : decode cX12_mixes 98 = .ok (.iload_n 2, 1) := by decide +kernel
theorem dX12_mixes_99 : decode cX12_mixes 99 = .ok (.iload 5, 2) := by decide +kernel
theorem dX12_moth_0 : decode cX12_moth 0 = .ok (.aload_n 0, 1) := by decide +kernel
theorem dX12_moth_1 : decode cX12_moth 1 = .ok (.iconst 0, 1) := by decide +kernel
theorem dX12_moth_10 : decode cX12_moth 10 = .ok (.ifCond .ne 5, 3) := by decide +kernel
theorem dX12_moth_13 : decode cX12_moth 13 = .ok (.iconst (-1), 1) := by decide +kernel
theorem dX12_moth_14 : decode cX12_moth 14 = .ok (.ireturn, 1) := by decide +kernel
theorem dX12_moth_15 : decode cX12_moth 15 = .ok (.iconst 0, 1) := by decide +kernel
theorem dX12_moth_16 : decode cX12_moth 16 = .ok (.istore_n 2, 1) := by decide +kernel
theorem dX12_moth_17 : decode cX12_moth 17 = .ok (.iconst 0, 1) := by decide +kernel
theorem dX12_moth_18 : decode cX12_moth 18 = .ok (.istore_n 3, 1) := by decide +kernel
theorem dX12_moth_19 : decode cX12_moth 19 = .ok (.iload_n 3, 1) := by decide +kernel
theorem dX12_moth_2 : decode cX12_moth 2 = .ok (.putfield 150, 3) := by decide +kernel
theorem dX12_moth_20 : decode cX12_moth 20 = .ok (.aload_n 0, 1) := by decide +kernel
theorem dX12_moth_21 : decode cX12_moth 21 = .ok (.getfield 153, 3) := by decide +kernel
theorem dX12_moth_24 : decode cX12_moth 24 = .ok (.if_icmp .ge 35, 3) := by decide +kernel
theorem dX12_moth_27 : decode cX12_moth 27 = .ok (.iload_n 2, 1) := by decide +kernel
theorem dX12_moth_28 : decode cX12_moth 28 = .ok (.aload_n 0, 1) := by decide +kernel
theorem dX12_moth_29 : decode cX12_moth 29 = .ok (.getfield 43, 3) := by decide +kernel
theorem dX12_moth_32 : decode cX12_moth 32 = .ok (.bipush 24, 2) := by decide +kernel
theorem dX12_moth_34 : decode cX12_moth 34 = .ok (.iload_n 3, 1) := by decide +kernel
theorem dX12_moth_35 : decode cX12_moth 35 = .ok (.imul, 1) := by decide +kernel
theorem dX12_moth_36 : decode cX12_moth 36 = .ok (.iload_n 1, 1) := by decide +kernel
theorem dX12_moth_37 : decode cX12_moth 37 = .ok (.iadd, 1) := by decide +kernel
theorem dX12_moth_38 : decode cX12_moth 38 = .ok (.iaload, 1) := by decide +kernel
theorem dX12_moth_39 : decode cX12_moth 39 = .ok (.iadd, 1) := by decide +kernel
theorem dX12_moth_40 : decode cX12_moth 40 = .ok (.istore_n 2, 1) := by decide +kernel
theorem dX12_moth_41 : decode cX12_moth 41 = .ok (.aload_n 0, 1) := by decide +kernel
theorem dX12_moth_42 : decode cX12_moth 42 = .ok (.getfield 43, 3) := by decide +kernel
theorem dX12_moth_45 : decode cX12_moth 45 = .ok (.bipush 24, 2) := by decide +kernel
theorem dX12_moth_47 : decode cX12_moth 47 = .ok (.iload_n 3, 1) := by decide +kernel
theorem dX12_moth_48 : decode cX12_moth 48 = .ok (.imul, 1) := by decide +kernel
theorem dX12_moth_49 : decode cX12_moth 49 = .ok (.iload_n 1, 1) := by decide +kernel
theorem dX12_moth_5 : decode cX12_moth 5 = .ok (.aload_n 0, 1) := by decide +kernel
theorem dX12_moth_50 : decode cX12_moth 50 = .ok (.iadd, 1) := by decide +kernel
theorem dX12_moth_51 : decode cX12_moth 51 = .ok (.iconst 0, 1) := by decide +kernel
theorem dX12_moth_52 : decode cX12_moth 52 = .ok (.iastore, 1) := by decide +kernel
theorem dX12_moth_53 : decode cX12_moth 53 = .ok (.iinc 3 1, 3) := by decide +kernel
theorem dX12_moth_56 : decode cX12_moth 56 = .ok (.goto (-37), 3) := by decide +kernel
theorem dX12_moth_59 : decode cX12_moth 59 = .ok (.aload_n 0, 1) := by decide +kernel
theorem dX12_moth_6 : decode cX12_moth 6 = .ok (.iload_n 1, 1) := by decide +kernel
theorem dX12_moth_60 : decode cX12_moth 60 = .ok (.getfield 37, 3) := by decide +kernel
theorem dX12_moth_63 : decode cX12_moth 63 = .ok (.iload_n 1, 1) := by decide +kernel
theorem dX12_moth_64 : decode cX12_moth 64 = .ok (.dup2, 1) := by decide +kernel
theorem dX12_moth_65 : decode cX12_moth 65 = .ok (.iaload, 1) := by decide +kernel
theorem dX12_moth_66 : decode cX12_moth 66 = .ok (.iload_n 2, 1) := by decide +kernel
theorem dX12_moth_67 : decode cX12_moth 67 = .ok (.iadd, 1) := by decide +kernel
theorem dX12_moth_68 : decode cX12_moth 68 = .ok (.iastore, 1) := by decide +kernel
theorem dX12_moth_69 : decode cX12_moth 69 = .ok (.iload_n 2, 1) := by decide +kernel
theorem dX12_moth_7 : decode cX12_moth 7 = .ok (.invokevirtual 205, 3) := by decide +kernel
theorem dX12_moth_70 : decode cX12_moth 70 = .ok (.ireturn, 1) := by decide +kernel
theorem dX12_of_0 : decode cX12_of 0 = .ok (.aload_n 0, 1) := by decide +kernel
theorem dX12_of_1 : decode cX12_of 1 = .ok (.iconst 0, 1) := by decide +kernel
theorem dX12_of_10 : decode cX12_of 10 = .ok (.ifCond .ne 5, 3) := by decide +kernel
theorem dX12_of_13 : decode cX12_of 13 = .ok (.iconst (-1), 1) := by decide +kernel
theorem dX12_of_132 : decode cX12_of 132 = .ok (.aload_n 0, 1) := by decide +kernel
theorem dX12_of_133 : decode cX12_of 133 = .ok (.getfield 28, 3) := by decide +kernel
theorem dX12_of_136 : decode cX12_of 136 = .ok (.iload_n 1, 1) := by decide +kernel
theorem dX12_of_137 : decode cX12_of 137 = .ok (.iaload, 1) := by decide +kernel
theorem dX12_of_138 : decode cX12_of 138 = .ok (.ireturn, 1) := by decide +kernel
theorem dX12_of_139 : decode cX12_of 139 = .ok (.aload_n 0, 1) := by decide +kernel
theorem dX12_of_14 : decode cX12_of 14 = .ok (.ireturn, 1) := by decide +kernel
theorem dX12_of_140 : decode cX12_of 140 = .ok (.getfield 34, 3) := by decide +kernel
theorem dX12_of_143 : decode cX12_of 143 = .ok (.iload_n 1, 1) := by decide +kernel
theorem dX12_of_144 : decode cX12_of 144 = .ok (.iaload, 1) := by decide +kernel
theorem dX12_of_145 : decode cX12_of 145 = .ok (.ifCond .ge 7, 3) := by decide +kernel
theorem dX12_of_148 : decode cX12_of 148 = .ok (.iconst (-1), 1) := by decide +kernel
theorem dX12_of_149 : decode cX12_of 149 = .ok (.goto 8, 3) := by decide +kernel
theorem dX12_of_15 : decode cX12_of 15 = .ok (.iconst 0, 1) := by decide +kernel
theorem dX12_of_152 : decode cX12_of 152 = .ok (.aload_n 0, 1) := by decide +kernel
theorem dX12_of_153 : decode cX12_of 153 = .ok (.iload_n 1, 1) := by decide +kernel
theorem dX12_of_154 : decode cX12_of 154 = .ok (.invokevirtual 217, 3) := by decide +kernel
theorem dX12_of_157 : decode cX12_of 157 = .ok (.ireturn, 1) := by decide +kernel
theorem dX12_of_158 : decode cX12_of 158 = .ok (.aload_n 0, 1) := by decide +kernel
theorem dX12_of_159 : decode cX12_of 159 = .ok (.getfield 34, 3) := by decide +kernel
theorem dX12_of_16 : decode cX12_of 16 = .ok (.istore_n 3, 1) := by decide +kernel
theorem dX12_of_162 : decode cX12_of 162 = .ok (.iload_n 1, 1) := by decide +kernel
theorem dX12_of_163 : decode cX12_of 163 = .ok (.iaload, 1) := by decide +kernel
theorem dX12_of_164 : decode cX12_of 164 = .ok (.ireturn, 1) := by decide +kernel
theorem dX12_of_165 : decode cX12_of 165 = .ok (.iload_n 3, 1) := by decide +kernel
theorem dX12_of_166 : decode cX12_of 166 = .ok (.ireturn, 1) := by decide +kernel
theorem dX12_of_167 : decode cX12_of 167 = .ok (.iload_n 3, 1) := by decide +kernel
theorem dX12_of_168 : decode cX12_of 168 = .ok (.ireturn, 1) := by decide +kernel
theorem dX12_of_169 : decode cX12_of 169 = .ok (.aload_n 0, 1) := by decide +kernel
theorem dX12_of_17 : decode cX12_of 17 = .ok (.iconst 0, 1) := by decide +kernel
theorem dX12_of_170 : decode cX12_of 170 = .ok (.getfield 37, 3) := by decide +kernel
theorem dX12_of_173 : decode cX12_of 173 = .ok (.iload_n 1, 1) := by decide +kernel
theorem dX12_of_174 : decode cX12_of 174 = .ok (.iaload, 1) := by decide +kernel
theorem dX12_of_175 : decode cX12_of 175 = .ok (.ireturn, 1) := by decide +kernel
theorem dX12_of_176 : decode cX12_of 176 = .ok (.iconst (-1), 1) := by decide +kernel
theorem dX12_of_177 : decode cX12_of 177 = .ok (.ireturn, 1) := by decide +kernel
theorem dX12_of_18 : decode cX12_of 18 = .ok (.istore 4, 2) := by decide +kernel
theorem dX12_of_2 : decode cX12_of 2 = .ok (.putfield 150, 3) := by decide +kernel
theorem dX12_of_20 : decode cX12_of 20 = .ok (.iload 4, 2) := by decide +kernel
theorem dX12_of_22 : decode cX12_of 22 = .ok (.aload_n 0, 1) := by decide +kernel
theorem dX12_of_23 : decode cX12_of 23 = .ok (.getfield 153, 3) := by decide +kernel
theorem dX12_of_26 : decode cX12_of 26 = .ok (.if_icmp .ge 29, 3) := by decide +kernel
theorem dX12_of_29 : decode cX12_of 29 = .ok (.iload_n 2, 1) := by decide +kernel
theorem dX12_of_30 : decode cX12_of 30 = .ok (.iconst 3, 1) := by decide +kernel
theorem dX12_of_31 : decode cX12_of 31 = .ok (.if_icmp .ne 24, 3) := by decide +kernel
theorem dX12_of_34 : decode cX12_of 34 = .ok (.iload_n 3, 1) := by decide +kernel
theorem dX12_of_35 : decode cX12_of 35 = .ok (.aload_n 0, 1) := by decide +kernel
theorem dX12_of_36 : decode cX12_of 36 = .ok (.getfield 43, 3) := by decide +kernel
theorem dX12_of_39 : decode cX12_of 39 = .ok (.bipush 24, 2) := by decide +kernel
theorem dX12_of_41 : decode cX12_of 41 = .ok (.iload 4, 2) := by decide +kernel
theorem dX12_of_43 : decode cX12_of 43 = .ok (.imul, 1) := by decide +kernel
theorem dX12_of_44 : decode cX12_of 44 = .ok (.iload_n 1, 1) := by decide +kernel
theorem dX12_of_45 : decode cX12_of 45 = .ok (.iadd, 1) := by decide +kernel
theorem dX12_of_46 : decode cX12_of 46 = .ok (.iaload, 1) := by decide +kernel
theorem dX12_of_47 : decode cX12_of 47 = .ok (.iadd, 1) := by decide +kernel
theorem dX12_of_48 : decode cX12_of 48 = .ok (.istore_n 3, 1) := by decide +kernel
theorem dX12_of_49 : decode cX12_of 49 = .ok (.iinc 4 1, 3) := by decide +kernel
theorem dX12_of_5 : decode cX12_of 5 = .ok (.aload_n 0, 1) := by decide +kernel
theorem dX12_of_52 : decode cX12_of 52 = .ok (.goto (-32), 3) := by decide +kernel
theorem dX12_of_55 : decode cX12_of 55 = .ok (.iconst 0, 1) := by decide +kernel
theorem dX12_of_56 : decode cX12_of 56 = .ok (.istore 4, 2) := by decide +kernel
theorem dX12_of_58 : decode cX12_of 58 = .ok (.iload 4, 2) := by decide +kernel
theorem dX12_of_6 : decode cX12_of 6 = .ok (.iload_n 1, 1) := by decide +kernel
theorem dX12_of_60 : decode cX12_of 60 = .ok (.aload_n 0, 1) := by decide +kernel
theorem dX12_of_61 : decode cX12_of 61 = .ok (.getfield 223, 3) := by decide +kernel
theorem dX12_of_64 : decode cX12_of 64 = .ok (.if_icmp .ge 29, 3) := by decide +kernel
theorem dX12_of_67 : decode cX12_of 67 = .ok (.iload_n 2, 1) := by decide +kernel
theorem dX12_of_68 : decode cX12_of 68 = .ok (.iconst 4, 1) := by decide +kernel
theorem dX12_of_69 : decode cX12_of 69 = .ok (.if_icmp .ne 24, 3) := by decide +kernel
theorem dX12_of_7 : decode cX12_of 7 = .ok (.invokevirtual 205, 3) := by decide +kernel
theorem dX12_of_72 : decode cX12_of 72 = .ok (.iload_n 3, 1) := by decide +kernel
theorem dX12_of_73 : decode cX12_of 73 = .ok (.aload_n 0, 1) := by decide +kernel
theorem dX12_of_74 : decode cX12_of 74 = .ok (.getfield 90, 3) := by decide +kernel
theorem dX12_of_77 : decode cX12_of 77 = .ok (.bipush 24, 2) := by decide +kernel
theorem dX12_of_79 : decode cX12_of 79 = .ok (.iload 4, 2) := by decide +kernel
theorem dX12_of_81 : decode cX12_of 81 = .ok (.imul, 1) := by decide +kernel
theorem dX12_of_82 : decode cX12_of 82 = .ok (.iload_n 1, 1) := by decide +kernel
theorem dX12_of_83 : decode cX12_of 83 = .ok (.iadd, 1) := by decide +kernel
theorem dX12_of_84 : decode cX12_of 84 = .ok (.iaload, 1) := by decide +kernel
theorem dX12_of_85 : decode cX12_of 85 = .ok (.iadd, 1) := by decide +kernel
theorem dX12_of_86 : decode cX12_of 86 = .ok (.istore_n 3, 1) := by decide +kernel
theorem dX12_of_87 : decode cX12_of 87 = .ok (.iinc 4 1, 3) := by decide +kernel
theorem dX12_of_90 : decode cX12_of 90 = .ok (.goto (-32), 3) := by decide +kernel
theorem dX12_of_93 : decode cX12_of 93 = .ok (.iload_n 2, 1) := by decide +kernel
theorem dX12_of_94 : decode cX12_of 94 = .ok (.tableswitch 82 0 5 #[38, 45, 64, 71, 73, 75], 38) := by decide +kernel
theorem dX12_offOf_0 : decode cX12_offOf 0 = .ok (.aload_n 0, 1) := by decide +kernel
theorem dX12_offOf_1 : decode cX12_offOf 1 = .ok (.iload_n 1, 1) := by decide +kernel
theorem dX12_offOf_100 : decode cX12_offOf 100 = .ok (.iaload, 1) := by decide +kernel
theorem dX12_offOf_101 : decode cX12_offOf 101 = .ok (.isub, 1) := by decide +kernel
theorem dX12_offOf_102 : decode cX12_offOf 102 = .ok (.imul, 1) := by decide +kernel
theorem dX12_offOf_103 : decode cX12_offOf 103 = .ok (.sipush 1000, 3) := by decide +kernel
theorem dX12_offOf_106 : decode cX12_offOf 106 = .ok (.idiv, 1) := by decide +kernel
theorem dX12_offOf_107 : decode cX12_offOf 107 = .ok (.istore 5, 2) := by decide +kernel
theorem dX12_offOf_109 : decode cX12_offOf 109 = .ok (.aload_n 0, 1) := by decide +kernel
theorem dX12_offOf_11 : decode cX12_offOf 11 = .ok (.iconst (-1), 1) := by decide +kernel
theorem dX12_offOf_110 : decode cX12_offOf 110 = .ok (.invokevirtual 235, 3) := by decide +kernel
theorem dX12_offOf_113 : decode cX12_offOf 113 = .ok (.aload_n 0, 1) := by decide +kernel
theorem dX12_offOf_114 : decode cX12_offOf 114 = .ok (.bipush 108, 2) := by decide +kernel
theorem dX12_offOf_116 : decode cX12_offOf 116 = .ok (.iconst 0, 1) := by decide +kernel
theorem dX12_offOf_117 : decode cX12_offOf 117 = .ok (.aload_n 0, 1) := by decide +kernel
theorem dX12_offOf_118 : decode cX12_offOf 118 = .ok (.getfield 28, 3) := by decide +kernel
theorem dX12_offOf_12 : decode cX12_offOf 12 = .ok (.ireturn, 1) := by decide +kernel
theorem dX12_offOf_121 : decode cX12_offOf 121 = .ok (.iload_n 1, 1) := by decide +kernel
theorem dX12_offOf_122 : decode cX12_offOf 122 = .ok (.iaload, 1) := by decide +kernel
theorem dX12_offOf_123 : decode cX12_offOf 123 = .ok (.iload 5, 2) := by decide +kernel
theorem dX12_offOf_125 : decode cX12_offOf 125 = .ok (.isub, 1) := by decide +kernel
theorem dX12_offOf_126 : decode cX12_offOf 126 = .ok (.sipush 1000, 3) := by decide +kernel
theorem dX12_offOf_129 : decode cX12_offOf 129 = .ok (.imul, 1) := by decide +kernel
theorem dX12_offOf_13 : decode cX12_offOf 13 = .ok (.aload_n 0, 1) := by decide +kernel
theorem dX12_offOf_130 : decode cX12_offOf 130 = .ok (.aload_n 0, 1) := by decide +kernel
theorem dX12_offOf_131 : decode cX12_offOf 131 = .ok (.getfield 28, 3) := by decide +kernel
theorem dX12_offOf_134 : decode cX12_offOf 134 = .ok (.iload_n 1, 1) := by decide +kernel
theorem dX12_offOf_135 : decode cX12_offOf 135 = .ok (.iaload, 1) := by decide +kernel
theorem dX12_offOf_136 : decode cX12_offOf 136 = .ok (.idiv, 1) := by decide +kernel
theorem dX12_offOf_137 : decode cX12_offOf 137 = .ok (.invokestatic 238, 3) := by decide +kernel
theorem dX12_offOf_14 : decode cX12_offOf 14 = .ok (.getfield 68, 3) := by decide +kernel
theorem dX12_offOf_140 : decode cX12_offOf 140 = .ok (.invokevirtual 243, 3) := by decide +kernel
theorem dX12_offOf_143 : decode cX12_offOf 143 = .ok (.aload_n 0, 1) := by decide +kernel
theorem dX12_offOf_144 : decode cX12_offOf 144 = .ok (.bipush 100, 2) := by decide +kernel
theorem dX12_offOf_146 : decode cX12_offOf 146 = .ok (.aload_n 0, 1) := by decide +kernel
theorem dX12_offOf_147 : decode cX12_offOf 147 = .ok (.getfield 61, 3) := by decide +kernel
theorem dX12_offOf_150 : decode cX12_offOf 150 = .ok (.iload_n 3, 1) := by decide +kernel
theorem dX12_offOf_151 : decode cX12_offOf 151 = .ok (.iaload, 1) := by decide +kernel
theorem dX12_offOf_152 : decode cX12_offOf 152 = .ok (.invokevirtual 243, 3) := by decide +kernel
theorem dX12_offOf_155 : decode cX12_offOf 155 = .ok (.aload_n 0, 1) := by decide +kernel
theorem dX12_offOf_156 : decode cX12_offOf 156 = .ok (.bipush 107, 2) := by decide +kernel
theorem dX12_offOf_158 : decode cX12_offOf 158 = .ok (.aload_n 0, 1) := by decide +kernel
theorem dX12_offOf_159 : decode cX12_offOf 159 = .ok (.getfield 34, 3) := by decide +kernel
theorem dX12_offOf_162 : decode cX12_offOf 162 = .ok (.iload_n 1, 1) := by decide +kernel
theorem dX12_offOf_163 : decode cX12_offOf 163 = .ok (.iaload, 1) := by decide +kernel
theorem dX12_offOf_164 : decode cX12_offOf 164 = .ok (.ifCond .ge 7, 3) := by decide +kernel
theorem dX12_offOf_167 : decode cX12_offOf 167 = .ok (.iconst 0, 1) := by decide +kernel
theorem dX12_offOf_168 : decode cX12_offOf 168 = .ok (.goto 19, 3) := by decide +kernel
theorem dX12_offOf_17 : decode cX12_offOf 17 = .ok (.aload_n 0, 1) := by decide +kernel
theorem dX12_offOf_171 : decode cX12_offOf 171 = .ok (.aload_n 0, 1) := by decide +kernel
theorem dX12_offOf_172 : decode cX12_offOf 172 = .ok (.iload_n 1, 1) := by decide +kernel
theorem dX12_offOf_173 : decode cX12_offOf 173 = .ok (.invokevirtual 217, 3) := by decide +kernel
theorem dX12_offOf_176 : decode cX12_offOf 176 = .ok (.sipush 1000, 3) := by decide +kernel
theorem dX12_offOf_179 : decode cX12_offOf 179 = .ok (.imul, 1) := by decide +kernel
theorem dX12_offOf_18 : decode cX12_offOf 18 = .ok (.getfield 22, 3) := by decide +kernel
theorem dX12_offOf_180 : decode cX12_offOf 180 = .ok (.aload_n 0, 1) := by decide +kernel
theorem dX12_offOf_181 : decode cX12_offOf 181 = .ok (.getfield 28, 3) := by decide +kernel
theorem dX12_offOf_184 : decode cX12_offOf 184 = .ok (.iload_n 1, 1) := by decide +kernel
theorem dX12_offOf_185 : decode cX12_offOf 185 = .ok (.iaload, 1) := by decide +kernel
theorem dX12_offOf_186 : decode cX12_offOf 186 = .ok (.idiv, 1) := by decide +kernel
theorem dX12_offOf_187 : decode cX12_offOf 187 = .ok (.invokevirtual 243, 3) := by decide +kernel
theorem dX12_offOf_190 : decode cX12_offOf 190 = .ok (.aload_n 0, 1) := by decide +kernel
theorem dX12_offOf_191 : decode cX12_offOf 191 = .ok (.bipush 111, 2) := by decide +kernel
theorem dX12_offOf_193 : decode cX12_offOf 193 = .ok (.aload_n 0, 1) := by decide +kernel
theorem dX12_offOf_194 : decode cX12_offOf 194 = .ok (.getfield 34, 3) := by decide +kernel
theorem dX12_offOf_197 : decode cX12_offOf 197 = .ok (.iload_n 1, 1) := by decide +kernel
theorem dX12_offOf_198 : decode cX12_offOf 198 = .ok (.iaload, 1) := by decide +kernel
theorem dX12_offOf_199 : decode cX12_offOf 199 = .ok (.ifCond .ge 7, 3) := by decide +kernel
theorem dX12_offOf_2 : decode cX12_offOf 2 = .ok (.iload_n 2, 1) := by decide +kernel
theorem dX12_offOf_202 : decode cX12_offOf 202 = .ok (.iconst 0, 1) := by decide +kernel
theorem dX12_offOf_203 : decode cX12_offOf 203 = .ok (.goto 16, 3) := by decide +kernel
theorem dX12_offOf_206 : decode cX12_offOf 206 = .ok (.iload 4, 2) := by decide +kernel
theorem dX12_offOf_208 : decode cX12_offOf 208 = .ok (.sipush 1000, 3) := by decide +kernel
theorem dX12_offOf_21 : decode cX12_offOf 21 = .ok (.iload_n 1, 1) := by decide +kernel
theorem dX12_offOf_211 : decode cX12_offOf 211 = .ok (.imul, 1) := by decide +kernel
theorem dX12_offOf_212 : decode cX12_offOf 212 = .ok (.aload_n 0, 1) := by decide +kernel
theorem dX12_offOf_213 : decode cX12_offOf 213 = .ok (.getfield 28, 3) := by decide +kernel
theorem dX12_offOf_216 : decode cX12_offOf 216 = .ok (.iload_n 1, 1) := by decide +kernel
theorem dX12_offOf_217 : decode cX12_offOf 217 = .ok (.iaload, 1) := by decide +kernel
theorem dX12_offOf_218 : decode cX12_offOf 218 = .ok (.idiv, 1) := by decide +kernel
theorem dX12_offOf_219 : decode cX12_offOf 219 = .ok (.invokevirtual 243, 3) := by decide +kernel
theorem dX12_offOf_22 : decode cX12_offOf 22 = .ok (.iaload, 1) := by decide +kernel
theorem dX12_offOf_222 : decode cX12_offOf 222 = .ok (.aload_n 0, 1) := by decide +kernel
theorem dX12_offOf_223 : decode cX12_offOf 223 = .ok (.bipush 113, 2) := by decide +kernel
theorem dX12_offOf_225 : decode cX12_offOf 225 = .ok (.aload_n 0, 1) := by decide +kernel
theorem dX12_offOf_226 : decode cX12_offOf 226 = .ok (.getfield 25, 3) := by decide +kernel
theorem dX12_offOf_229 : decode cX12_offOf 229 = .ok (.iload_n 1, 1) := by decide +kernel
theorem dX12_offOf_23 : decode cX12_offOf 23 = .ok (.baload, 1) := by decide +kernel
theorem dX12_offOf_230 : decode cX12_offOf 230 = .ok (.iaload, 1) := by decide +kernel
theorem dX12_offOf_231 : decode cX12_offOf 231 = .ok (.invokevirtual 243, 3) := by decide +kernel
theorem dX12_offOf_234 : decode cX12_offOf 234 = .ok (.iconst 0, 1) := by decide +kernel
theorem dX12_offOf_235 : decode cX12_offOf 235 = .ok (.sipush 1000, 3) := by decide +kernel
theorem dX12_offOf_238 : decode cX12_offOf 238 = .ok (.aload_n 0, 1) := by decide +kernel
theorem dX12_offOf_239 : decode cX12_offOf 239 = .ok (.aload_n 0, 1) := by decide +kernel
theorem dX12_offOf_24 : decode cX12_offOf 24 = .ok (.ifCond .ne 5, 3) := by decide +kernel
theorem dX12_offOf_240 : decode cX12_offOf 240 = .ok (.getfield 22, 3) := by decide +kernel
theorem dX12_offOf_243 : decode cX12_offOf 243 = .ok (.iload_n 1, 1) := by decide +kernel
theorem dX12_offOf_244 : decode cX12_offOf 244 = .ok (.iaload, 1) := by decide +kernel
theorem dX12_offOf_245 : decode cX12_offOf 245 = .ok (.invokevirtual 247, 3) := by decide +kernel
theorem dX12_offOf_248 : decode cX12_offOf 248 = .ok (.invokestatic 250, 3) := by decide +kernel
theorem dX12_offOf_251 : decode cX12_offOf 251 = .ok (.invokestatic 238, 3) := by decide +kernel
theorem dX12_offOf_254 : decode cX12_offOf 254 = .ok (.ireturn, 1) := by decide +kernel
theorem dX12_offOf_27 : decode cX12_offOf 27 = .ok (.iconst 0, 1) := by decide +kernel
theorem dX12_offOf_28 : decode cX12_offOf 28 = .ok (.ireturn, 1) := by decide +kernel
theorem dX12_offOf_29 : decode cX12_offOf 29 = .ok (.iconst 0, 1) := by decide +kernel
theorem dX12_offOf_3 : decode cX12_offOf 3 = .ok (.invokevirtual 232, 3) := by decide +kernel
theorem dX12_offOf_30 : decode cX12_offOf 30 = .ok (.istore 4, 2) := by decide +kernel
theorem dX12_offOf_32 : decode cX12_offOf 32 = .ok (.iconst 0, 1) := by decide +kernel
theorem dX12_offOf_33 : decode cX12_offOf 33 = .ok (.istore 5, 2) := by decide +kernel
theorem dX12_offOf_35 : decode cX12_offOf 35 = .ok (.iload 5, 2) := by decide +kernel
theorem dX12_offOf_37 : decode cX12_offOf 37 = .ok (.aload_n 0, 1) := by decide +kernel
theorem dX12_offOf_38 : decode cX12_offOf 38 = .ok (.getfield 153, 3) := by decide +kernel
theorem dX12_offOf_41 : decode cX12_offOf 41 = .ok (.if_icmp .ge 45, 3) := by decide +kernel
theorem dX12_offOf_44 : decode cX12_offOf 44 = .ok (.iload 4, 2) := by decide +kernel
theorem dX12_offOf_46 : decode cX12_offOf 46 = .ok (.aload_n 0, 1) := by decide +kernel
theorem dX12_offOf_47 : decode cX12_offOf 47 = .ok (.getfield 9, 3) := by decide +kernel
theorem dX12_offOf_50 : decode cX12_offOf 50 = .ok (.bipush 7, 2) := by decide +kernel
theorem dX12_offOf_52 : decode cX12_offOf 52 = .ok (.iload 5, 2) := by decide +kernel
theorem dX12_offOf_54 : decode cX12_offOf 54 = .ok (.imul, 1) := by decide +kernel
theorem dX12_offOf_55 : decode cX12_offOf 55 = .ok (.iconst 5, 1) := by decide +kernel
theorem dX12_offOf_56 : decode cX12_offOf 56 = .ok (.iadd, 1) := by decide +kernel
theorem dX12_offOf_57 : decode cX12_offOf 57 = .ok (.iaload, 1) := by decide +kernel
theorem dX12_offOf_58 : decode cX12_offOf 58 = .ok (.ifCond .ne 18, 3) := by decide +kernel
theorem dX12_offOf_6 : decode cX12_offOf 6 = .ok (.istore_n 3, 1) := by decide +kernel
theorem dX12_offOf_61 : decode cX12_offOf 61 = .ok (.aload_n 0, 1) := by decide +kernel
theorem dX12_offOf_62 : decode cX12_offOf 62 = .ok (.getfield 40, 3) := by decide +kernel
theorem dX12_offOf_65 : decode cX12_offOf 65 = .ok (.bipush 24, 2) := by decide +kernel
theorem dX12_offOf_67 : decode cX12_offOf 67 = .ok (.iload 5, 2) := by decide +kernel
theorem dX12_offOf_69 : decode cX12_offOf 69 = .ok (.imul, 1) := by decide +kernel
theorem dX12_offOf_7 : decode cX12_offOf 7 = .ok (.iload_n 3, 1) := by decide +kernel
theorem dX12_offOf_70 : decode cX12_offOf 70 = .ok (.iload_n 1, 1) := by decide +kernel
theorem dX12_offOf_71 : decode cX12_offOf 71 = .ok (.iadd, 1) := by decide +kernel
theorem dX12_offOf_72 : decode cX12_offOf 72 = .ok (.iaload, 1) := by decide +kernel
theorem dX12_offOf_73 : decode cX12_offOf 73 = .ok (.goto 4, 3) := by decide +kernel
theorem dX12_offOf_76 : decode cX12_offOf 76 = .ok (.iconst 0, 1) := by decide +kernel
theorem dX12_offOf_77 : decode cX12_offOf 77 = .ok (.iadd, 1) := by decide +kernel
theorem dX12_offOf_78 : decode cX12_offOf 78 = .ok (.istore 4, 2) := by decide +kernel
theorem dX12_offOf_8 : decode cX12_offOf 8 = .ok (.ifCond .ge 5, 3) := by decide +kernel
theorem dX12_offOf_80 : decode cX12_offOf 80 = .ok (.iinc 5 1, 3) := by decide +kernel
theorem dX12_offOf_83 : decode cX12_offOf 83 = .ok (.goto (-48), 3) := by decide +kernel
theorem dX12_offOf_86 : decode cX12_offOf 86 = .ok (.aload_n 0, 1) := by decide +kernel
theorem dX12_offOf_87 : decode cX12_offOf 87 = .ok (.getfield 58, 3) := by decide +kernel
theorem dX12_offOf_90 : decode cX12_offOf 90 = .ok (.iload_n 3, 1) := by decide +kernel
theorem dX12_offOf_91 : decode cX12_offOf 91 = .ok (.iaload, 1) := by decide +kernel
theorem dX12_offOf_92 : decode cX12_offOf 92 = .ok (.sipush 1000, 3) := by decide +kernel
theorem dX12_offOf_95 : decode cX12_offOf 95 = .ok (.aload_n 0, 1) := by decide +kernel
theorem dX12_offOf_96 : decode cX12_offOf 96 = .ok (.getfield 61, 3) := by decide +kernel
theorem dX12_offOf_99 : decode cX12_offOf 99 = .ok (.iload_n 3, 1) := by decide +kernel
theorem dX12_off_0 : decode cX12_off 0 = .ok (.aload_n 0, 1) := by decide +kernel
theorem dX12_off_1 : decode cX12_off 1 = .ok (.iconst 0, 1) := by decide +kernel
theorem dX12_off_10 : decode cX12_off 10 = .ok (.ifCond .eq 22, 3) := by decide +kernel
theorem dX12_off_13 : decode cX12_off 13 = .ok (.iload_n 2, 1) := by decide +kernel
theorem dX12_off_14 : decode cX12_off 14 = .ok (.i2l, 1) := by decide +kernel
theorem dX12_off_15 : decode cX12_off 15 = .ok (.lconst 0, 1) := by decide +kernel
theorem dX12_off_16 : decode cX12_off 16 = .ok (.lconst 1, 1) := by decide +kernel
theorem dX12_off_17 : decode cX12_off 17 = .ok (.invokestatic 156, 3) := by decide +kernel
theorem dX12_off_2 : decode cX12_off 2 = .ok (.putfield 150, 3) := by decide +kernel
theorem dX12_off_20 : decode cX12_off 20 = .ok (.ifCond .eq 12, 3) := by decide +kernel
theorem dX12_off_23 : decode cX12_off 23 = .ok (.aload_n 0, 1) := by decide +kernel
theorem dX12_off_24 : decode cX12_off 24 = .ok (.iload_n 1, 1) := by decide +kernel
theorem dX12_off_25 : decode cX12_off 25 = .ok (.iload_n 2, 1) := by decide +kernel
theorem dX12_off_26 : decode cX12_off 26 = .ok (.invokevirtual 253, 3) := by decide +kernel
theorem dX12_off_29 : decode cX12_off 29 = .ok (.goto 4, 3) := by decide +kernel
theorem dX12_off_32 : decode cX12_off 32 = .ok (.iconst (-1), 1) := by decide +kernel
theorem dX12_off_33 : decode cX12_off 33 = .ok (.ireturn, 1) := by decide +kernel
theorem dX12_off_5 : decode cX12_off 5 = .ok (.aload_n 0, 1) := by decide +kernel
theorem dX12_off_6 : decode cX12_off 6 = .ok (.iload_n 1, 1) := by decide +kernel
theorem dX12_off_7 : decode cX12_off 7 = .ok (.invokevirtual 205, 3) := by decide +kernel
theorem dX12_open_0 : decode cX12_open 0 = .ok (.aload_n 0, 1) := by decide +kernel
theorem dX12_open_1 : decode cX12_open 1 = .ok (.iconst 0, 1) := by decide +kernel
theorem dX12_open_10 : decode cX12_open 10 = .ok (.ifCond .eq 40, 3) := by decide +kernel
theorem dX12_open_101 : decode cX12_open 101 = .ok (.iload 12, 2) := by decide +kernel
theorem dX12_open_103 : decode cX12_open 103 = .ok (.ifCond .lt 7, 3) := by decide +kernel
theorem dX12_open_106 : decode cX12_open 106 = .ok (.iconst 1, 1) := by decide +kernel
theorem dX12_open_107 : decode cX12_open 107 = .ok (.goto 4, 3) := by decide +kernel
theorem dX12_open_110 : decode cX12_open 110 = .ok (.iconst 0, 1) := by decide +kernel
theorem dX12_open_111 : decode cX12_open 111 = .ok (.istore 10, 2) := by decide +kernel
theorem dX12_open_113 : decode cX12_open 113 = .ok (.lload 7, 2) := by decide +kernel
theorem dX12_open_115 : decode cX12_open 115 = .ok (.iload 12, 2) := by decide +kernel
theorem dX12_open_117 : decode cX12_open 117 = .ok (.i2l, 1) := by decide +kernel
theorem dX12_open_118 : decode cX12_open 118 = .ok (.ladd, 1) := by decide +kernel
theorem dX12_open_119 : decode cX12_open 119 = .ok (.lstore 7, 2) := by decide +kernel
theorem dX12_open_121 : decode cX12_open 121 = .ok (.iload 9, 2) := by decide +kernel
theorem dX12_open_123 : decode cX12_open 123 = .ok (.iload 6, 2) := by decide +kernel
theorem dX12_open_125 : decode cX12_open 125 = .ok (.iadd, 1) := by decide +kernel
theorem dX12_open_126 : decode cX12_open 126 = .ok (.istore 9, 2) := by decide +kernel
theorem dX12_open_128 : decode cX12_open 128 = .ok (.iinc 11 1, 3) := by decide +kernel
theorem dX12_open_13 : decode cX12_open 13 = .ok (.iload_n 2, 1) := by decide +kernel
theorem dX12_open_131 : decode cX12_open 131 = .ok (.goto (-50), 3) := by decide +kernel
theorem dX12_open_134 : decode cX12_open 134 = .ok (.iload 10, 2) := by decide +kernel
theorem dX12_open_136 : decode cX12_open 136 = .ok (.ifCond .eq 16, 3) := by decide +kernel
theorem dX12_open_139 : decode cX12_open 139 = .ok (.lload 7, 2) := by decide +kernel
theorem dX12_open_14 : decode cX12_open 14 = .ok (.invokestatic 208, 3) := by decide +kernel
theorem dX12_open_141 : decode cX12_open 141 = .ok (.aload_n 0, 1) := by decide +kernel
theorem dX12_open_142 : decode cX12_open 142 = .ok (.getfield 28, 3) := by decide +kernel
theorem dX12_open_145 : decode cX12_open 145 = .ok (.iload_n 1, 1) := by decide +kernel
theorem dX12_open_146 : decode cX12_open 146 = .ok (.iaload, 1) := by decide +kernel
theorem dX12_open_147 : decode cX12_open 147 = .ok (.i2l, 1) := by decide +kernel
theorem dX12_open_148 : decode cX12_open 148 = .ok (.lcmp, 1) := by decide +kernel
theorem dX12_open_149 : decode cX12_open 149 = .ok (.ifCond .le 6, 3) := by decide +kernel
theorem dX12_open_152 : decode cX12_open 152 = .ok (.bipush (-4), 2) := by decide +kernel
theorem dX12_open_154 : decode cX12_open 154 = .ok (.ireturn, 1) := by decide +kernel
theorem dX12_open_155 : decode cX12_open 155 = .ok (.iload 5, 2) := by decide +kernel
theorem dX12_open_157 : decode cX12_open 157 = .ok (.istore 9, 2) := by decide +kernel
theorem dX12_open_159 : decode cX12_open 159 = .ok (.iconst 0, 1) := by decide +kernel
theorem dX12_open_160 : decode cX12_open 160 = .ok (.istore 11, 2) := by decide +kernel
theorem dX12_open_162 : decode cX12_open 162 = .ok (.iload 11, 2) := by decide +kernel
theorem dX12_open_164 : decode cX12_open 164 = .ok (.iload 4, 2) := by decide +kernel
theorem dX12_open_166 : decode cX12_open 166 = .ok (.if_icmp .ge 52, 3) := by decide +kernel
theorem dX12_open_169 : decode cX12_open 169 = .ok (.aload_n 0, 1) := by decide +kernel
theorem dX12_open_17 : decode cX12_open 17 = .ok (.ifCond .eq 33, 3) := by decide +kernel
theorem dX12_open_170 : decode cX12_open 170 = .ok (.getfield 40, 3) := by decide +kernel
theorem dX12_open_173 : decode cX12_open 173 = .ok (.bipush 24, 2) := by decide +kernel
theorem dX12_open_175 : decode cX12_open 175 = .ok (.iload 11, 2) := by decide +kernel
theorem dX12_open_177 : decode cX12_open 177 = .ok (.imul, 1) := by decide +kernel
theorem dX12_open_178 : decode cX12_open 178 = .ok (.iload_n 1, 1) := by decide +kernel
theorem dX12_open_179 : decode cX12_open 179 = .ok (.iadd, 1) := by decide +kernel
theorem dX12_open_180 : decode cX12_open 180 = .ok (.iload_n 3, 1) := by decide +kernel
theorem dX12_open_181 : decode cX12_open 181 = .ok (.iload 9, 2) := by decide +kernel
theorem dX12_open_183 : decode cX12_open 183 = .ok (.invokestatic 211, 3) := by decide +kernel
theorem dX12_open_186 : decode cX12_open 186 = .ok (.iastore, 1) := by decide +kernel
theorem dX12_open_187 : decode cX12_open 187 = .ok (.aload_n 0, 1) := by decide +kernel
theorem dX12_open_188 : decode cX12_open 188 = .ok (.getfield 43, 3) := by decide +kernel
theorem dX12_open_191 : decode cX12_open 191 = .ok (.bipush 24, 2) := by decide +kernel
theorem dX12_open_193 : decode cX12_open 193 = .ok (.iload 11, 2) := by decide +kernel
theorem dX12_open_195 : decode cX12_open 195 = .ok (.imul, 1) := by decide +kernel
theorem dX12_open_196 : decode cX12_open 196 = .ok (.iload_n 1, 1) := by decide +kernel
theorem dX12_open_197 : decode cX12_open 197 = .ok (.iadd, 1) := by decide +kernel
theorem dX12_open_198 : decode cX12_open 198 = .ok (.iload_n 3, 1) := by decide +kernel
theorem dX12_open_199 : decode cX12_open 199 = .ok (.iload 9, 2) := by decide +kernel
theorem dX12_open_2 : decode cX12_open 2 = .ok (.putfield 150, 3) := by decide +kernel
theorem dX12_open_20 : decode cX12_open 20 = .ok (.iload_n 3, 1) := by decide +kernel
theorem dX12_open_201 : decode cX12_open 201 = .ok (.invokestatic 211, 3) := by decide +kernel
theorem dX12_open_204 : decode cX12_open 204 = .ok (.iastore, 1) := by decide +kernel
theorem dX12_open_205 : decode cX12_open 205 = .ok (.iload 9, 2) := by decide +kernel
theorem dX12_open_207 : decode cX12_open 207 = .ok (.iload 6, 2) := by decide +kernel
theorem dX12_open_209 : decode cX12_open 209 = .ok (.iadd, 1) := by decide +kernel
theorem dX12_open_21 : decode cX12_open 21 = .ok (.i2l, 1) := by decide +kernel
theorem dX12_open_210 : decode cX12_open 210 = .ok (.istore 9, 2) := by decide +kernel
theorem dX12_open_212 : decode cX12_open 212 = .ok (.iinc 11 1, 3) := by decide +kernel
theorem dX12_open_215 : decode cX12_open 215 = .ok (.goto (-53), 3) := by decide +kernel
theorem dX12_open_218 : decode cX12_open 218 = .ok (.aload_n 0, 1) := by decide +kernel
theorem dX12_open_219 : decode cX12_open 219 = .ok (.getfield 34, 3) := by decide +kernel
theorem dX12_open_22 : decode cX12_open 22 = .ok (.lconst 0, 1) := by decide +kernel
theorem dX12_open_222 : decode cX12_open 222 = .ok (.iload_n 1, 1) := by decide +kernel
theorem dX12_open_223 : decode cX12_open 223 = .ok (.iload_n 2, 1) := by decide +kernel
theorem dX12_open_224 : decode cX12_open 224 = .ok (.iastore, 1) := by decide +kernel
theorem dX12_open_225 : decode cX12_open 225 = .ok (.aload_n 0, 1) := by decide +kernel
theorem dX12_open_226 : decode cX12_open 226 = .ok (.getfield 46, 3) := by decide +kernel
theorem dX12_open_229 : decode cX12_open 229 = .ok (.aload_n 0, 1) := by decide +kernel
theorem dX12_open_23 : decode cX12_open 23 = .ok (.ldc2_w 197, 3) := by decide +kernel
theorem dX12_open_230 : decode cX12_open 230 = .ok (.getfield 214, 3) := by decide +kernel
theorem dX12_open_233 : decode cX12_open 233 = .ok (.iload_n 1, 1) := by decide +kernel
theorem dX12_open_234 : decode cX12_open 234 = .ok (.iastore, 1) := by decide +kernel
theorem dX12_open_235 : decode cX12_open 235 = .ok (.aload_n 0, 1) := by decide +kernel
theorem dX12_open_236 : decode cX12_open 236 = .ok (.dup, 1) := by decide +kernel
theorem dX12_open_237 : decode cX12_open 237 = .ok (.getfield 214, 3) := by decide +kernel
theorem dX12_open_240 : decode cX12_open 240 = .ok (.iconst 1, 1) := by decide +kernel
theorem dX12_open_241 : decode cX12_open 241 = .ok (.iadd, 1) := by decide +kernel
theorem dX12_open_242 : decode cX12_open 242 = .ok (.putfield 214, 3) := by decide +kernel
theorem dX12_open_245 : decode cX12_open 245 = .ok (.aload_n 0, 1) := by decide +kernel
theorem dX12_open_246 : decode cX12_open 246 = .ok (.iload_n 1, 1) := by decide +kernel
theorem dX12_open_247 : decode cX12_open 247 = .ok (.invokevirtual 217, 3) := by decide +kernel
theorem dX12_open_250 : decode cX12_open 250 = .ok (.ireturn, 1) := by decide +kernel
theorem dX12_open_26 : decode cX12_open 26 = .ok (.invokestatic 156, 3) := by decide +kernel
theorem dX12_open_29 : decode cX12_open 29 = .ok (.ifCond .eq 21, 3) := by decide +kernel
theorem dX12_open_32 : decode cX12_open 32 = .ok (.aload_n 0, 1) := by decide +kernel
theorem dX12_open_33 : decode cX12_open 33 = .ok (.getfield 34, 3) := by decide +kernel
theorem dX12_open_36 : decode cX12_open 36 = .ok (.iload_n 1, 1) := by decide +kernel
theorem dX12_open_37 : decode cX12_open 37 = .ok (.iaload, 1) := by decide +kernel
theorem dX12_open_38 : decode cX12_open 38 = .ok (.ifCond .ge 12, 3) := by decide +kernel
theorem dX12_open_41 : decode cX12_open 41 = .ok (.iload 4, 2) := by decide +kernel
theorem dX12_open_43 : decode cX12_open 43 = .ok (.aload_n 0, 1) := by decide +kernel
theorem dX12_open_44 : decode cX12_open 44 = .ok (.getfield 153, 3) := by decide +kernel
theorem dX12_open_47 : decode cX12_open 47 = .ok (.if_icmp .le 5, 3) := by decide +kernel
theorem dX12_open_5 : decode cX12_open 5 = .ok (.aload_n 0, 1) := by decide +kernel
theorem dX12_open_50 : decode cX12_open 50 = .ok (.iconst (-1), 1) := by decide +kernel
theorem dX12_open_51 : decode cX12_open 51 = .ok (.ireturn, 1) := by decide +kernel
theorem dX12_open_52 : decode cX12_open 52 = .ok (.iload_n 3, 1) := by decide +kernel
theorem dX12_open_53 : decode cX12_open 53 = .ok (.iconst 3, 1) := by decide +kernel
theorem dX12_open_54 : decode cX12_open 54 = .ok (.if_icmp .ne 6, 3) := by decide +kernel
theorem dX12_open_57 : decode cX12_open 57 = .ok (.bipush (-3), 2) := by decide +kernel
theorem dX12_open_59 : decode cX12_open 59 = .ok (.ireturn, 1) := by decide +kernel
theorem dX12_open_6 : decode cX12_open 6 = .ok (.iload_n 1, 1) := by decide +kernel
theorem dX12_open_60 : decode cX12_open 60 = .ok (.iload 4, 2) := by decide +kernel
theorem dX12_open_62 : decode cX12_open 62 = .ok (.ifCond .ge 6, 3) := by decide +kernel
theorem dX12_open_65 : decode cX12_open 65 = .ok (.bipush (-2), 2) := by decide +kernel
theorem dX12_open_67 : decode cX12_open 67 = .ok (.ireturn, 1) := by decide +kernel
theorem dX12_open_68 : decode cX12_open 68 = .ok (.lconst 0, 1) := by decide +kernel
theorem dX12_open_69 : decode cX12_open 69 = .ok (.lstore 7, 2) := by decide +kernel
theorem dX12_open_7 : decode cX12_open 7 = .ok (.invokevirtual 205, 3) := by decide +kernel
theorem dX12_open_71 : decode cX12_open 71 = .ok (.iload 5, 2) := by decide +kernel
theorem dX12_open_73 : decode cX12_open 73 = .ok (.istore 9, 2) := by decide +kernel
theorem dX12_open_75 : decode cX12_open 75 = .ok (.iconst 1, 1) := by decide +kernel
theorem dX12_open_76 : decode cX12_open 76 = .ok (.istore 10, 2) := by decide +kernel
theorem dX12_open_78 : decode cX12_open 78 = .ok (.iconst 0, 1) := by decide +kernel
theorem dX12_open_79 : decode cX12_open 79 = .ok (.istore 11, 2) := by decide +kernel
theorem dX12_open_81 : decode cX12_open 81 = .ok (.iload 11, 2) := by decide +kernel
theorem dX12_open_83 : decode cX12_open 83 = .ok (.iload 4, 2) := by decide +kernel
theorem dX12_open_85 : decode cX12_open 85 = .ok (.if_icmp .ge 49, 3) := by decide +kernel
theorem dX12_open_88 : decode cX12_open 88 = .ok (.iload_n 3, 1) := by decide +kernel
theorem dX12_open_89 : decode cX12_open 89 = .ok (.iload 9, 2) := by decide +kernel
theorem dX12_open_91 : decode cX12_open 91 = .ok (.invokestatic 211, 3) := by decide +kernel
theorem dX12_open_94 : decode cX12_open 94 = .ok (.istore 12, 2) := by decide +kernel
theorem dX12_open_96 : decode cX12_open 96 = .ok (.iload 10, 2) := by decide +kernel
theorem dX12_open_98 : decode cX12_open 98 = .ok (.ifCond .eq 12, 3) := by decide +kernel
theorem dX12_pack_0 : decode cX12_pack 0 = .ok (.aload_n 0, 1) := by decide +kernel
theorem dX12_pack_1 : decode cX12_pack 1 = .ok (.iconst 0, 1) := by decide +kernel
theorem dX12_pack_10 : decode cX12_pack 10 = .ok (.ifCond .eq 50, 3) := by decide +kernel
theorem dX12_pack_100 : decode cX12_pack 100 = .ok (.iconst 0, 1) := by decide +kernel
theorem dX12_pack_101 : decode cX12_pack 101 = .ok (.istore 5, 2) := by decide +kernel
theorem dX12_pack_103 : decode cX12_pack 103 = .ok (.iload 5, 2) := by decide +kernel
theorem dX12_pack_105 : decode cX12_pack 105 = .ok (.ifCond .ne 5, 3) := by decide +kernel
theorem dX12_pack_108 : decode cX12_pack 108 = .ok (.iconst (-1), 1) := by decide +kernel
theorem dX12_pack_109 : decode cX12_pack 109 = .ok (.ireturn, 1) := by decide +kernel
theorem dX12_pack_110 : decode cX12_pack 110 = .ok (.aload_n 0, 1) := by decide +kernel
theorem dX12_pack_111 : decode cX12_pack 111 = .ok (.getfield 129, 3) := by decide +kernel
theorem dX12_pack_114 : decode cX12_pack 114 = .ok (.aload_n 0, 1) := by decide +kernel
theorem dX12_pack_115 : decode cX12_pack 115 = .ok (.getfield 420, 3) := by decide +kernel
theorem dX12_pack_118 : decode cX12_pack 118 = .ok (.iload_n 1, 1) := by decide +kernel
theorem dX12_pack_119 : decode cX12_pack 119 = .ok (.iastore, 1) := by decide +kernel
theorem dX12_pack_120 : decode cX12_pack 120 = .ok (.aload_n 0, 1) := by decide +kernel
theorem dX12_pack_121 : decode cX12_pack 121 = .ok (.getfield 132, 3) := by decide +kernel
theorem dX12_pack_124 : decode cX12_pack 124 = .ok (.aload_n 0, 1) := by decide +kernel
theorem dX12_pack_125 : decode cX12_pack 125 = .ok (.getfield 420, 3) := by decide +kernel
theorem dX12_pack_128 : decode cX12_pack 128 = .ok (.iload_n 2, 1) := by decide +kernel
theorem dX12_pack_129 : decode cX12_pack 129 = .ok (.iastore, 1) := by decide +kernel
theorem dX12_pack_13 : decode cX12_pack 13 = .ok (.iload_n 2, 1) := by decide +kernel
theorem dX12_pack_130 : decode cX12_pack 130 = .ok (.aload_n 0, 1) := by decide +kernel
theorem dX12_pack_131 : decode cX12_pack 131 = .ok (.getfield 135, 3) := by decide +kernel
theorem dX12_pack_134 : decode cX12_pack 134 = .ok (.aload_n 0, 1) := by decide +kernel
theorem dX12_pack_135 : decode cX12_pack 135 = .ok (.getfield 420, 3) := by decide +kernel
theorem dX12_pack_138 : decode cX12_pack 138 = .ok (.iload 4, 2) := by decide +kernel
theorem dX12_pack_14 : decode cX12_pack 14 = .ok (.i2l, 1) := by decide +kernel
theorem dX12_pack_140 : decode cX12_pack 140 = .ok (.ifCond .ne 7, 3) := by decide +kernel
theorem dX12_pack_143 : decode cX12_pack 143 = .ok (.iload_n 1, 1) := by decide +kernel
theorem dX12_pack_144 : decode cX12_pack 144 = .ok (.goto 4, 3) := by decide +kernel
theorem dX12_pack_147 : decode cX12_pack 147 = .ok (.iload_n 3, 1) := by decide +kernel
theorem dX12_pack_148 : decode cX12_pack 148 = .ok (.iastore, 1) := by decide +kernel
theorem dX12_pack_149 : decode cX12_pack 149 = .ok (.aload_n 0, 1) := by decide +kernel
theorem dX12_pack_15 : decode cX12_pack 15 = .ok (.lconst 1, 1) := by decide +kernel
theorem dX12_pack_150 : decode cX12_pack 150 = .ok (.getfield 138, 3) := by decide +kernel
theorem dX12_pack_153 : decode cX12_pack 153 = .ok (.aload_n 0, 1) := by decide +kernel
theorem dX12_pack_154 : decode cX12_pack 154 = .ok (.getfield 420, 3) := by decide +kernel
theorem dX12_pack_157 : decode cX12_pack 157 = .ok (.iload 4, 2) := by decide +kernel
theorem dX12_pack_159 : decode cX12_pack 159 = .ok (.iastore, 1) := by decide +kernel
theorem dX12_pack_16 : decode cX12_pack 16 = .ok (.ldc2_w 201, 3) := by decide +kernel
theorem dX12_pack_160 : decode cX12_pack 160 = .ok (.aload_n 0, 1) := by decide +kernel
theorem dX12_pack_161 : decode cX12_pack 161 = .ok (.dup, 1) := by decide +kernel
theorem dX12_pack_162 : decode cX12_pack 162 = .ok (.getfield 420, 3) := by decide +kernel
theorem dX12_pack_165 : decode cX12_pack 165 = .ok (.iconst 1, 1) := by decide +kernel
theorem dX12_pack_166 : decode cX12_pack 166 = .ok (.iadd, 1) := by decide +kernel
theorem dX12_pack_167 : decode cX12_pack 167 = .ok (.putfield 420, 3) := by decide +kernel
theorem dX12_pack_170 : decode cX12_pack 170 = .ok (.aload_n 0, 1) := by decide +kernel
theorem dX12_pack_171 : decode cX12_pack 171 = .ok (.iload_n 1, 1) := by decide +kernel
theorem dX12_pack_172 : decode cX12_pack 172 = .ok (.iload_n 2, 1) := by decide +kernel
theorem dX12_pack_173 : decode cX12_pack 173 = .ok (.iconst (-1), 1) := by decide +kernel
theorem dX12_pack_174 : decode cX12_pack 174 = .ok (.invokevirtual 343, 3) := by decide +kernel
theorem dX12_pack_177 : decode cX12_pack 177 = .ok (.iload 4, 2) := by decide +kernel
theorem dX12_pack_179 : decode cX12_pack 179 = .ok (.ifCond .le 11, 3) := by decide +kernel
theorem dX12_pack_182 : decode cX12_pack 182 = .ok (.aload_n 0, 1) := by decide +kernel
theorem dX12_pack_183 : decode cX12_pack 183 = .ok (.iload_n 3, 1) := by decide +kernel
theorem dX12_pack_184 : decode cX12_pack 184 = .ok (.iload 4, 2) := by decide +kernel
theorem dX12_pack_186 : decode cX12_pack 186 = .ok (.iconst (-1), 1) := by decide +kernel
theorem dX12_pack_187 : decode cX12_pack 187 = .ok (.invokevirtual 343, 3) := by decide +kernel
theorem dX12_pack_19 : decode cX12_pack 19 = .ok (.invokestatic 156, 3) := by decide +kernel
theorem dX12_pack_190 : decode cX12_pack 190 = .ok (.aload_n 0, 1) := by decide +kernel
theorem dX12_pack_191 : decode cX12_pack 191 = .ok (.getfield 420, 3) := by decide +kernel
theorem dX12_pack_194 : decode cX12_pack 194 = .ok (.iconst 1, 1) := by decide +kernel
theorem dX12_pack_195 : decode cX12_pack 195 = .ok (.isub, 1) := by decide +kernel
theorem dX12_pack_196 : decode cX12_pack 196 = .ok (.ireturn, 1) := by decide +kernel
theorem dX12_pack_2 : decode cX12_pack 2 = .ok (.putfield 150, 3) := by decide +kernel
theorem dX12_pack_22 : decode cX12_pack 22 = .ok (.ifCond .eq 38, 3) := by decide +kernel
theorem dX12_pack_25 : decode cX12_pack 25 = .ok (.iload 4, 2) := by decide +kernel
theorem dX12_pack_27 : decode cX12_pack 27 = .ok (.i2l, 1) := by decide +kernel
theorem dX12_pack_28 : decode cX12_pack 28 = .ok (.lconst 0, 1) := by decide +kernel
theorem dX12_pack_29 : decode cX12_pack 29 = .ok (.ldc2_w 201, 3) := by decide +kernel
theorem dX12_pack_32 : decode cX12_pack 32 = .ok (.invokestatic 156, 3) := by decide +kernel
theorem dX12_pack_35 : decode cX12_pack 35 = .ok (.ifCond .eq 25, 3) := by decide +kernel
theorem dX12_pack_38 : decode cX12_pack 38 = .ok (.aload_n 0, 1) := by decide +kernel
theorem dX12_pack_39 : decode cX12_pack 39 = .ok (.iload_n 1, 1) := by decide +kernel
theorem dX12_pack_40 : decode cX12_pack 40 = .ok (.invokevirtual 340, 3) := by decide +kernel
theorem dX12_pack_43 : decode cX12_pack 43 = .ok (.iload_n 2, 1) := by decide +kernel
theorem dX12_pack_44 : decode cX12_pack 44 = .ok (.if_icmp .lt 16, 3) := by decide +kernel
theorem dX12_pack_47 : decode cX12_pack 47 = .ok (.aload_n 0, 1) := by decide +kernel
theorem dX12_pack_48 : decode cX12_pack 48 = .ok (.getfield 420, 3) := by decide +kernel
theorem dX12_pack_5 : decode cX12_pack 5 = .ok (.aload_n 0, 1) := by decide +kernel
theorem dX12_pack_51 : decode cX12_pack 51 = .ok (.bipush 8, 2) := by decide +kernel
theorem dX12_pack_53 : decode cX12_pack 53 = .ok (.if_icmp .ge 7, 3) := by decide +kernel
theorem dX12_pack_56 : decode cX12_pack 56 = .ok (.iconst 1, 1) := by decide +kernel
theorem dX12_pack_57 : decode cX12_pack 57 = .ok (.goto 4, 3) := by decide +kernel
theorem dX12_pack_6 : decode cX12_pack 6 = .ok (.iload_n 1, 1) := by decide +kernel
theorem dX12_pack_60 : decode cX12_pack 60 = .ok (.iconst 0, 1) := by decide +kernel
theorem dX12_pack_61 : decode cX12_pack 61 = .ok (.istore 5, 2) := by decide +kernel
theorem dX12_pack_63 : decode cX12_pack 63 = .ok (.iload 5, 2) := by decide +kernel
theorem dX12_pack_65 : decode cX12_pack 65 = .ok (.ifCond .eq 35, 3) := by decide +kernel
theorem dX12_pack_68 : decode cX12_pack 68 = .ok (.iload 4, 2) := by decide +kernel
theorem dX12_pack_7 : decode cX12_pack 7 = .ok (.invokevirtual 166, 3) := by decide +kernel
theorem dX12_pack_70 : decode cX12_pack 70 = .ok (.ifCond .eq 26, 3) := by decide +kernel
theorem dX12_pack_73 : decode cX12_pack 73 = .ok (.aload_n 0, 1) := by decide +kernel
theorem dX12_pack_74 : decode cX12_pack 74 = .ok (.iload_n 3, 1) := by decide +kernel
theorem dX12_pack_75 : decode cX12_pack 75 = .ok (.invokevirtual 166, 3) := by decide +kernel
theorem dX12_pack_78 : decode cX12_pack 78 = .ok (.ifCond .eq 22, 3) := by decide +kernel
theorem dX12_pack_81 : decode cX12_pack 81 = .ok (.iload_n 3, 1) := by decide +kernel
theorem dX12_pack_82 : decode cX12_pack 82 = .ok (.iload_n 1, 1) := by decide +kernel
theorem dX12_pack_83 : decode cX12_pack 83 = .ok (.if_icmp .eq 17, 3) := by decide +kernel
theorem dX12_pack_86 : decode cX12_pack 86 = .ok (.aload_n 0, 1) := by decide +kernel
theorem dX12_pack_87 : decode cX12_pack 87 = .ok (.iload_n 3, 1) := by decide +kernel
theorem dX12_pack_88 : decode cX12_pack 88 = .ok (.invokevirtual 340, 3) := by decide +kernel
theorem dX12_pack_91 : decode cX12_pack 91 = .ok (.iload 4, 2) := by decide +kernel
theorem dX12_pack_93 : decode cX12_pack 93 = .ok (.if_icmp .lt 7, 3) := by decide +kernel
theorem dX12_pack_96 : decode cX12_pack 96 = .ok (.iconst 1, 1) := by decide +kernel
theorem dX12_pack_97 : decode cX12_pack 97 = .ok (.goto 4, 3) := by decide +kernel
theorem dX12_parent_0 : decode cX12_parent 0 = .ok (.aload_n 0, 1) := by decide +kernel
theorem dX12_parent_1 : decode cX12_parent 1 = .ok (.getfield 9, 3) := by decide +kernel
theorem dX12_parent_10 : decode cX12_parent 10 = .ok (.iadd, 1) := by decide +kernel
theorem dX12_parent_11 : decode cX12_parent 11 = .ok (.iaload, 1) := by decide +kernel
theorem dX12_parent_12 : decode cX12_parent 12 = .ok (.ireturn, 1) := by decide +kernel
theorem dX12_parent_4 : decode cX12_parent 4 = .ok (.bipush 7, 2) := by decide +kernel
theorem dX12_parent_6 : decode cX12_parent 6 = .ok (.iload_n 1, 1) := by decide +kernel
theorem dX12_parent_7 : decode cX12_parent 7 = .ok (.imul, 1) := by decide +kernel
theorem dX12_parent_8 : decode cX12_parent 8 = .ok (.bipush 6, 2) := by decide +kernel
theorem dX12_part_0 : decode cX12_part 0 = .ok (.aload_n 0, 1) := by decide +kernel
theorem dX12_part_1 : decode cX12_part 1 = .ok (.iconst 0, 1) := by decide +kernel
theorem dX12_part_10 : decode cX12_part 10 = .ok (.ifCond .eq 15, 3) := by decide +kernel
theorem dX12_part_13 : decode cX12_part 13 = .ok (.iload_n 2, 1) := by decide +kernel
theorem dX12_part_14 : decode cX12_part 14 = .ok (.i2l, 1) := by decide +kernel
theorem dX12_part_15 : decode cX12_part 15 = .ok (.lconst 0, 1) := by decide +kernel
theorem dX12_part_16 : decode cX12_part 16 = .ok (.ldc2_w 354, 3) := by decide +kernel
theorem dX12_part_19 : decode cX12_part 19 = .ok (.invokestatic 156, 3) := by decide +kernel
theorem dX12_part_2 : decode cX12_part 2 = .ok (.putfield 150, 3) := by decide +kernel
theorem dX12_part_22 : decode cX12_part 22 = .ok (.ifCond .ne 5, 3) := by decide +kernel
theorem dX12_part_25 : decode cX12_part 25 = .ok (.iconst (-1), 1) := by decide +kernel
theorem dX12_part_26 : decode cX12_part 26 = .ok (.ireturn, 1) := by decide +kernel
theorem dX12_part_27 : decode cX12_part 27 = .ok (.aload_n 0, 1) := by decide +kernel
theorem dX12_part_28 : decode cX12_part 28 = .ok (.getfield 87, 3) := by decide +kernel
theorem dX12_part_31 : decode cX12_part 31 = .ok (.iload_n 1, 1) := by decide +kernel
theorem dX12_part_32 : decode cX12_part 32 = .ok (.iload_n 2, 1) := by decide +kernel
theorem dX12_part_33 : decode cX12_part 33 = .ok (.iastore, 1) := by decide +kernel
theorem dX12_part_34 : decode cX12_part 34 = .ok (.aload_n 0, 1) := by decide +kernel
theorem dX12_part_35 : decode cX12_part 35 = .ok (.invokevirtual 356, 3) := by decide +kernel
theorem dX12_part_38 : decode cX12_part 38 = .ok (.ireturn, 1) := by decide +kernel
theorem dX12_part_5 : decode cX12_part 5 = .ok (.aload_n 0, 1) := by decide +kernel
theorem dX12_part_6 : decode cX12_part 6 = .ok (.iload_n 1, 1) := by decide +kernel
theorem dX12_part_7 : decode cX12_part 7 = .ok (.invokevirtual 166, 3) := by decide +kernel
theorem dX12_partsInAll_0 : decode cX12_partsInAll 0 = .ok (.iconst 0, 1) := by decide +kernel
theorem dX12_partsInAll_1 : decode cX12_partsInAll 1 = .ok (.istore_n 1, 1) := by decide +kernel
theorem dX12_partsInAll_12 : decode cX12_partsInAll 12 = .ok (.iload_n 1, 1) := by decide +kernel
theorem dX12_partsInAll_13 : decode cX12_partsInAll 13 = .ok (.aload_n 0, 1) := by decide +kernel
theorem dX12_partsInAll_14 : decode cX12_partsInAll 14 = .ok (.getfield 87, 3) := by decide +kernel
theorem dX12_partsInAll_17 : decode cX12_partsInAll 17 = .ok (.iload_n 2, 1) := by decide +kernel
theorem dX12_partsInAll_18 : decode cX12_partsInAll 18 = .ok (.iaload, 1) := by decide +kernel
theorem dX12_partsInAll_19 : decode cX12_partsInAll 19 = .ok (.iadd, 1) := by decide +kernel
theorem dX12_partsInAll_2 : decode cX12_partsInAll 2 = .ok (.iconst 0, 1) := by decide +kernel
theorem dX12_partsInAll_20 : decode cX12_partsInAll 20 = .ok (.istore_n 1, 1) := by decide +kernel
theorem dX12_partsInAll_21 : decode cX12_partsInAll 21 = .ok (.iinc 2 1, 3) := by decide +kernel
theorem dX12_partsInAll_24 : decode cX12_partsInAll 24 = .ok (.goto (-20), 3) := by decide +kernel
theorem dX12_partsInAll_27 : decode cX12_partsInAll 27 = .ok (.iload_n 1, 1) := by decide +kernel
theorem dX12_partsInAll_28 : decode cX12_partsInAll 28 = .ok (.ireturn, 1) := by decide +kernel
theorem dX12_partsInAll_3 : decode cX12_partsInAll 3 = .ok (.istore_n 2, 1) := by decide +kernel
theorem dX12_partsInAll_4 : decode cX12_partsInAll 4 = .ok (.iload_n 2, 1) := by decide +kernel
theorem dX12_partsInAll_5 : decode cX12_partsInAll 5 = .ok (.aload_n 0, 1) := by decide +kernel
theorem dX12_partsInAll_6 : decode cX12_partsInAll 6 = .ok (.getfield 153, 3) := by decide +kernel
theorem dX12_partsInAll_9 : decode cX12_partsInAll 9 = .ok (.if_icmp .ge 18, 3) := by decide +kernel
theorem dX12_pay_0 : decode cX12_pay 0 = .ok (.aload_n 0, 1) := by decide +kernel
theorem dX12_pay_1 : decode cX12_pay 1 = .ok (.iconst 0, 1) := by decide +kernel
theorem dX12_pay_101 : decode cX12_pay 101 = .ok (.aload_n 0, 1) := by decide +kernel
theorem dX12_pay_102 : decode cX12_pay 102 = .ok (.bipush 122, 2) := by decide +kernel
theorem dX12_pay_104 : decode cX12_pay 104 = .ok (.iload_n 3, 1) := by decide +kernel
theorem dX12_pay_105 : decode cX12_pay 105 = .ok (.invokevirtual 243, 3) := by decide +kernel
theorem dX12_pay_108 : decode cX12_pay 108 = .ok (.aload_n 0, 1) := by decide +kernel
theorem dX12_pay_109 : decode cX12_pay 109 = .ok (.bipush 110, 2) := by decide +kernel
theorem dX12_pay_111 : decode cX12_pay 111 = .ok (.iload 4, 2) := by decide +kernel
theorem dX12_pay_113 : decode cX12_pay 113 = .ok (.invokevirtual 243, 3) := by decide +kernel
theorem dX12_pay_116 : decode cX12_pay 116 = .ok (.aload_n 0, 1) := by decide +kernel
theorem dX12_pay_117 : decode cX12_pay 117 = .ok (.bipush 101, 2) := by decide +kernel
theorem dX12_pay_119 : decode cX12_pay 119 = .ok (.iload 5, 2) := by decide +kernel
theorem dX12_pay_12 : decode cX12_pay 12 = .ok (.iconst (-1), 1) := by decide +kernel
theorem dX12_pay_121 : decode cX12_pay 121 = .ok (.ifCond .ge 9, 3) := by decide +kernel
theorem dX12_pay_124 : decode cX12_pay 124 = .ok (.sipush 1000, 3) := by decide +kernel
theorem dX12_pay_127 : decode cX12_pay 127 = .ok (.goto 5, 3) := by decide +kernel
theorem dX12_pay_13 : decode cX12_pay 13 = .ok (.ireturn, 1) := by decide +kernel
theorem dX12_pay_130 : decode cX12_pay 130 = .ok (.iload 5, 2) := by decide +kernel
theorem dX12_pay_132 : decode cX12_pay 132 = .ok (.invokevirtual 243, 3) := by decide +kernel
theorem dX12_pay_135 : decode cX12_pay 135 = .ok (.aload_n 0, 1) := by decide +kernel
theorem dX12_pay_136 : decode cX12_pay 136 = .ok (.bipush 10, 2) := by decide +kernel
theorem dX12_pay_138 : decode cX12_pay 138 = .ok (.invokevirtual 247, 3) := by decide +kernel
theorem dX12_pay_14 : decode cX12_pay 14 = .ok (.aload_n 0, 1) := by decide +kernel
theorem dX12_pay_141 : decode cX12_pay 141 = .ok (.ireturn, 1) := by decide +kernel
theorem dX12_pay_15 : decode cX12_pay 15 = .ok (.getfield 68, 3) := by decide +kernel
theorem dX12_pay_18 : decode cX12_pay 18 = .ok (.bipush 10, 2) := by decide +kernel
theorem dX12_pay_2 : decode cX12_pay 2 = .ok (.putfield 150, 3) := by decide +kernel
theorem dX12_pay_20 : decode cX12_pay 20 = .ok (.baload, 1) := by decide +kernel
theorem dX12_pay_21 : decode cX12_pay 21 = .ok (.ifCond .ne 5, 3) := by decide +kernel
theorem dX12_pay_24 : decode cX12_pay 24 = .ok (.iconst 0, 1) := by decide +kernel
theorem dX12_pay_25 : decode cX12_pay 25 = .ok (.ireturn, 1) := by decide +kernel
theorem dX12_pay_26 : decode cX12_pay 26 = .ok (.iconst 0, 1) := by decide +kernel
theorem dX12_pay_27 : decode cX12_pay 27 = .ok (.istore_n 2, 1) := by decide +kernel
theorem dX12_pay_28 : decode cX12_pay 28 = .ok (.iconst 0, 1) := by decide +kernel
theorem dX12_pay_29 : decode cX12_pay 29 = .ok (.istore_n 3, 1) := by decide +kernel
theorem dX12_pay_30 : decode cX12_pay 30 = .ok (.iconst 0, 1) := by decide +kernel
theorem dX12_pay_31 : decode cX12_pay 31 = .ok (.istore 4, 2) := by decide +kernel
theorem dX12_pay_33 : decode cX12_pay 33 = .ok (.iconst 0, 1) := by decide +kernel
theorem dX12_pay_34 : decode cX12_pay 34 = .ok (.istore 5, 2) := by decide +kernel
theorem dX12_pay_36 : decode cX12_pay 36 = .ok (.iload 5, 2) := by decide +kernel
theorem dX12_pay_38 : decode cX12_pay 38 = .ok (.aload_n 0, 1) := by decide +kernel
theorem dX12_pay_39 : decode cX12_pay 39 = .ok (.getfield 194, 3) := by decide +kernel
theorem dX12_pay_42 : decode cX12_pay 42 = .ok (.if_icmp .ge 41, 3) := by decide +kernel
theorem dX12_pay_45 : decode cX12_pay 45 = .ok (.aload_n 0, 1) := by decide +kernel
theorem dX12_pay_46 : decode cX12_pay 46 = .ok (.getfield 34, 3) := by decide +kernel
theorem dX12_pay_49 : decode cX12_pay 49 = .ok (.iload 5, 2) := by decide +kernel
theorem dX12_pay_5 : decode cX12_pay 5 = .ok (.iload_n 1, 1) := by decide +kernel
theorem dX12_pay_51 : decode cX12_pay 51 = .ok (.iaload, 1) := by decide +kernel
theorem dX12_pay_52 : decode cX12_pay 52 = .ok (.iload_n 1, 1) := by decide +kernel
theorem dX12_pay_53 : decode cX12_pay 53 = .ok (.if_icmp .ne 24, 3) := by decide +kernel
theorem dX12_pay_56 : decode cX12_pay 56 = .ok (.iload_n 2, 1) := by decide +kernel
theorem dX12_pay_57 : decode cX12_pay 57 = .ok (.aload_n 0, 1) := by decide +kernel
theorem dX12_pay_58 : decode cX12_pay 58 = .ok (.iload 5, 2) := by decide +kernel
theorem dX12_pay_6 : decode cX12_pay 6 = .ok (.invokestatic 208, 3) := by decide +kernel
theorem dX12_pay_60 : decode cX12_pay 60 = .ok (.invokevirtual 220, 3) := by decide +kernel
theorem dX12_pay_63 : decode cX12_pay 63 = .ok (.iadd, 1) := by decide +kernel
theorem dX12_pay_64 : decode cX12_pay 64 = .ok (.istore_n 2, 1) := by decide +kernel
theorem dX12_pay_65 : decode cX12_pay 65 = .ok (.iload_n 3, 1) := by decide +kernel
theorem dX12_pay_66 : decode cX12_pay 66 = .ok (.aload_n 0, 1) := by decide +kernel
theorem dX12_pay_67 : decode cX12_pay 67 = .ok (.iload 5, 2) := by decide +kernel
theorem dX12_pay_69 : decode cX12_pay 69 = .ok (.invokevirtual 217, 3) := by decide +kernel
theorem dX12_pay_72 : decode cX12_pay 72 = .ok (.iadd, 1) := by decide +kernel
theorem dX12_pay_73 : decode cX12_pay 73 = .ok (.istore_n 3, 1) := by decide +kernel
theorem dX12_pay_74 : decode cX12_pay 74 = .ok (.iinc 4 1, 3) := by decide +kernel
theorem dX12_pay_77 : decode cX12_pay 77 = .ok (.iinc 5 1, 3) := by decide +kernel
theorem dX12_pay_80 : decode cX12_pay 80 = .ok (.goto (-44), 3) := by decide +kernel
theorem dX12_pay_83 : decode cX12_pay 83 = .ok (.aload_n 0, 1) := by decide +kernel
theorem dX12_pay_84 : decode cX12_pay 84 = .ok (.iload_n 1, 1) := by decide +kernel
theorem dX12_pay_85 : decode cX12_pay 85 = .ok (.invokevirtual 337, 3) := by decide +kernel
theorem dX12_pay_88 : decode cX12_pay 88 = .ok (.istore 5, 2) := by decide +kernel
theorem dX12_pay_9 : decode cX12_pay 9 = .ok (.ifCond .ne 5, 3) := by decide +kernel
theorem dX12_pay_90 : decode cX12_pay 90 = .ok (.aload_n 0, 1) := by decide +kernel
theorem dX12_pay_91 : decode cX12_pay 91 = .ok (.invokevirtual 235, 3) := by decide +kernel
theorem dX12_pay_94 : decode cX12_pay 94 = .ok (.aload_n 0, 1) := by decide +kernel
theorem dX12_pay_95 : decode cX12_pay 95 = .ok (.bipush 112, 2) := by decide +kernel
theorem dX12_pay_97 : decode cX12_pay 97 = .ok (.iload_n 2, 1) := by decide +kernel
theorem dX12_pay_98 : decode cX12_pay 98 = .ok (.invokevirtual 243, 3) := by decide +kernel
theorem dX12_priceOf_0 : decode cX12_priceOf 0 = .ok (.iconst (-1), 1) := by decide +kernel
theorem dX12_priceOf_1 : decode cX12_priceOf 1 = .ok (.istore_n 3, 1) := by decide +kernel
theorem dX12_priceOf_11 : decode cX12_priceOf 11 = .ok (.if_icmp .ge 54, 3) := by decide +kernel
theorem dX12_priceOf_14 : decode cX12_priceOf 14 = .ok (.aload_n 0, 1) := by decide +kernel
theorem dX12_priceOf_15 : decode cX12_priceOf 15 = .ok (.getfield 13, 3) := by decide +kernel
theorem dX12_priceOf_18 : decode cX12_priceOf 18 = .ok (.iload 4, 2) := by decide +kernel
theorem dX12_priceOf_2 : decode cX12_priceOf 2 = .ok (.iconst 0, 1) := by decide +kernel
theorem dX12_priceOf_20 : decode cX12_priceOf 20 = .ok (.iaload, 1) := by decide +kernel
theorem dX12_priceOf_21 : decode cX12_priceOf 21 = .ok (.iload_n 1, 1) := by decide +kernel
theorem dX12_priceOf_22 : decode cX12_priceOf 22 = .ok (.if_icmp .ne 37, 3) := by decide +kernel
theorem dX12_priceOf_25 : decode cX12_priceOf 25 = .ok (.aload_n 0, 1) := by decide +kernel
theorem dX12_priceOf_26 : decode cX12_priceOf 26 = .ok (.getfield 16, 3) := by decide +kernel
theorem dX12_priceOf_29 : decode cX12_priceOf 29 = .ok (.iload 4, 2) := by decide +kernel
theorem dX12_priceOf_3 : decode cX12_priceOf 3 = .ok (.istore 4, 2) := by decide +kernel
theorem dX12_priceOf_31 : decode cX12_priceOf 31 = .ok (.iaload, 1) := by decide +kernel
theorem dX12_priceOf_32 : decode cX12_priceOf 32 = .ok (.iload_n 2, 1) := by decide +kernel
theorem dX12_priceOf_33 : decode cX12_priceOf 33 = .ok (.if_icmp .gt 26, 3) := by decide +kernel
theorem dX12_priceOf_36 : decode cX12_priceOf 36 = .ok (.iload_n 3, 1) := by decide +kernel
theorem dX12_priceOf_37 : decode cX12_priceOf 37 = .ok (.ifCond .lt 19, 3) := by decide +kernel
theorem dX12_priceOf_40 : decode cX12_priceOf 40 = .ok (.aload_n 0, 1) := by decide +kernel
theorem dX12_priceOf_41 : decode cX12_priceOf 41 = .ok (.getfield 16, 3) := by decide +kernel
theorem dX12_priceOf_44 : decode cX12_priceOf 44 = .ok (.iload 4, 2) := by decide +kernel
theorem dX12_priceOf_46 : decode cX12_priceOf 46 = .ok (.iaload, 1) := by decide +kernel
theorem dX12_priceOf_47 : decode cX12_priceOf 47 = .ok (.aload_n 0, 1) := by decide +kernel
theorem dX12_priceOf_48 : decode cX12_priceOf 48 = .ok (.getfield 16, 3) := by decide +kernel
theorem dX12_priceOf_5 : decode cX12_priceOf 5 = .ok (.iload 4, 2) := by decide +kernel
theorem dX12_priceOf_51 : decode cX12_priceOf 51 = .ok (.iload_n 3, 1) := by decide +kernel
theorem dX12_priceOf_52 : decode cX12_priceOf 52 = .ok (.iaload, 1) := by decide +kernel
theorem dX12_priceOf_53 : decode cX12_priceOf 53 = .ok (.if_icmp .lt 6, 3) := by decide +kernel
theorem dX12_priceOf_56 : decode cX12_priceOf 56 = .ok (.iload 4, 2) := by decide +kernel
theorem dX12_priceOf_58 : decode cX12_priceOf 58 = .ok (.istore_n 3, 1) := by decide +kernel
theorem dX12_priceOf_59 : decode cX12_priceOf 59 = .ok (.iinc 4 1, 3) := by decide +kernel
theorem dX12_priceOf_62 : decode cX12_priceOf 62 = .ok (.goto (-57), 3) := by decide +kernel
theorem dX12_priceOf_65 : decode cX12_priceOf 65 = .ok (.iload_n 3, 1) := by decide +kernel
theorem dX12_priceOf_66 : decode cX12_priceOf 66 = .ok (.ifCond .ge 7, 3) := by decide +kernel
theorem dX12_priceOf_69 : decode cX12_priceOf 69 = .ok (.iconst 0, 1) := by decide +kernel
theorem dX12_priceOf_7 : decode cX12_priceOf 7 = .ok (.aload_n 0, 1) := by decide +kernel
theorem dX12_priceOf_70 : decode cX12_priceOf 70 = .ok (.goto 9, 3) := by decide +kernel
theorem dX12_priceOf_73 : decode cX12_priceOf 73 = .ok (.aload_n 0, 1) := by decide +kernel
theorem dX12_priceOf_74 : decode cX12_priceOf 74 = .ok (.getfield 19, 3) := by decide +kernel
theorem dX12_priceOf_77 : decode cX12_priceOf 77 = .ok (.iload_n 3, 1) := by decide +kernel
theorem dX12_priceOf_78 : decode cX12_priceOf 78 = .ok (.iaload, 1) := by decide +kernel
theorem dX12_priceOf_79 : decode cX12_priceOf 79 = .ok (.ireturn, 1) := by decide +kernel
theorem dX12_priceOf_8 : decode cX12_priceOf 8 = .ok (.getfield 175, 3) := by decide +kernel
theorem dX12_price_0 : decode cX12_price 0 = .ok (.aload_n 0, 1) := by decide +kernel
theorem dX12_price_1 : decode cX12_price 1 = .ok (.iconst 0, 1) := by decide +kernel
theorem dX12_price_10 : decode cX12_price 10 = .ok (.ifCond .eq 31, 3) := by decide +kernel
theorem dX12_price_13 : decode cX12_price 13 = .ok (.iload_n 2, 1) := by decide +kernel
theorem dX12_price_14 : decode cX12_price 14 = .ok (.invokestatic 170, 3) := by decide +kernel
theorem dX12_price_17 : decode cX12_price 17 = .ok (.ifCond .eq 24, 3) := by decide +kernel
theorem dX12_price_2 : decode cX12_price 2 = .ok (.putfield 150, 3) := by decide +kernel
theorem dX12_price_20 : decode cX12_price 20 = .ok (.iload_n 3, 1) := by decide +kernel
theorem dX12_price_21 : decode cX12_price 21 = .ok (.i2l, 1) := by decide +kernel
theorem dX12_price_22 : decode cX12_price 22 = .ok (.lconst 0, 1) := by decide +kernel
theorem dX12_price_23 : decode cX12_price 23 = .ok (.ldc2_w 173, 3) := by decide +kernel
theorem dX12_price_26 : decode cX12_price 26 = .ok (.invokestatic 156, 3) := by decide +kernel
theorem dX12_price_29 : decode cX12_price 29 = .ok (.ifCond .eq 12, 3) := by decide +kernel
theorem dX12_price_32 : decode cX12_price 32 = .ok (.aload_n 0, 1) := by decide +kernel
theorem dX12_price_33 : decode cX12_price 33 = .ok (.getfield 175, 3) := by decide +kernel
theorem dX12_price_36 : decode cX12_price 36 = .ok (.bipush 60, 2) := by decide +kernel
theorem dX12_price_38 : decode cX12_price 38 = .ok (.if_icmp .ne 5, 3) := by decide +kernel
theorem dX12_price_41 : decode cX12_price 41 = .ok (.iconst (-1), 1) := by decide +kernel
theorem dX12_price_42 : decode cX12_price 42 = .ok (.ireturn, 1) := by decide +kernel
theorem dX12_price_43 : decode cX12_price 43 = .ok (.aload_n 0, 1) := by decide +kernel
theorem dX12_price_44 : decode cX12_price 44 = .ok (.getfield 13, 3) := by decide +kernel
theorem dX12_price_47 : decode cX12_price 47 = .ok (.aload_n 0, 1) := by decide +kernel
theorem dX12_price_48 : decode cX12_price 48 = .ok (.getfield 175, 3) := by decide +kernel
theorem dX12_price_5 : decode cX12_price 5 = .ok (.aload_n 0, 1) := by decide +kernel
theorem dX12_price_51 : decode cX12_price 51 = .ok (.iload_n 1, 1) := by decide +kernel
theorem dX12_price_52 : decode cX12_price 52 = .ok (.iastore, 1) := by decide +kernel
theorem dX12_price_53 : decode cX12_price 53 = .ok (.aload_n 0, 1) := by decide +kernel
theorem dX12_price_54 : decode cX12_price 54 = .ok (.getfield 16, 3) := by decide +kernel
theorem dX12_price_57 : decode cX12_price 57 = .ok (.aload_n 0, 1) := by decide +kernel
theorem dX12_price_58 : decode cX12_price 58 = .ok (.getfield 175, 3) := by decide +kernel
theorem dX12_price_6 : decode cX12_price 6 = .ok (.iload_n 1, 1) := by decide +kernel
theorem dX12_price_61 : decode cX12_price 61 = .ok (.iload_n 2, 1) := by decide +kernel
theorem dX12_price_62 : decode cX12_price 62 = .ok (.iastore, 1) := by decide +kernel
theorem dX12_price_63 : decode cX12_price 63 = .ok (.aload_n 0, 1) := by decide +kernel
theorem dX12_price_64 : decode cX12_price 64 = .ok (.getfield 19, 3) := by decide +kernel
theorem dX12_price_67 : decode cX12_price 67 = .ok (.aload_n 0, 1) := by decide +kernel
theorem dX12_price_68 : decode cX12_price 68 = .ok (.getfield 175, 3) := by decide +kernel
theorem dX12_price_7 : decode cX12_price 7 = .ok (.invokevirtual 166, 3) := by decide +kernel
theorem dX12_price_71 : decode cX12_price 71 = .ok (.iload_n 3, 1) := by decide +kernel
theorem dX12_price_72 : decode cX12_price 72 = .ok (.iastore, 1) := by decide +kernel
theorem dX12_price_73 : decode cX12_price 73 = .ok (.aload_n 0, 1) := by decide +kernel
theorem dX12_price_74 : decode cX12_price 74 = .ok (.dup, 1) := by decide +kernel
theorem dX12_price_75 : decode cX12_price 75 = .ok (.getfield 175, 3) := by decide +kernel
theorem dX12_price_78 : decode cX12_price 78 = .ok (.iconst 1, 1) := by decide +kernel
theorem dX12_price_79 : decode cX12_price 79 = .ok (.iadd, 1) := by decide +kernel
theorem dX12_price_80 : decode cX12_price 80 = .ok (.putfield 175, 3) := by decide +kernel
theorem dX12_price_83 : decode cX12_price 83 = .ok (.aload_n 0, 1) := by decide +kernel
theorem dX12_price_84 : decode cX12_price 84 = .ok (.getfield 175, 3) := by decide +kernel
theorem dX12_price_87 : decode cX12_price 87 = .ok (.ireturn, 1) := by decide +kernel
theorem dX12_product_0 : decode cX12_product 0 = .ok (.aload_n 0, 1) := by decide +kernel
theorem dX12_product_1 : decode cX12_product 1 = .ok (.iload_n 1, 1) := by decide +kernel
theorem dX12_product_10 : decode cX12_product 10 = .ok (.aload_n 0, 1) := by decide +kernel
theorem dX12_product_11 : decode cX12_product 11 = .ok (.iload_n 1, 1) := by decide +kernel
theorem dX12_product_12 : decode cX12_product 12 = .ok (.ldc_w 300, 3) := by decide +kernel
theorem dX12_product_15 : decode cX12_product 15 = .ok (.invokevirtual 272, 3) := by decide +kernel
theorem dX12_product_18 : decode cX12_product 18 = .ok (.ifCond .eq 44, 3) := by decide +kernel
theorem dX12_product_2 : decode cX12_product 2 = .ok (.invokevirtual 294, 3) := by decide +kernel
theorem dX12_product_21 : decode cX12_product 21 = .ok (.aload_n 0, 1) := by decide +kernel
theorem dX12_product_22 : decode cX12_product 22 = .ok (.getfield 84, 3) := by decide +kernel
theorem dX12_product_25 : decode cX12_product 25 = .ok (.aload_n 0, 1) := by decide +kernel
theorem dX12_product_26 : decode cX12_product 26 = .ok (.getfield 259, 3) := by decide +kernel
theorem dX12_product_29 : decode cX12_product 29 = .ok (.iaload, 1) := by decide +kernel
theorem dX12_product_30 : decode cX12_product 30 = .ok (.istore_n 3, 1) := by decide +kernel
theorem dX12_product_31 : decode cX12_product 31 = .ok (.aload_n 0, 1) := by decide +kernel
theorem dX12_product_32 : decode cX12_product 32 = .ok (.dup, 1) := by decide +kernel
theorem dX12_product_33 : decode cX12_product 33 = .ok (.getfield 259, 3) := by decide +kernel
theorem dX12_product_36 : decode cX12_product 36 = .ok (.iconst 1, 1) := by decide +kernel
theorem dX12_product_37 : decode cX12_product 37 = .ok (.iadd, 1) := by decide +kernel
theorem dX12_product_38 : decode cX12_product 38 = .ok (.putfield 259, 3) := by decide +kernel
theorem dX12_product_41 : decode cX12_product 41 = .ok (.aload_n 0, 1) := by decide +kernel
theorem dX12_product_42 : decode cX12_product 42 = .ok (.iload_n 1, 1) := by decide +kernel
theorem dX12_product_43 : decode cX12_product 43 = .ok (.invokevirtual 294, 3) := by decide +kernel
theorem dX12_product_46 : decode cX12_product 46 = .ok (.istore_n 2, 1) := by decide +kernel
theorem dX12_product_47 : decode cX12_product 47 = .ok (.iload_n 2, 1) := by decide +kernel
theorem dX12_product_48 : decode cX12_product 48 = .ok (.ifCond .eq 11, 3) := by decide +kernel
theorem dX12_product_5 : decode cX12_product 5 = .ok (.istore_n 2, 1) := by decide +kernel
theorem dX12_product_51 : decode cX12_product 51 = .ok (.aload_n 0, 1) := by decide +kernel
theorem dX12_product_52 : decode cX12_product 52 = .ok (.iload_n 3, 1) := by decide +kernel
theorem dX12_product_53 : decode cX12_product 53 = .ok (.invokestatic 297, 3) := by decide +kernel
theorem dX12_product_56 : decode cX12_product 56 = .ok (.invokevirtual 276, 3) := by decide +kernel
theorem dX12_product_59 : decode cX12_product 59 = .ok (.goto (-53), 3) := by decide +kernel
theorem dX12_product_6 : decode cX12_product 6 = .ok (.iload_n 2, 1) := by decide +kernel
theorem dX12_product_62 : decode cX12_product 62 = .ok (.iload_n 2, 1) := by decide +kernel
theorem dX12_product_63 : decode cX12_product 63 = .ok (.ireturn, 1) := by decide +kernel
theorem dX12_product_7 : decode cX12_product 7 = .ok (.ifCond .eq 55, 3) := by decide +kernel
theorem dX12_refuse_0 : decode cX12_refuse 0 = .ok (.aload_n 0, 1) := by decide +kernel
theorem dX12_refuse_1 : decode cX12_refuse 1 = .ok (.iconst 1, 1) := by decide +kernel
theorem dX12_refuse_2 : decode cX12_refuse 2 = .ok (.putfield 150, 3) := by decide +kernel
theorem dX12_refuse_5 : decode cX12_refuse 5 = .ok (.iconst 0, 1) := by decide +kernel
theorem dX12_refuse_6 : decode cX12_refuse 6 = .ok (.ireturn, 1) := by decide +kernel
theorem dX12_ring_0 : decode cX12_ring 0 = .ok (.aload_n 0, 1) := by decide +kernel
theorem dX12_ring_1 : decode cX12_ring 1 = .ok (.iconst 0, 1) := by decide +kernel
theorem dX12_ring_100 : decode cX12_ring 100 = .ok (.getfield 120, 3) := by decide +kernel
theorem dX12_ring_103 : decode cX12_ring 103 = .ok (.aload_n 0, 1) := by decide +kernel
theorem dX12_ring_104 : decode cX12_ring 104 = .ok (.getfield 111, 3) := by decide +kernel
theorem dX12_ring_107 : decode cX12_ring 107 = .ok (.iload_n 3, 1) := by decide +kernel
theorem dX12_ring_108 : decode cX12_ring 108 = .ok (.iaload, 1) := by decide +kernel
theorem dX12_ring_109 : decode cX12_ring 109 = .ok (.iconst 1, 1) := by decide +kernel
theorem dX12_ring_110 : decode cX12_ring 110 = .ok (.bastore, 1) := by decide +kernel
theorem dX12_ring_111 : decode cX12_ring 111 = .ok (.iconst 1, 1) := by decide +kernel
theorem dX12_ring_112 : decode cX12_ring 112 = .ok (.istore_n 2, 1) := by decide +kernel
theorem dX12_ring_113 : decode cX12_ring 113 = .ok (.iinc 3 1, 3) := by decide +kernel
theorem dX12_ring_116 : decode cX12_ring 116 = .ok (.goto (-62), 3) := by decide +kernel
theorem dX12_ring_119 : decode cX12_ring 119 = .ok (.goto (-73), 3) := by decide +kernel
theorem dX12_ring_12 : decode cX12_ring 12 = .ok (.iconst (-1), 1) := by decide +kernel
theorem dX12_ring_122 : decode cX12_ring 122 = .ok (.aload_n 0, 1) := by decide +kernel
theorem dX12_ring_123 : decode cX12_ring 123 = .ok (.iconst 0, 1) := by decide +kernel
theorem dX12_ring_124 : decode cX12_ring 124 = .ok (.putfield 388, 3) := by decide +kernel
theorem dX12_ring_127 : decode cX12_ring 127 = .ok (.iconst 0, 1) := by decide +kernel
theorem dX12_ring_128 : decode cX12_ring 128 = .ok (.istore_n 3, 1) := by decide +kernel
theorem dX12_ring_129 : decode cX12_ring 129 = .ok (.iload_n 3, 1) := by decide +kernel
theorem dX12_ring_13 : decode cX12_ring 13 = .ok (.ireturn, 1) := by decide +kernel
theorem dX12_ring_130 : decode cX12_ring 130 = .ok (.bipush 6, 2) := by decide +kernel
theorem dX12_ring_132 : decode cX12_ring 132 = .ok (.if_icmp .ge 23, 3) := by decide +kernel
theorem dX12_ring_135 : decode cX12_ring 135 = .ok (.aload_n 0, 1) := by decide +kernel
theorem dX12_ring_136 : decode cX12_ring 136 = .ok (.getfield 120, 3) := by decide +kernel
theorem dX12_ring_139 : decode cX12_ring 139 = .ok (.iload_n 3, 1) := by decide +kernel
theorem dX12_ring_14 : decode cX12_ring 14 = .ok (.iconst 0, 1) := by decide +kernel
theorem dX12_ring_140 : decode cX12_ring 140 = .ok (.baload, 1) := by decide +kernel
theorem dX12_ring_141 : decode cX12_ring 141 = .ok (.ifCond .eq 8, 3) := by decide +kernel
theorem dX12_ring_144 : decode cX12_ring 144 = .ok (.aload_n 0, 1) := by decide +kernel
theorem dX12_ring_145 : decode cX12_ring 145 = .ok (.iload_n 3, 1) := by decide +kernel
theorem dX12_ring_146 : decode cX12_ring 146 = .ok (.invokevirtual 394, 3) := by decide +kernel
theorem dX12_ring_149 : decode cX12_ring 149 = .ok (.iinc 3 1, 3) := by decide +kernel
theorem dX12_ring_15 : decode cX12_ring 15 = .ok (.istore_n 2, 1) := by decide +kernel
theorem dX12_ring_152 : decode cX12_ring 152 = .ok (.goto (-23), 3) := by decide +kernel
theorem dX12_ring_155 : decode cX12_ring 155 = .ok (.aload_n 0, 1) := by decide +kernel
theorem dX12_ring_156 : decode cX12_ring 156 = .ok (.getfield 388, 3) := by decide +kernel
theorem dX12_ring_159 : decode cX12_ring 159 = .ok (.ireturn, 1) := by decide +kernel
theorem dX12_ring_16 : decode cX12_ring 16 = .ok (.iload_n 2, 1) := by decide +kernel
theorem dX12_ring_17 : decode cX12_ring 17 = .ok (.bipush 6, 2) := by decide +kernel
theorem dX12_ring_19 : decode cX12_ring 19 = .ok (.if_icmp .ge 25, 3) := by decide +kernel
theorem dX12_ring_2 : decode cX12_ring 2 = .ok (.putfield 150, 3) := by decide +kernel
theorem dX12_ring_22 : decode cX12_ring 22 = .ok (.aload_n 0, 1) := by decide +kernel
theorem dX12_ring_23 : decode cX12_ring 23 = .ok (.getfield 120, 3) := by decide +kernel
theorem dX12_ring_26 : decode cX12_ring 26 = .ok (.iload_n 2, 1) := by decide +kernel
theorem dX12_ring_27 : decode cX12_ring 27 = .ok (.iload_n 2, 1) := by decide +kernel
theorem dX12_ring_28 : decode cX12_ring 28 = .ok (.iload_n 1, 1) := by decide +kernel
theorem dX12_ring_29 : decode cX12_ring 29 = .ok (.if_icmp .ne 7, 3) := by decide +kernel
theorem dX12_ring_32 : decode cX12_ring 32 = .ok (.iconst 1, 1) := by decide +kernel
theorem dX12_ring_33 : decode cX12_ring 33 = .ok (.goto 4, 3) := by decide +kernel
theorem dX12_ring_36 : decode cX12_ring 36 = .ok (.iconst 0, 1) := by decide +kernel
theorem dX12_ring_37 : decode cX12_ring 37 = .ok (.bastore, 1) := by decide +kernel
theorem dX12_ring_38 : decode cX12_ring 38 = .ok (.iinc 2 1, 3) := by decide +kernel
theorem dX12_ring_41 : decode cX12_ring 41 = .ok (.goto (-25), 3) := by decide +kernel
theorem dX12_ring_44 : decode cX12_ring 44 = .ok (.iconst 1, 1) := by decide +kernel
theorem dX12_ring_45 : decode cX12_ring 45 = .ok (.istore_n 2, 1) := by decide +kernel
theorem dX12_ring_46 : decode cX12_ring 46 = .ok (.iload_n 2, 1) := by decide +kernel
theorem dX12_ring_47 : decode cX12_ring 47 = .ok (.ifCond .eq 75, 3) := by decide +kernel
theorem dX12_ring_5 : decode cX12_ring 5 = .ok (.iload_n 1, 1) := by decide +kernel
theorem dX12_ring_50 : decode cX12_ring 50 = .ok (.iconst 0, 1) := by decide +kernel
theorem dX12_ring_51 : decode cX12_ring 51 = .ok (.istore_n 2, 1) := by decide +kernel
theorem dX12_ring_52 : decode cX12_ring 52 = .ok (.iconst 0, 1) := by decide +kernel
theorem dX12_ring_53 : decode cX12_ring 53 = .ok (.istore_n 3, 1) := by decide +kernel
theorem dX12_ring_54 : decode cX12_ring 54 = .ok (.iload_n 3, 1) := by decide +kernel
theorem dX12_ring_55 : decode cX12_ring 55 = .ok (.aload_n 0, 1) := by decide +kernel
theorem dX12_ring_56 : decode cX12_ring 56 = .ok (.getfield 409, 3) := by decide +kernel
theorem dX12_ring_59 : decode cX12_ring 59 = .ok (.if_icmp .ge 60, 3) := by decide +kernel
theorem dX12_ring_6 : decode cX12_ring 6 = .ok (.invokestatic 208, 3) := by decide +kernel
theorem dX12_ring_62 : decode cX12_ring 62 = .ok (.aload_n 0, 1) := by decide +kernel
theorem dX12_ring_63 : decode cX12_ring 63 = .ok (.getfield 120, 3) := by decide +kernel
theorem dX12_ring_66 : decode cX12_ring 66 = .ok (.aload_n 0, 1) := by decide +kernel
theorem dX12_ring_67 : decode cX12_ring 67 = .ok (.getfield 108, 3) := by decide +kernel
theorem dX12_ring_70 : decode cX12_ring 70 = .ok (.iload_n 3, 1) := by decide +kernel
theorem dX12_ring_71 : decode cX12_ring 71 = .ok (.iaload, 1) := by decide +kernel
theorem dX12_ring_72 : decode cX12_ring 72 = .ok (.baload, 1) := by decide +kernel
theorem dX12_ring_73 : decode cX12_ring 73 = .ok (.aload_n 0, 1) := by decide +kernel
theorem dX12_ring_74 : decode cX12_ring 74 = .ok (.getfield 120, 3) := by decide +kernel
theorem dX12_ring_77 : decode cX12_ring 77 = .ok (.aload_n 0, 1) := by decide +kernel
theorem dX12_ring_78 : decode cX12_ring 78 = .ok (.getfield 111, 3) := by decide +kernel
theorem dX12_ring_81 : decode cX12_ring 81 = .ok (.iload_n 3, 1) := by decide +kernel
theorem dX12_ring_82 : decode cX12_ring 82 = .ok (.iaload, 1) := by decide +kernel
theorem dX12_ring_83 : decode cX12_ring 83 = .ok (.baload, 1) := by decide +kernel
theorem dX12_ring_84 : decode cX12_ring 84 = .ok (.if_icmp .eq 29, 3) := by decide +kernel
theorem dX12_ring_87 : decode cX12_ring 87 = .ok (.aload_n 0, 1) := by decide +kernel
theorem dX12_ring_88 : decode cX12_ring 88 = .ok (.getfield 120, 3) := by decide +kernel
theorem dX12_ring_9 : decode cX12_ring 9 = .ok (.ifCond .ne 5, 3) := by decide +kernel
theorem dX12_ring_91 : decode cX12_ring 91 = .ok (.aload_n 0, 1) := by decide +kernel
theorem dX12_ring_92 : decode cX12_ring 92 = .ok (.getfield 108, 3) := by decide +kernel
theorem dX12_ring_95 : decode cX12_ring 95 = .ok (.iload_n 3, 1) := by decide +kernel
theorem dX12_ring_96 : decode cX12_ring 96 = .ok (.iaload, 1) := by decide +kernel
theorem dX12_ring_97 : decode cX12_ring 97 = .ok (.iconst 1, 1) := by decide +kernel
theorem dX12_ring_98 : decode cX12_ring 98 = .ok (.bastore, 1) := by decide +kernel
theorem dX12_ring_99 : decode cX12_ring 99 = .ok (.aload_n 0, 1) := by decide +kernel
theorem dX12_row_0 : decode cX12_row 0 = .ok (.aload_n 0, 1) := by decide +kernel
theorem dX12_row_1 : decode cX12_row 1 = .ok (.iconst 0, 1) := by decide +kernel
theorem dX12_row_12 : decode cX12_row 12 = .ok (.iconst 1, 1) := by decide +kernel
theorem dX12_row_13 : decode cX12_row 13 = .ok (.isub, 1) := by decide +kernel
theorem dX12_row_14 : decode cX12_row 14 = .ok (.i2l, 1) := by decide +kernel
theorem dX12_row_15 : decode cX12_row 15 = .ok (.invokestatic 156, 3) := by decide +kernel
theorem dX12_row_18 : decode cX12_row 18 = .ok (.ifCond .eq 12, 3) := by decide +kernel
theorem dX12_row_2 : decode cX12_row 2 = .ok (.putfield 150, 3) := by decide +kernel
theorem dX12_row_21 : decode cX12_row 21 = .ok (.aload_n 0, 1) := by decide +kernel
theorem dX12_row_22 : decode cX12_row 22 = .ok (.getfield 102, 3) := by decide +kernel
theorem dX12_row_25 : decode cX12_row 25 = .ok (.iload_n 1, 1) := by decide +kernel
theorem dX12_row_26 : decode cX12_row 26 = .ok (.iaload, 1) := by decide +kernel
theorem dX12_row_27 : decode cX12_row 27 = .ok (.goto 7, 3) := by decide +kernel
theorem dX12_row_30 : decode cX12_row 30 = .ok (.aload_n 0, 1) := by decide +kernel
theorem dX12_row_31 : decode cX12_row 31 = .ok (.invokevirtual 347, 3) := by decide +kernel
theorem dX12_row_34 : decode cX12_row 34 = .ok (.ireturn, 1) := by decide +kernel
theorem dX12_row_5 : decode cX12_row 5 = .ok (.iload_n 1, 1) := by decide +kernel
theorem dX12_row_6 : decode cX12_row 6 = .ok (.i2l, 1) := by decide +kernel
theorem dX12_row_7 : decode cX12_row 7 = .ok (.lconst 0, 1) := by decide +kernel
theorem dX12_row_8 : decode cX12_row 8 = .ok (.aload_n 0, 1) := by decide +kernel
theorem dX12_row_9 : decode cX12_row 9 = .ok (.getfield 388, 3) := by decide +kernel
theorem dX12_says_0 : decode cX12_says 0 = .ok (.aload_n 0, 1) := by decide +kernel
theorem dX12_says_1 : decode cX12_says 1 = .ok (.getfield 81, 3) := by decide +kernel
theorem dX12_says_11 : decode cX12_says 11 = .ok (.iload_n 2, 1) := by decide +kernel
theorem dX12_says_12 : decode cX12_says 12 = .ok (.iastore, 1) := by decide +kernel
theorem dX12_says_13 : decode cX12_says 13 = .ok (.return_, 1) := by decide +kernel
theorem dX12_says_4 : decode cX12_says 4 = .ok (.ldc_w 270, 3) := by decide +kernel
theorem dX12_says_7 : decode cX12_says 7 = .ok (.iload_n 1, 1) := by decide +kernel
theorem dX12_says_8 : decode cX12_says 8 = .ok (.invokevirtual 262, 3) := by decide +kernel
theorem dX12_share_0 : decode cX12_share 0 = .ok (.aload_n 0, 1) := by decide +kernel
theorem dX12_share_1 : decode cX12_share 1 = .ok (.iconst 0, 1) := by decide +kernel
theorem dX12_share_10 : decode cX12_share 10 = .ok (.aload_n 0, 1) := by decide +kernel
theorem dX12_share_11 : decode cX12_share 11 = .ok (.iconst 0, 1) := by decide +kernel
theorem dX12_share_12 : decode cX12_share 12 = .ok (.iconst 0, 1) := by decide +kernel
theorem dX12_share_13 : decode cX12_share 13 = .ok (.invokevirtual 429, 3) := by decide +kernel
theorem dX12_share_16 : decode cX12_share 16 = .ok (.aload_n 0, 1) := by decide +kernel
theorem dX12_share_17 : decode cX12_share 17 = .ok (.iconst 0, 1) := by decide +kernel
theorem dX12_share_18 : decode cX12_share 18 = .ok (.putfield 388, 3) := by decide +kernel
theorem dX12_share_2 : decode cX12_share 2 = .ok (.putfield 150, 3) := by decide +kernel
theorem dX12_share_21 : decode cX12_share 21 = .ok (.iconst 0, 1) := by decide +kernel
theorem dX12_share_22 : decode cX12_share 22 = .ok (.istore_n 1, 1) := by decide +kernel
theorem dX12_share_23 : decode cX12_share 23 = .ok (.iload_n 1, 1) := by decide +kernel
theorem dX12_share_24 : decode cX12_share 24 = .ok (.aload_n 0, 1) := by decide +kernel
theorem dX12_share_25 : decode cX12_share 25 = .ok (.getfield 420, 3) := by decide +kernel
theorem dX12_share_28 : decode cX12_share 28 = .ok (.if_icmp .ge 19, 3) := by decide +kernel
theorem dX12_share_31 : decode cX12_share 31 = .ok (.aload_n 0, 1) := by decide +kernel
theorem dX12_share_32 : decode cX12_share 32 = .ok (.aload_n 0, 1) := by decide +kernel
theorem dX12_share_33 : decode cX12_share 33 = .ok (.getfield 144, 3) := by decide +kernel
theorem dX12_share_36 : decode cX12_share 36 = .ok (.iload_n 1, 1) := by decide +kernel
theorem dX12_share_37 : decode cX12_share 37 = .ok (.iaload, 1) := by decide +kernel
theorem dX12_share_38 : decode cX12_share 38 = .ok (.invokevirtual 394, 3) := by decide +kernel
theorem dX12_share_41 : decode cX12_share 41 = .ok (.iinc 1 1, 3) := by decide +kernel
theorem dX12_share_44 : decode cX12_share 44 = .ok (.goto (-21), 3) := by decide +kernel
theorem dX12_share_47 : decode cX12_share 47 = .ok (.aload_n 0, 1) := by decide +kernel
theorem dX12_share_48 : decode cX12_share 48 = .ok (.getfield 426, 3) := by decide +kernel
theorem dX12_share_5 : decode cX12_share 5 = .ok (.aload_n 0, 1) := by decide +kernel
theorem dX12_share_51 : decode cX12_share 51 = .ok (.ireturn, 1) := by decide +kernel
theorem dX12_share_6 : decode cX12_share 6 = .ok (.iconst (-1), 1) := by decide +kernel
theorem dX12_share_7 : decode cX12_share 7 = .ok (.putfield 426, 3) := by decide +kernel
theorem dX12_shares_0 : decode cX12_shares 0 = .ok (.iload_n 1, 1) := by decide +kernel
theorem dX12_shares_1 : decode cX12_shares 1 = .ok (.aload_n 0, 1) := by decide +kernel
theorem dX12_shares_10 : decode cX12_shares 10 = .ok (.getfield 426, 3) := by decide +kernel
theorem dX12_shares_102 : decode cX12_shares 102 = .ok (.iload_n 1, 1) := by decide +kernel
theorem dX12_shares_103 : decode cX12_shares 103 = .ok (.iload_n 3, 1) := by decide +kernel
theorem dX12_shares_104 : decode cX12_shares 104 = .ok (.iastore, 1) := by decide +kernel
theorem dX12_shares_105 : decode cX12_shares 105 = .ok (.aload_n 0, 1) := by decide +kernel
theorem dX12_shares_106 : decode cX12_shares 106 = .ok (.iload_n 1, 1) := by decide +kernel
theorem dX12_shares_107 : decode cX12_shares 107 = .ok (.iconst 1, 1) := by decide +kernel
theorem dX12_shares_108 : decode cX12_shares 108 = .ok (.iadd, 1) := by decide +kernel
theorem dX12_shares_109 : decode cX12_shares 109 = .ok (.iload_n 2, 1) := by decide +kernel
theorem dX12_shares_110 : decode cX12_shares 110 = .ok (.iload 4, 2) := by decide +kernel
theorem dX12_shares_112 : decode cX12_shares 112 = .ok (.iadd, 1) := by decide +kernel
theorem dX12_shares_113 : decode cX12_shares 113 = .ok (.invokevirtual 429, 3) := by decide +kernel
theorem dX12_shares_116 : decode cX12_shares 116 = .ok (.aload_n 0, 1) := by decide +kernel
theorem dX12_shares_117 : decode cX12_shares 117 = .ok (.getfield 147, 3) := by decide +kernel
theorem dX12_shares_120 : decode cX12_shares 120 = .ok (.iload_n 3, 1) := by decide +kernel
theorem dX12_shares_121 : decode cX12_shares 121 = .ok (.dup2, 1) := by decide +kernel
theorem dX12_shares_122 : decode cX12_shares 122 = .ok (.iaload, 1) := by decide +kernel
theorem dX12_shares_123 : decode cX12_shares 123 = .ok (.iconst 1, 1) := by decide +kernel
theorem dX12_shares_124 : decode cX12_shares 124 = .ok (.isub, 1) := by decide +kernel
theorem dX12_shares_125 : decode cX12_shares 125 = .ok (.iastore, 1) := by decide +kernel
theorem dX12_shares_126 : decode cX12_shares 126 = .ok (.iinc 3 1, 3) := by decide +kernel
theorem dX12_shares_129 : decode cX12_shares 129 = .ok (.goto (-77), 3) := by decide +kernel
theorem dX12_shares_13 : decode cX12_shares 13 = .ok (.if_icmp .le 36, 3) := by decide +kernel
theorem dX12_shares_132 : decode cX12_shares 132 = .ok (.aload_n 0, 1) := by decide +kernel
theorem dX12_shares_133 : decode cX12_shares 133 = .ok (.getfield 141, 3) := by decide +kernel
theorem dX12_shares_136 : decode cX12_shares 136 = .ok (.iload_n 1, 1) := by decide +kernel
theorem dX12_shares_137 : decode cX12_shares 137 = .ok (.iconst (-1), 1) := by decide +kernel
theorem dX12_shares_138 : decode cX12_shares 138 = .ok (.iastore, 1) := by decide +kernel
theorem dX12_shares_139 : decode cX12_shares 139 = .ok (.aload_n 0, 1) := by decide +kernel
theorem dX12_shares_140 : decode cX12_shares 140 = .ok (.iload_n 1, 1) := by decide +kernel
theorem dX12_shares_141 : decode cX12_shares 141 = .ok (.iconst 1, 1) := by decide +kernel
theorem dX12_shares_142 : decode cX12_shares 142 = .ok (.iadd, 1) := by decide +kernel
theorem dX12_shares_143 : decode cX12_shares 143 = .ok (.iload_n 2, 1) := by decide +kernel
theorem dX12_shares_144 : decode cX12_shares 144 = .ok (.invokevirtual 429, 3) := by decide +kernel
theorem dX12_shares_147 : decode cX12_shares 147 = .ok (.return_, 1) := by decide +kernel
theorem dX12_shares_16 : decode cX12_shares 16 = .ok (.aload_n 0, 1) := by decide +kernel
theorem dX12_shares_17 : decode cX12_shares 17 = .ok (.iload_n 2, 1) := by decide +kernel
theorem dX12_shares_18 : decode cX12_shares 18 = .ok (.putfield 426, 3) := by decide +kernel
theorem dX12_shares_2 : decode cX12_shares 2 = .ok (.getfield 420, 3) := by decide +kernel
theorem dX12_shares_21 : decode cX12_shares 21 = .ok (.iconst 0, 1) := by decide +kernel
theorem dX12_shares_22 : decode cX12_shares 22 = .ok (.istore_n 3, 1) := by decide +kernel
theorem dX12_shares_23 : decode cX12_shares 23 = .ok (.iload_n 3, 1) := by decide +kernel
theorem dX12_shares_24 : decode cX12_shares 24 = .ok (.aload_n 0, 1) := by decide +kernel
theorem dX12_shares_25 : decode cX12_shares 25 = .ok (.getfield 420, 3) := by decide +kernel
theorem dX12_shares_28 : decode cX12_shares 28 = .ok (.if_icmp .ge 21, 3) := by decide +kernel
theorem dX12_shares_31 : decode cX12_shares 31 = .ok (.aload_n 0, 1) := by decide +kernel
theorem dX12_shares_32 : decode cX12_shares 32 = .ok (.getfield 144, 3) := by decide +kernel
theorem dX12_shares_35 : decode cX12_shares 35 = .ok (.iload_n 3, 1) := by decide +kernel
theorem dX12_shares_36 : decode cX12_shares 36 = .ok (.aload_n 0, 1) := by decide +kernel
theorem dX12_shares_37 : decode cX12_shares 37 = .ok (.getfield 141, 3) := by decide +kernel
theorem dX12_shares_40 : decode cX12_shares 40 = .ok (.iload_n 3, 1) := by decide +kernel
theorem dX12_shares_41 : decode cX12_shares 41 = .ok (.iaload, 1) := by decide +kernel
theorem dX12_shares_42 : decode cX12_shares 42 = .ok (.iastore, 1) := by decide +kernel
theorem dX12_shares_43 : decode cX12_shares 43 = .ok (.iinc 3 1, 3) := by decide +kernel
theorem dX12_shares_46 : decode cX12_shares 46 = .ok (.goto (-23), 3) := by decide +kernel
theorem dX12_shares_49 : decode cX12_shares 49 = .ok (.return_, 1) := by decide +kernel
theorem dX12_shares_5 : decode cX12_shares 5 = .ok (.if_icmp .ne 45, 3) := by decide +kernel
theorem dX12_shares_50 : decode cX12_shares 50 = .ok (.iconst 0, 1) := by decide +kernel
theorem dX12_shares_51 : decode cX12_shares 51 = .ok (.istore_n 3, 1) := by decide +kernel
theorem dX12_shares_52 : decode cX12_shares 52 = .ok (.iload_n 3, 1) := by decide +kernel
theorem dX12_shares_53 : decode cX12_shares 53 = .ok (.iconst 4, 1) := by decide +kernel
theorem dX12_shares_54 : decode cX12_shares 54 = .ok (.if_icmp .ge 78, 3) := by decide +kernel
theorem dX12_shares_57 : decode cX12_shares 57 = .ok (.aload_n 0, 1) := by decide +kernel
theorem dX12_shares_58 : decode cX12_shares 58 = .ok (.iload_n 3, 1) := by decide +kernel
theorem dX12_shares_59 : decode cX12_shares 59 = .ok (.iload_n 1, 1) := by decide +kernel
theorem dX12_shares_60 : decode cX12_shares 60 = .ok (.invokevirtual 423, 3) := by decide +kernel
theorem dX12_shares_63 : decode cX12_shares 63 = .ok (.istore 4, 2) := by decide +kernel
theorem dX12_shares_65 : decode cX12_shares 65 = .ok (.iload 4, 2) := by decide +kernel
theorem dX12_shares_67 : decode cX12_shares 67 = .ok (.ifCond .lt 59, 3) := by decide +kernel
theorem dX12_shares_70 : decode cX12_shares 70 = .ok (.aload_n 0, 1) := by decide +kernel
theorem dX12_shares_71 : decode cX12_shares 71 = .ok (.getfield 147, 3) := by decide +kernel
theorem dX12_shares_74 : decode cX12_shares 74 = .ok (.iload_n 3, 1) := by decide +kernel
theorem dX12_shares_75 : decode cX12_shares 75 = .ok (.iaload, 1) := by decide +kernel
theorem dX12_shares_76 : decode cX12_shares 76 = .ok (.aload_n 0, 1) := by decide +kernel
theorem dX12_shares_77 : decode cX12_shares 77 = .ok (.getfield 126, 3) := by decide +kernel
theorem dX12_shares_8 : decode cX12_shares 8 = .ok (.iload_n 2, 1) := by decide +kernel
theorem dX12_shares_80 : decode cX12_shares 80 = .ok (.iload_n 3, 1) := by decide +kernel
theorem dX12_shares_81 : decode cX12_shares 81 = .ok (.iaload, 1) := by decide +kernel
theorem dX12_shares_82 : decode cX12_shares 82 = .ok (.if_icmp .ne 6, 3) := by decide +kernel
theorem dX12_shares_85 : decode cX12_shares 85 = .ok (.goto 41, 3) := by decide +kernel
theorem dX12_shares_88 : decode cX12_shares 88 = .ok (.aload_n 0, 1) := by decide +kernel
theorem dX12_shares_89 : decode cX12_shares 89 = .ok (.getfield 147, 3) := by decide +kernel
theorem dX12_shares_9 : decode cX12_shares 9 = .ok (.aload_n 0, 1) := by decide +kernel
theorem dX12_shares_92 : decode cX12_shares 92 = .ok (.iload_n 3, 1) := by decide +kernel
theorem dX12_shares_93 : decode cX12_shares 93 = .ok (.dup2, 1) := by decide +kernel
theorem dX12_shares_94 : decode cX12_shares 94 = .ok (.iaload, 1) := by decide +kernel
theorem dX12_shares_95 : decode cX12_shares 95 = .ok (.iconst 1, 1) := by decide +kernel
theorem dX12_shares_96 : decode cX12_shares 96 = .ok (.iadd, 1) := by decide +kernel
theorem dX12_shares_97 : decode cX12_shares 97 = .ok (.iastore, 1) := by decide +kernel
theorem dX12_shares_98 : decode cX12_shares 98 = .ok (.aload_n 0, 1) := by decide +kernel
theorem dX12_shares_99 : decode cX12_shares 99 = .ok (.getfield 141, 3) := by decide +kernel
theorem dX12_sign_0 : decode cX12_sign 0 = .ok (.aload_n 0, 1) := by decide +kernel
theorem dX12_sign_1 : decode cX12_sign 1 = .ok (.iconst 0, 1) := by decide +kernel
theorem dX12_sign_11 : decode cX12_sign 11 = .ok (.if_icmp .le 5, 3) := by decide +kernel
theorem dX12_sign_14 : decode cX12_sign 14 = .ok (.iconst (-1), 1) := by decide +kernel
theorem dX12_sign_15 : decode cX12_sign 15 = .ok (.ireturn, 1) := by decide +kernel
theorem dX12_sign_16 : decode cX12_sign 16 = .ok (.iconst 0, 1) := by decide +kernel
theorem dX12_sign_17 : decode cX12_sign 17 = .ok (.istore_n 2, 1) := by decide +kernel
theorem dX12_sign_18 : decode cX12_sign 18 = .ok (.iload_n 2, 1) := by decide +kernel
theorem dX12_sign_19 : decode cX12_sign 19 = .ok (.iconst 4, 1) := by decide +kernel
theorem dX12_sign_2 : decode cX12_sign 2 = .ok (.putfield 150, 3) := by decide +kernel
theorem dX12_sign_20 : decode cX12_sign 20 = .ok (.if_icmp .ge 33, 3) := by decide +kernel
theorem dX12_sign_23 : decode cX12_sign 23 = .ok (.aload_n 0, 1) := by decide +kernel
theorem dX12_sign_24 : decode cX12_sign 24 = .ok (.getfield 84, 3) := by decide +kernel
theorem dX12_sign_27 : decode cX12_sign 27 = .ok (.aload_n 0, 1) := by decide +kernel
theorem dX12_sign_28 : decode cX12_sign 28 = .ok (.getfield 256, 3) := by decide +kernel
theorem dX12_sign_31 : decode cX12_sign 31 = .ok (.iload_n 2, 1) := by decide +kernel
theorem dX12_sign_32 : decode cX12_sign 32 = .ok (.iadd, 1) := by decide +kernel
theorem dX12_sign_33 : decode cX12_sign 33 = .ok (.iload_n 1, 1) := by decide +kernel
theorem dX12_sign_34 : decode cX12_sign 34 = .ok (.bipush 24, 2) := by decide +kernel
theorem dX12_sign_36 : decode cX12_sign 36 = .ok (.bipush 8, 2) := by decide +kernel
theorem dX12_sign_38 : decode cX12_sign 38 = .ok (.iload_n 2, 1) := by decide +kernel
theorem dX12_sign_39 : decode cX12_sign 39 = .ok (.imul, 1) := by decide +kernel
theorem dX12_sign_40 : decode cX12_sign 40 = .ok (.isub, 1) := by decide +kernel
theorem dX12_sign_41 : decode cX12_sign 41 = .ok (.ishr, 1) := by decide +kernel
theorem dX12_sign_42 : decode cX12_sign 42 = .ok (.sipush 255, 3) := by decide +kernel
theorem dX12_sign_45 : decode cX12_sign 45 = .ok (.iand, 1) := by decide +kernel
theorem dX12_sign_46 : decode cX12_sign 46 = .ok (.iastore, 1) := by decide +kernel
theorem dX12_sign_47 : decode cX12_sign 47 = .ok (.iinc 2 1, 3) := by decide +kernel
theorem dX12_sign_5 : decode cX12_sign 5 = .ok (.aload_n 0, 1) := by decide +kernel
theorem dX12_sign_50 : decode cX12_sign 50 = .ok (.goto (-32), 3) := by decide +kernel
theorem dX12_sign_53 : decode cX12_sign 53 = .ok (.aload_n 0, 1) := by decide +kernel
theorem dX12_sign_54 : decode cX12_sign 54 = .ok (.dup, 1) := by decide +kernel
theorem dX12_sign_55 : decode cX12_sign 55 = .ok (.getfield 256, 3) := by decide +kernel
theorem dX12_sign_58 : decode cX12_sign 58 = .ok (.iconst 4, 1) := by decide +kernel
theorem dX12_sign_59 : decode cX12_sign 59 = .ok (.iadd, 1) := by decide +kernel
theorem dX12_sign_6 : decode cX12_sign 6 = .ok (.getfield 256, 3) := by decide +kernel
theorem dX12_sign_60 : decode cX12_sign 60 = .ok (.putfield 256, 3) := by decide +kernel
theorem dX12_sign_63 : decode cX12_sign 63 = .ok (.aload_n 0, 1) := by decide +kernel
theorem dX12_sign_64 : decode cX12_sign 64 = .ok (.getfield 256, 3) := by decide +kernel
theorem dX12_sign_67 : decode cX12_sign 67 = .ok (.ireturn, 1) := by decide +kernel
theorem dX12_sign_9 : decode cX12_sign 9 = .ok (.bipush 96, 2) := by decide +kernel
theorem dX12_some_0 : decode cX12_some 0 = .ok (.aload_n 0, 1) := by decide +kernel
theorem dX12_some_1 : decode cX12_some 1 = .ok (.iload_n 1, 1) := by decide +kernel
theorem dX12_some_10 : decode cX12_some 10 = .ok (.aload_n 0, 1) := by decide +kernel
theorem dX12_some_11 : decode cX12_some 11 = .ok (.iload_n 1, 1) := by decide +kernel
theorem dX12_some_12 : decode cX12_some 12 = .ok (.bipush 124, 2) := by decide +kernel
theorem dX12_some_14 : decode cX12_some 14 = .ok (.invokevirtual 282, 3) := by decide +kernel
theorem dX12_some_17 : decode cX12_some 17 = .ok (.ifCond .eq 35, 3) := by decide +kernel
theorem dX12_some_2 : decode cX12_some 2 = .ok (.invokevirtual 315, 3) := by decide +kernel
theorem dX12_some_20 : decode cX12_some 20 = .ok (.aload_n 0, 1) := by decide +kernel
theorem dX12_some_21 : decode cX12_some 21 = .ok (.dup, 1) := by decide +kernel
theorem dX12_some_22 : decode cX12_some 22 = .ok (.getfield 259, 3) := by decide +kernel
theorem dX12_some_25 : decode cX12_some 25 = .ok (.iconst 1, 1) := by decide +kernel
theorem dX12_some_26 : decode cX12_some 26 = .ok (.iadd, 1) := by decide +kernel
theorem dX12_some_27 : decode cX12_some 27 = .ok (.putfield 259, 3) := by decide +kernel
theorem dX12_some_30 : decode cX12_some 30 = .ok (.aload_n 0, 1) := by decide +kernel
theorem dX12_some_31 : decode cX12_some 31 = .ok (.iload_n 1, 1) := by decide +kernel
theorem dX12_some_32 : decode cX12_some 32 = .ok (.invokevirtual 315, 3) := by decide +kernel
theorem dX12_some_35 : decode cX12_some 35 = .ok (.istore_n 2, 1) := by decide +kernel
theorem dX12_some_36 : decode cX12_some 36 = .ok (.iload_n 2, 1) := by decide +kernel
theorem dX12_some_37 : decode cX12_some 37 = .ok (.ifCond .eq (-31), 3) := by decide +kernel
theorem dX12_some_40 : decode cX12_some 40 = .ok (.aload_n 0, 1) := by decide +kernel
theorem dX12_some_41 : decode cX12_some 41 = .ok (.bipush 124, 2) := by decide +kernel
theorem dX12_some_43 : decode cX12_some 43 = .ok (.invokestatic 297, 3) := by decide +kernel
theorem dX12_some_46 : decode cX12_some 46 = .ok (.invokevirtual 276, 3) := by decide +kernel
theorem dX12_some_49 : decode cX12_some 49 = .ok (.goto (-43), 3) := by decide +kernel
theorem dX12_some_5 : decode cX12_some 5 = .ok (.istore_n 2, 1) := by decide +kernel
theorem dX12_some_52 : decode cX12_some 52 = .ok (.iload_n 2, 1) := by decide +kernel
theorem dX12_some_53 : decode cX12_some 53 = .ok (.ireturn, 1) := by decide +kernel
theorem dX12_some_6 : decode cX12_some 6 = .ok (.iload_n 2, 1) := by decide +kernel
theorem dX12_some_7 : decode cX12_some 7 = .ok (.ifCond .eq 45, 3) := by decide +kernel
theorem dX12_sort_0 : decode cX12_sort 0 = .ok (.aload_n 0, 1) := by decide +kernel
theorem dX12_sort_1 : decode cX12_sort 1 = .ok (.iconst 0, 1) := by decide +kernel
theorem dX12_sort_100 : decode cX12_sort 100 = .ok (.aload_n 0, 1) := by decide +kernel
theorem dX12_sort_101 : decode cX12_sort 101 = .ok (.iload 7, 2) := by decide +kernel
theorem dX12_sort_103 : decode cX12_sort 103 = .ok (.invokevirtual 166, 3) := by decide +kernel
theorem dX12_sort_106 : decode cX12_sort 106 = .ok (.ifCond .eq 12, 3) := by decide +kernel
theorem dX12_sort_109 : decode cX12_sort 109 = .ok (.aload_n 0, 1) := by decide +kernel
theorem dX12_sort_11 : decode cX12_sort 11 = .ok (.invokestatic 156, 3) := by decide +kernel
theorem dX12_sort_110 : decode cX12_sort 110 = .ok (.getfield 153, 3) := by decide +kernel
theorem dX12_sort_113 : decode cX12_sort 113 = .ok (.bipush 16, 2) := by decide +kernel
theorem dX12_sort_115 : decode cX12_sort 115 = .ok (.if_icmp .ne 5, 3) := by decide +kernel
theorem dX12_sort_118 : decode cX12_sort 118 = .ok (.iconst (-1), 1) := by decide +kernel
theorem dX12_sort_119 : decode cX12_sort 119 = .ok (.ireturn, 1) := by decide +kernel
theorem dX12_sort_120 : decode cX12_sort 120 = .ok (.bipush 7, 2) := by decide +kernel
theorem dX12_sort_122 : decode cX12_sort 122 = .ok (.aload_n 0, 1) := by decide +kernel
theorem dX12_sort_123 : decode cX12_sort 123 = .ok (.getfield 153, 3) := by decide +kernel
theorem dX12_sort_126 : decode cX12_sort 126 = .ok (.imul, 1) := by decide +kernel
theorem dX12_sort_127 : decode cX12_sort 127 = .ok (.istore 9, 2) := by decide +kernel
theorem dX12_sort_129 : decode cX12_sort 129 = .ok (.aload_n 0, 1) := by decide +kernel
theorem dX12_sort_130 : decode cX12_sort 130 = .ok (.getfield 9, 3) := by decide +kernel
theorem dX12_sort_133 : decode cX12_sort 133 = .ok (.iload 9, 2) := by decide +kernel
theorem dX12_sort_135 : decode cX12_sort 135 = .ok (.iload_n 1, 1) := by decide +kernel
theorem dX12_sort_136 : decode cX12_sort 136 = .ok (.iastore, 1) := by decide +kernel
theorem dX12_sort_137 : decode cX12_sort 137 = .ok (.aload_n 0, 1) := by decide +kernel
theorem dX12_sort_138 : decode cX12_sort 138 = .ok (.getfield 9, 3) := by decide +kernel
theorem dX12_sort_14 : decode cX12_sort 14 = .ok (.ifCond .eq 72, 3) := by decide +kernel
theorem dX12_sort_141 : decode cX12_sort 141 = .ok (.iload 9, 2) := by decide +kernel
theorem dX12_sort_143 : decode cX12_sort 143 = .ok (.iconst 1, 1) := by decide +kernel
theorem dX12_sort_144 : decode cX12_sort 144 = .ok (.iadd, 1) := by decide +kernel
theorem dX12_sort_145 : decode cX12_sort 145 = .ok (.iload_n 2, 1) := by decide +kernel
theorem dX12_sort_146 : decode cX12_sort 146 = .ok (.iastore, 1) := by decide +kernel
theorem dX12_sort_147 : decode cX12_sort 147 = .ok (.aload_n 0, 1) := by decide +kernel
theorem dX12_sort_148 : decode cX12_sort 148 = .ok (.getfield 9, 3) := by decide +kernel
theorem dX12_sort_151 : decode cX12_sort 151 = .ok (.iload 9, 2) := by decide +kernel
theorem dX12_sort_153 : decode cX12_sort 153 = .ok (.iconst 2, 1) := by decide +kernel
theorem dX12_sort_154 : decode cX12_sort 154 = .ok (.iadd, 1) := by decide +kernel
theorem dX12_sort_155 : decode cX12_sort 155 = .ok (.iload_n 3, 1) := by decide +kernel
theorem dX12_sort_156 : decode cX12_sort 156 = .ok (.iastore, 1) := by decide +kernel
theorem dX12_sort_157 : decode cX12_sort 157 = .ok (.aload_n 0, 1) := by decide +kernel
theorem dX12_sort_158 : decode cX12_sort 158 = .ok (.getfield 9, 3) := by decide +kernel
theorem dX12_sort_161 : decode cX12_sort 161 = .ok (.iload 9, 2) := by decide +kernel
theorem dX12_sort_163 : decode cX12_sort 163 = .ok (.iconst 3, 1) := by decide +kernel
theorem dX12_sort_164 : decode cX12_sort 164 = .ok (.iadd, 1) := by decide +kernel
theorem dX12_sort_165 : decode cX12_sort 165 = .ok (.iload 4, 2) := by decide +kernel
theorem dX12_sort_167 : decode cX12_sort 167 = .ok (.iastore, 1) := by decide +kernel
theorem dX12_sort_168 : decode cX12_sort 168 = .ok (.aload_n 0, 1) := by decide +kernel
theorem dX12_sort_169 : decode cX12_sort 169 = .ok (.getfield 9, 3) := by decide +kernel
theorem dX12_sort_17 : decode cX12_sort 17 = .ok (.iload_n 2, 1) := by decide +kernel
theorem dX12_sort_172 : decode cX12_sort 172 = .ok (.iload 9, 2) := by decide +kernel
theorem dX12_sort_174 : decode cX12_sort 174 = .ok (.iconst 4, 1) := by decide +kernel
theorem dX12_sort_175 : decode cX12_sort 175 = .ok (.iadd, 1) := by decide +kernel
theorem dX12_sort_176 : decode cX12_sort 176 = .ok (.iload 5, 2) := by decide +kernel
theorem dX12_sort_178 : decode cX12_sort 178 = .ok (.iastore, 1) := by decide +kernel
theorem dX12_sort_179 : decode cX12_sort 179 = .ok (.aload_n 0, 1) := by decide +kernel
theorem dX12_sort_18 : decode cX12_sort 18 = .ok (.i2l, 1) := by decide +kernel
theorem dX12_sort_180 : decode cX12_sort 180 = .ok (.getfield 9, 3) := by decide +kernel
theorem dX12_sort_183 : decode cX12_sort 183 = .ok (.iload 9, 2) := by decide +kernel
theorem dX12_sort_185 : decode cX12_sort 185 = .ok (.iconst 5, 1) := by decide +kernel
theorem dX12_sort_186 : decode cX12_sort 186 = .ok (.iadd, 1) := by decide +kernel
theorem dX12_sort_187 : decode cX12_sort 187 = .ok (.iload 6, 2) := by decide +kernel
theorem dX12_sort_189 : decode cX12_sort 189 = .ok (.iastore, 1) := by decide +kernel
theorem dX12_sort_19 : decode cX12_sort 19 = .ok (.lconst 0, 1) := by decide +kernel
theorem dX12_sort_190 : decode cX12_sort 190 = .ok (.aload_n 0, 1) := by decide +kernel
theorem dX12_sort_191 : decode cX12_sort 191 = .ok (.getfield 9, 3) := by decide +kernel
theorem dX12_sort_194 : decode cX12_sort 194 = .ok (.iload 9, 2) := by decide +kernel
theorem dX12_sort_196 : decode cX12_sort 196 = .ok (.bipush 6, 2) := by decide +kernel
theorem dX12_sort_198 : decode cX12_sort 198 = .ok (.iadd, 1) := by decide +kernel
theorem dX12_sort_199 : decode cX12_sort 199 = .ok (.iload 7, 2) := by decide +kernel
theorem dX12_sort_2 : decode cX12_sort 2 = .ok (.putfield 150, 3) := by decide +kernel
theorem dX12_sort_20 : decode cX12_sort 20 = .ok (.ldc2_w 162, 3) := by decide +kernel
theorem dX12_sort_201 : decode cX12_sort 201 = .ok (.iastore, 1) := by decide +kernel
theorem dX12_sort_202 : decode cX12_sort 202 = .ok (.aload_n 0, 1) := by decide +kernel
theorem dX12_sort_203 : decode cX12_sort 203 = .ok (.dup, 1) := by decide +kernel
theorem dX12_sort_204 : decode cX12_sort 204 = .ok (.getfield 153, 3) := by decide +kernel
theorem dX12_sort_207 : decode cX12_sort 207 = .ok (.iconst 1, 1) := by decide +kernel
theorem dX12_sort_208 : decode cX12_sort 208 = .ok (.iadd, 1) := by decide +kernel
theorem dX12_sort_209 : decode cX12_sort 209 = .ok (.putfield 153, 3) := by decide +kernel
theorem dX12_sort_212 : decode cX12_sort 212 = .ok (.aload_n 0, 1) := by decide +kernel
theorem dX12_sort_213 : decode cX12_sort 213 = .ok (.getfield 153, 3) := by decide +kernel
theorem dX12_sort_216 : decode cX12_sort 216 = .ok (.iconst 1, 1) := by decide +kernel
theorem dX12_sort_217 : decode cX12_sort 217 = .ok (.isub, 1) := by decide +kernel
theorem dX12_sort_218 : decode cX12_sort 218 = .ok (.ireturn, 1) := by decide +kernel
theorem dX12_sort_23 : decode cX12_sort 23 = .ok (.invokestatic 156, 3) := by decide +kernel
theorem dX12_sort_26 : decode cX12_sort 26 = .ok (.ifCond .eq 60, 3) := by decide +kernel
theorem dX12_sort_29 : decode cX12_sort 29 = .ok (.iload_n 3, 1) := by decide +kernel
theorem dX12_sort_30 : decode cX12_sort 30 = .ok (.i2l, 1) := by decide +kernel
theorem dX12_sort_31 : decode cX12_sort 31 = .ok (.lconst 0, 1) := by decide +kernel
theorem dX12_sort_32 : decode cX12_sort 32 = .ok (.ldc2_w 162, 3) := by decide +kernel
theorem dX12_sort_35 : decode cX12_sort 35 = .ok (.invokestatic 156, 3) := by decide +kernel
theorem dX12_sort_38 : decode cX12_sort 38 = .ok (.ifCond .eq 48, 3) := by decide +kernel
theorem dX12_sort_41 : decode cX12_sort 41 = .ok (.iload 4, 2) := by decide +kernel
theorem dX12_sort_43 : decode cX12_sort 43 = .ok (.i2l, 1) := by decide +kernel
theorem dX12_sort_44 : decode cX12_sort 44 = .ok (.lconst 1, 1) := by decide +kernel
theorem dX12_sort_45 : decode cX12_sort 45 = .ok (.ldc2_w 160, 3) := by decide +kernel
theorem dX12_sort_48 : decode cX12_sort 48 = .ok (.invokestatic 156, 3) := by decide +kernel
theorem dX12_sort_5 : decode cX12_sort 5 = .ok (.iload_n 1, 1) := by decide +kernel
theorem dX12_sort_51 : decode cX12_sort 51 = .ok (.ifCond .eq 35, 3) := by decide +kernel
theorem dX12_sort_54 : decode cX12_sort 54 = .ok (.iload 5, 2) := by decide +kernel
theorem dX12_sort_56 : decode cX12_sort 56 = .ok (.i2l, 1) := by decide +kernel
theorem dX12_sort_57 : decode cX12_sort 57 = .ok (.lconst 0, 1) := by decide +kernel
theorem dX12_sort_58 : decode cX12_sort 58 = .ok (.ldc2_w 164, 3) := by decide +kernel
theorem dX12_sort_6 : decode cX12_sort 6 = .ok (.i2l, 1) := by decide +kernel
theorem dX12_sort_61 : decode cX12_sort 61 = .ok (.invokestatic 156, 3) := by decide +kernel
theorem dX12_sort_64 : decode cX12_sort 64 = .ok (.ifCond .eq 22, 3) := by decide +kernel
theorem dX12_sort_67 : decode cX12_sort 67 = .ok (.iload 6, 2) := by decide +kernel
theorem dX12_sort_69 : decode cX12_sort 69 = .ok (.i2l, 1) := by decide +kernel
theorem dX12_sort_7 : decode cX12_sort 7 = .ok (.lconst 0, 1) := by decide +kernel
theorem dX12_sort_70 : decode cX12_sort 70 = .ok (.iload 5, 2) := by decide +kernel
theorem dX12_sort_72 : decode cX12_sort 72 = .ok (.i2l, 1) := by decide +kernel
theorem dX12_sort_73 : decode cX12_sort 73 = .ok (.ldc2_w 164, 3) := by decide +kernel
theorem dX12_sort_76 : decode cX12_sort 76 = .ok (.invokestatic 156, 3) := by decide +kernel
theorem dX12_sort_79 : decode cX12_sort 79 = .ok (.ifCond .eq 7, 3) := by decide +kernel
theorem dX12_sort_8 : decode cX12_sort 8 = .ok (.ldc2_w 162, 3) := by decide +kernel
theorem dX12_sort_82 : decode cX12_sort 82 = .ok (.iconst 1, 1) := by decide +kernel
theorem dX12_sort_83 : decode cX12_sort 83 = .ok (.goto 4, 3) := by decide +kernel
theorem dX12_sort_86 : decode cX12_sort 86 = .ok (.iconst 0, 1) := by decide +kernel
theorem dX12_sort_87 : decode cX12_sort 87 = .ok (.istore 8, 2) := by decide +kernel
theorem dX12_sort_89 : decode cX12_sort 89 = .ok (.iload 8, 2) := by decide +kernel
theorem dX12_sort_91 : decode cX12_sort 91 = .ok (.ifCond .eq 27, 3) := by decide +kernel
theorem dX12_sort_94 : decode cX12_sort 94 = .ok (.iload 7, 2) := by decide +kernel
theorem dX12_sort_96 : decode cX12_sort 96 = .ok (.iconst (-1), 1) := by decide +kernel
theorem dX12_sort_97 : decode cX12_sort 97 = .ok (.if_icmp .eq 12, 3) := by decide +kernel
theorem dX12_split_0 : decode cX12_split 0 = .ok (.aload_n 0, 1) := by decide +kernel
theorem dX12_split_1 : decode cX12_split 1 = .ok (.iconst 0, 1) := by decide +kernel
theorem dX12_split_10 : decode cX12_split 10 = .ok (.ifCond .eq 10, 3) := by decide +kernel
theorem dX12_split_101 : decode cX12_split 101 = .ok (.iconst 0, 1) := by decide +kernel
theorem dX12_split_102 : decode cX12_split 102 = .ok (.istore 9, 2) := by decide +kernel
theorem dX12_split_104 : decode cX12_split 104 = .ok (.iload 9, 2) := by decide +kernel
theorem dX12_split_106 : decode cX12_split 106 = .ok (.aload_n 0, 1) := by decide +kernel
theorem dX12_split_107 : decode cX12_split 107 = .ok (.getfield 153, 3) := by decide +kernel
theorem dX12_split_110 : decode cX12_split 110 = .ok (.if_icmp .ge 49, 3) := by decide +kernel
theorem dX12_split_113 : decode cX12_split 113 = .ok (.lload 7, 2) := by decide +kernel
theorem dX12_split_115 : decode cX12_split 115 = .ok (.aload_n 0, 1) := by decide +kernel
theorem dX12_split_116 : decode cX12_split 116 = .ok (.iload 9, 2) := by decide +kernel
theorem dX12_split_118 : decode cX12_split 118 = .ok (.invokevirtual 182, 3) := by decide +kernel
theorem dX12_split_121 : decode cX12_split 121 = .ok (.iload_n 1, 1) := by decide +kernel
theorem dX12_split_122 : decode cX12_split 122 = .ok (.if_icmp .ne 27, 3) := by decide +kernel
theorem dX12_split_125 : decode cX12_split 125 = .ok (.lload 5, 2) := by decide +kernel
theorem dX12_split_127 : decode cX12_split 127 = .ok (.aload_n 0, 1) := by decide +kernel
theorem dX12_split_128 : decode cX12_split 128 = .ok (.iload 9, 2) := by decide +kernel
theorem dX12_split_13 : decode cX12_split 13 = .ok (.iload_n 2, 1) := by decide +kernel
theorem dX12_split_130 : decode cX12_split 130 = .ok (.invokevirtual 351, 3) := by decide +kernel
theorem dX12_split_133 : decode cX12_split 133 = .ok (.i2l, 1) := by decide +kernel
theorem dX12_split_134 : decode cX12_split 134 = .ok (.lmul, 1) := by decide +kernel
theorem dX12_split_135 : decode cX12_split 135 = .ok (.lload_n 3, 1) := by decide +kernel
theorem dX12_split_136 : decode cX12_split 136 = .ok (.ldiv, 1) := by decide +kernel
theorem dX12_split_137 : decode cX12_split 137 = .ok (.aload_n 0, 1) := by decide +kernel
theorem dX12_split_138 : decode cX12_split 138 = .ok (.iload 9, 2) := by decide +kernel
theorem dX12_split_14 : decode cX12_split 14 = .ok (.invokestatic 170, 3) := by decide +kernel
theorem dX12_split_140 : decode cX12_split 140 = .ok (.iload_n 2, 1) := by decide +kernel
theorem dX12_split_141 : decode cX12_split 141 = .ok (.invokevirtual 178, 3) := by decide +kernel
theorem dX12_split_144 : decode cX12_split 144 = .ok (.i2l, 1) := by decide +kernel
theorem dX12_split_145 : decode cX12_split 145 = .ok (.lmul, 1) := by decide +kernel
theorem dX12_split_146 : decode cX12_split 146 = .ok (.goto 4, 3) := by decide +kernel
theorem dX12_split_149 : decode cX12_split 149 = .ok (.lconst 0, 1) := by decide +kernel
theorem dX12_split_150 : decode cX12_split 150 = .ok (.ladd, 1) := by decide +kernel
theorem dX12_split_151 : decode cX12_split 151 = .ok (.lstore 7, 2) := by decide +kernel
theorem dX12_split_153 : decode cX12_split 153 = .ok (.iinc 9 1, 3) := by decide +kernel
theorem dX12_split_156 : decode cX12_split 156 = .ok (.goto (-52), 3) := by decide +kernel
theorem dX12_split_159 : decode cX12_split 159 = .ok (.lload 7, 2) := by decide +kernel
theorem dX12_split_161 : decode cX12_split 161 = .ok (.l2i, 1) := by decide +kernel
theorem dX12_split_162 : decode cX12_split 162 = .ok (.ireturn, 1) := by decide +kernel
theorem dX12_split_17 : decode cX12_split 17 = .ok (.ifCond .ne 8, 3) := by decide +kernel
theorem dX12_split_2 : decode cX12_split 2 = .ok (.putfield 150, 3) := by decide +kernel
theorem dX12_split_20 : decode cX12_split 20 = .ok (.aload_n 0, 1) := by decide +kernel
theorem dX12_split_21 : decode cX12_split 21 = .ok (.invokevirtual 347, 3) := by decide +kernel
theorem dX12_split_24 : decode cX12_split 24 = .ok (.ireturn, 1) := by decide +kernel
theorem dX12_split_25 : decode cX12_split 25 = .ok (.lconst 0, 1) := by decide +kernel
theorem dX12_split_26 : decode cX12_split 26 = .ok (.lstore_n 3, 1) := by decide +kernel
theorem dX12_split_27 : decode cX12_split 27 = .ok (.iconst 0, 1) := by decide +kernel
theorem dX12_split_28 : decode cX12_split 28 = .ok (.istore 5, 2) := by decide +kernel
theorem dX12_split_30 : decode cX12_split 30 = .ok (.iload 5, 2) := by decide +kernel
theorem dX12_split_32 : decode cX12_split 32 = .ok (.aload_n 0, 1) := by decide +kernel
theorem dX12_split_33 : decode cX12_split 33 = .ok (.getfield 153, 3) := by decide +kernel
theorem dX12_split_36 : decode cX12_split 36 = .ok (.if_icmp .ge 33, 3) := by decide +kernel
theorem dX12_split_39 : decode cX12_split 39 = .ok (.lload_n 3, 1) := by decide +kernel
theorem dX12_split_40 : decode cX12_split 40 = .ok (.aload_n 0, 1) := by decide +kernel
theorem dX12_split_41 : decode cX12_split 41 = .ok (.iload 5, 2) := by decide +kernel
theorem dX12_split_43 : decode cX12_split 43 = .ok (.invokevirtual 182, 3) := by decide +kernel
theorem dX12_split_46 : decode cX12_split 46 = .ok (.iload_n 1, 1) := by decide +kernel
theorem dX12_split_47 : decode cX12_split 47 = .ok (.if_icmp .ne 13, 3) := by decide +kernel
theorem dX12_split_5 : decode cX12_split 5 = .ok (.aload_n 0, 1) := by decide +kernel
theorem dX12_split_50 : decode cX12_split 50 = .ok (.aload_n 0, 1) := by decide +kernel
theorem dX12_split_51 : decode cX12_split 51 = .ok (.iload 5, 2) := by decide +kernel
theorem dX12_split_53 : decode cX12_split 53 = .ok (.invokevirtual 351, 3) := by decide +kernel
theorem dX12_split_56 : decode cX12_split 56 = .ok (.i2l, 1) := by decide +kernel
theorem dX12_split_57 : decode cX12_split 57 = .ok (.goto 4, 3) := by decide +kernel
theorem dX12_split_6 : decode cX12_split 6 = .ok (.iload_n 1, 1) := by decide +kernel
theorem dX12_split_60 : decode cX12_split 60 = .ok (.lconst 0, 1) := by decide +kernel
theorem dX12_split_61 : decode cX12_split 61 = .ok (.ladd, 1) := by decide +kernel
theorem dX12_split_62 : decode cX12_split 62 = .ok (.lstore_n 3, 1) := by decide +kernel
theorem dX12_split_63 : decode cX12_split 63 = .ok (.iinc 5 1, 3) := by decide +kernel
theorem dX12_split_66 : decode cX12_split 66 = .ok (.goto (-36), 3) := by decide +kernel
theorem dX12_split_69 : decode cX12_split 69 = .ok (.lload_n 3, 1) := by decide +kernel
theorem dX12_split_7 : decode cX12_split 7 = .ok (.invokevirtual 166, 3) := by decide +kernel
theorem dX12_split_70 : decode cX12_split 70 = .ok (.lconst 0, 1) := by decide +kernel
theorem dX12_split_71 : decode cX12_split 71 = .ok (.lcmp, 1) := by decide +kernel
theorem dX12_split_72 : decode cX12_split 72 = .ok (.ifCond .ne 8, 3) := by decide +kernel
theorem dX12_split_75 : decode cX12_split 75 = .ok (.aload_n 0, 1) := by decide +kernel
theorem dX12_split_76 : decode cX12_split 76 = .ok (.invokevirtual 347, 3) := by decide +kernel
theorem dX12_split_79 : decode cX12_split 79 = .ok (.ireturn, 1) := by decide +kernel
theorem dX12_split_80 : decode cX12_split 80 = .ok (.aload_n 0, 1) := by decide +kernel
theorem dX12_split_81 : decode cX12_split 81 = .ok (.iload_n 1, 1) := by decide +kernel
theorem dX12_split_82 : decode cX12_split 82 = .ok (.invokevirtual 340, 3) := by decide +kernel
theorem dX12_split_85 : decode cX12_split 85 = .ok (.i2l, 1) := by decide +kernel
theorem dX12_split_86 : decode cX12_split 86 = .ok (.lstore 5, 2) := by decide +kernel
theorem dX12_split_88 : decode cX12_split 88 = .ok (.lload 5, 2) := by decide +kernel
theorem dX12_split_90 : decode cX12_split 90 = .ok (.lneg, 1) := by decide +kernel
theorem dX12_split_91 : decode cX12_split 91 = .ok (.aload_n 0, 1) := by decide +kernel
theorem dX12_split_92 : decode cX12_split 92 = .ok (.iload_n 1, 1) := by decide +kernel
theorem dX12_split_93 : decode cX12_split 93 = .ok (.iload_n 2, 1) := by decide +kernel
theorem dX12_split_94 : decode cX12_split 94 = .ok (.invokevirtual 178, 3) := by decide +kernel
theorem dX12_split_97 : decode cX12_split 97 = .ok (.i2l, 1) := by decide +kernel
theorem dX12_split_98 : decode cX12_split 98 = .ok (.lmul, 1) := by decide +kernel
theorem dX12_split_99 : decode cX12_split 99 = .ok (.lstore 7, 2) := by decide +kernel
theorem dX12_store_0 : decode cX12_store 0 = .ok (.aload_n 0, 1) := by decide +kernel
theorem dX12_store_1 : decode cX12_store 1 = .ok (.iconst 0, 1) := by decide +kernel
theorem dX12_store_10 : decode cX12_store 10 = .ok (.ifCond .eq 13, 3) := by decide +kernel
theorem dX12_store_13 : decode cX12_store 13 = .ok (.iload_n 2, 1) := by decide +kernel
theorem dX12_store_14 : decode cX12_store 14 = .ok (.i2l, 1) := by decide +kernel
theorem dX12_store_15 : decode cX12_store 15 = .ok (.lconst 0, 1) := by decide +kernel
theorem dX12_store_16 : decode cX12_store 16 = .ok (.lconst 1, 1) := by decide +kernel
theorem dX12_store_17 : decode cX12_store 17 = .ok (.invokestatic 156, 3) := by decide +kernel
theorem dX12_store_2 : decode cX12_store 2 = .ok (.putfield 150, 3) := by decide +kernel
theorem dX12_store_20 : decode cX12_store 20 = .ok (.ifCond .ne 5, 3) := by decide +kernel
theorem dX12_store_23 : decode cX12_store 23 = .ok (.iconst (-1), 1) := by decide +kernel
theorem dX12_store_24 : decode cX12_store 24 = .ok (.ireturn, 1) := by decide +kernel
theorem dX12_store_25 : decode cX12_store 25 = .ok (.iconst 0, 1) := by decide +kernel
theorem dX12_store_26 : decode cX12_store 26 = .ok (.istore_n 3, 1) := by decide +kernel
theorem dX12_store_27 : decode cX12_store 27 = .ok (.iconst 0, 1) := by decide +kernel
theorem dX12_store_28 : decode cX12_store 28 = .ok (.istore 4, 2) := by decide +kernel
theorem dX12_store_30 : decode cX12_store 30 = .ok (.iload 4, 2) := by decide +kernel
theorem dX12_store_32 : decode cX12_store 32 = .ok (.aload_n 0, 1) := by decide +kernel
theorem dX12_store_33 : decode cX12_store 33 = .ok (.getfield 153, 3) := by decide +kernel
theorem dX12_store_36 : decode cX12_store 36 = .ok (.if_icmp .ge 43, 3) := by decide +kernel
theorem dX12_store_39 : decode cX12_store 39 = .ok (.iload_n 3, 1) := by decide +kernel
theorem dX12_store_40 : decode cX12_store 40 = .ok (.iload 4, 2) := by decide +kernel
theorem dX12_store_42 : decode cX12_store 42 = .ok (.iload_n 1, 1) := by decide +kernel
theorem dX12_store_43 : decode cX12_store 43 = .ok (.if_icmp .eq 18, 3) := by decide +kernel
theorem dX12_store_46 : decode cX12_store 46 = .ok (.iload_n 2, 1) := by decide +kernel
theorem dX12_store_47 : decode cX12_store 47 = .ok (.iconst 1, 1) := by decide +kernel
theorem dX12_store_48 : decode cX12_store 48 = .ok (.if_icmp .ne 22, 3) := by decide +kernel
theorem dX12_store_5 : decode cX12_store 5 = .ok (.aload_n 0, 1) := by decide +kernel
theorem dX12_store_51 : decode cX12_store 51 = .ok (.aload_n 0, 1) := by decide +kernel
theorem dX12_store_52 : decode cX12_store 52 = .ok (.iload 4, 2) := by decide +kernel
theorem dX12_store_54 : decode cX12_store 54 = .ok (.iload_n 1, 1) := by decide +kernel
theorem dX12_store_55 : decode cX12_store 55 = .ok (.invokevirtual 186, 3) := by decide +kernel
theorem dX12_store_58 : decode cX12_store 58 = .ok (.ifCond .eq 12, 3) := by decide +kernel
theorem dX12_store_6 : decode cX12_store 6 = .ok (.iload_n 1, 1) := by decide +kernel
theorem dX12_store_61 : decode cX12_store 61 = .ok (.aload_n 0, 1) := by decide +kernel
theorem dX12_store_62 : decode cX12_store 62 = .ok (.iload 4, 2) := by decide +kernel
theorem dX12_store_64 : decode cX12_store 64 = .ok (.invokevirtual 340, 3) := by decide +kernel
theorem dX12_store_67 : decode cX12_store 67 = .ok (.goto 4, 3) := by decide +kernel
theorem dX12_store_7 : decode cX12_store 7 = .ok (.invokevirtual 166, 3) := by decide +kernel
theorem dX12_store_70 : decode cX12_store 70 = .ok (.iconst 0, 1) := by decide +kernel
theorem dX12_store_71 : decode cX12_store 71 = .ok (.iadd, 1) := by decide +kernel
theorem dX12_store_72 : decode cX12_store 72 = .ok (.istore_n 3, 1) := by decide +kernel
theorem dX12_store_73 : decode cX12_store 73 = .ok (.iinc 4 1, 3) := by decide +kernel
theorem dX12_store_76 : decode cX12_store 76 = .ok (.goto (-46), 3) := by decide +kernel
theorem dX12_store_79 : decode cX12_store 79 = .ok (.iload_n 3, 1) := by decide +kernel
theorem dX12_store_80 : decode cX12_store 80 = .ok (.ireturn, 1) := by decide +kernel
theorem dX12_stored_0 : decode cX12_stored 0 = .ok (.iconst 0, 1) := by decide +kernel
theorem dX12_stored_1 : decode cX12_stored 1 = .ok (.istore_n 2, 1) := by decide +kernel
theorem dX12_stored_12 : decode cX12_stored 12 = .ok (.iload_n 2, 1) := by decide +kernel
theorem dX12_stored_13 : decode cX12_stored 13 = .ok (.aload_n 0, 1) := by decide +kernel
theorem dX12_stored_14 : decode cX12_stored 14 = .ok (.getfield 43, 3) := by decide +kernel
theorem dX12_stored_17 : decode cX12_stored 17 = .ok (.bipush 24, 2) := by decide +kernel
theorem dX12_stored_19 : decode cX12_stored 19 = .ok (.iload_n 1, 1) := by decide +kernel
theorem dX12_stored_2 : decode cX12_stored 2 = .ok (.iconst 0, 1) := by decide +kernel
theorem dX12_stored_20 : decode cX12_stored 20 = .ok (.imul, 1) := by decide +kernel
theorem dX12_stored_21 : decode cX12_stored 21 = .ok (.iload_n 3, 1) := by decide +kernel
theorem dX12_stored_22 : decode cX12_stored 22 = .ok (.iadd, 1) := by decide +kernel
theorem dX12_stored_23 : decode cX12_stored 23 = .ok (.iaload, 1) := by decide +kernel
theorem dX12_stored_24 : decode cX12_stored 24 = .ok (.iadd, 1) := by decide +kernel
theorem dX12_stored_25 : decode cX12_stored 25 = .ok (.istore_n 2, 1) := by decide +kernel
theorem dX12_stored_26 : decode cX12_stored 26 = .ok (.iinc 3 1, 3) := by decide +kernel
theorem dX12_stored_29 : decode cX12_stored 29 = .ok (.goto (-25), 3) := by decide +kernel
theorem dX12_stored_3 : decode cX12_stored 3 = .ok (.istore_n 3, 1) := by decide +kernel
theorem dX12_stored_32 : decode cX12_stored 32 = .ok (.iload_n 2, 1) := by decide +kernel
theorem dX12_stored_33 : decode cX12_stored 33 = .ok (.ireturn, 1) := by decide +kernel
theorem dX12_stored_4 : decode cX12_stored 4 = .ok (.iload_n 3, 1) := by decide +kernel
theorem dX12_stored_5 : decode cX12_stored 5 = .ok (.aload_n 0, 1) := by decide +kernel
theorem dX12_stored_6 : decode cX12_stored 6 = .ok (.getfield 194, 3) := by decide +kernel
theorem dX12_stored_9 : decode cX12_stored 9 = .ok (.if_icmp .ge 23, 3) := by decide +kernel
theorem dX12_suspects_0 : decode cX12_suspects 0 = .ok (.aload_n 0, 1) := by decide +kernel
theorem dX12_suspects_1 : decode cX12_suspects 1 = .ok (.iconst 0, 1) := by decide +kernel
theorem dX12_suspects_12 : decode cX12_suspects 12 = .ok (.aload_n 0, 1) := by decide +kernel
theorem dX12_suspects_13 : decode cX12_suspects 13 = .ok (.iconst 0, 1) := by decide +kernel
theorem dX12_suspects_14 : decode cX12_suspects 14 = .ok (.iload_n 1, 1) := by decide +kernel
theorem dX12_suspects_15 : decode cX12_suspects 15 = .ok (.iconst 0, 1) := by decide +kernel
theorem dX12_suspects_16 : decode cX12_suspects 16 = .ok (.invokevirtual 403, 3) := by decide +kernel
theorem dX12_suspects_19 : decode cX12_suspects 19 = .ok (.ifCond .eq 33, 3) := by decide +kernel
theorem dX12_suspects_2 : decode cX12_suspects 2 = .ok (.putfield 150, 3) := by decide +kernel
theorem dX12_suspects_22 : decode cX12_suspects 22 = .ok (.aload_n 0, 1) := by decide +kernel
theorem dX12_suspects_23 : decode cX12_suspects 23 = .ok (.iconst 0, 1) := by decide +kernel
theorem dX12_suspects_24 : decode cX12_suspects 24 = .ok (.putfield 388, 3) := by decide +kernel
theorem dX12_suspects_27 : decode cX12_suspects 27 = .ok (.iconst 0, 1) := by decide +kernel
theorem dX12_suspects_28 : decode cX12_suspects 28 = .ok (.istore_n 2, 1) := by decide +kernel
theorem dX12_suspects_29 : decode cX12_suspects 29 = .ok (.iload_n 2, 1) := by decide +kernel
theorem dX12_suspects_30 : decode cX12_suspects 30 = .ok (.iload_n 1, 1) := by decide +kernel
theorem dX12_suspects_31 : decode cX12_suspects 31 = .ok (.if_icmp .ge 19, 3) := by decide +kernel
theorem dX12_suspects_34 : decode cX12_suspects 34 = .ok (.aload_n 0, 1) := by decide +kernel
theorem dX12_suspects_35 : decode cX12_suspects 35 = .ok (.aload_n 0, 1) := by decide +kernel
theorem dX12_suspects_36 : decode cX12_suspects 36 = .ok (.getfield 105, 3) := by decide +kernel
theorem dX12_suspects_39 : decode cX12_suspects 39 = .ok (.iload_n 2, 1) := by decide +kernel
theorem dX12_suspects_40 : decode cX12_suspects 40 = .ok (.iaload, 1) := by decide +kernel
theorem dX12_suspects_41 : decode cX12_suspects 41 = .ok (.invokevirtual 394, 3) := by decide +kernel
theorem dX12_suspects_44 : decode cX12_suspects 44 = .ok (.iinc 2 1, 3) := by decide +kernel
theorem dX12_suspects_47 : decode cX12_suspects 47 = .ok (.goto (-18), 3) := by decide +kernel
theorem dX12_suspects_5 : decode cX12_suspects 5 = .ok (.iconst 0, 1) := by decide +kernel
theorem dX12_suspects_50 : decode cX12_suspects 50 = .ok (.iload_n 1, 1) := by decide +kernel
theorem dX12_suspects_51 : decode cX12_suspects 51 = .ok (.ireturn, 1) := by decide +kernel
theorem dX12_suspects_52 : decode cX12_suspects 52 = .ok (.iinc 1 1, 3) := by decide +kernel
theorem dX12_suspects_55 : decode cX12_suspects 55 = .ok (.goto (-48), 3) := by decide +kernel
theorem dX12_suspects_58 : decode cX12_suspects 58 = .ok (.bipush (-2), 2) := by decide +kernel
theorem dX12_suspects_6 : decode cX12_suspects 6 = .ok (.istore_n 1, 1) := by decide +kernel
theorem dX12_suspects_60 : decode cX12_suspects 60 = .ok (.ireturn, 1) := by decide +kernel
theorem dX12_suspects_7 : decode cX12_suspects 7 = .ok (.iload_n 1, 1) := by decide +kernel
theorem dX12_suspects_8 : decode cX12_suspects 8 = .ok (.iconst 4, 1) := by decide +kernel
theorem dX12_suspects_9 : decode cX12_suspects 9 = .ok (.if_icmp .gt 49, 3) := by decide +kernel
theorem dX12_takesOf_0 : decode cX12_takesOf 0 = .ok (.iload_n 2, 1) := by decide +kernel
theorem dX12_takesOf_1 : decode cX12_takesOf 1 = .ok (.istore 4, 2) := by decide +kernel
theorem dX12_takesOf_100 : decode cX12_takesOf 100 = .ok (.iadd, 1) := by decide +kernel
theorem dX12_takesOf_101 : decode cX12_takesOf 101 = .ok (.iastore, 1) := by decide +kernel
theorem dX12_takesOf_102 : decode cX12_takesOf 102 = .ok (.iinc 5 1, 3) := by decide +kernel
theorem dX12_takesOf_105 : decode cX12_takesOf 105 = .ok (.goto (-99), 3) := by decide +kernel
theorem dX12_takesOf_108 : decode cX12_takesOf 108 = .ok (.return_, 1) := by decide +kernel
theorem dX12_takesOf_12 : decode cX12_takesOf 12 = .ok (.if_icmp .ge 96, 3) := by decide +kernel
theorem dX12_takesOf_15 : decode cX12_takesOf 15 = .ok (.aload_n 0, 1) := by decide +kernel
theorem dX12_takesOf_16 : decode cX12_takesOf 16 = .ok (.getfield 46, 3) := by decide +kernel
theorem dX12_takesOf_19 : decode cX12_takesOf 19 = .ok (.iload 5, 2) := by decide +kernel
theorem dX12_takesOf_21 : decode cX12_takesOf 21 = .ok (.iaload, 1) := by decide +kernel
theorem dX12_takesOf_22 : decode cX12_takesOf 22 = .ok (.istore 6, 2) := by decide +kernel
theorem dX12_takesOf_24 : decode cX12_takesOf 24 = .ok (.bipush 24, 2) := by decide +kernel
theorem dX12_takesOf_26 : decode cX12_takesOf 26 = .ok (.iload_n 1, 1) := by decide +kernel
theorem dX12_takesOf_27 : decode cX12_takesOf 27 = .ok (.imul, 1) := by decide +kernel
theorem dX12_takesOf_28 : decode cX12_takesOf 28 = .ok (.iload 6, 2) := by decide +kernel
theorem dX12_takesOf_3 : decode cX12_takesOf 3 = .ok (.iconst 0, 1) := by decide +kernel
theorem dX12_takesOf_30 : decode cX12_takesOf 30 = .ok (.iadd, 1) := by decide +kernel
theorem dX12_takesOf_31 : decode cX12_takesOf 31 = .ok (.istore 7, 2) := by decide +kernel
theorem dX12_takesOf_33 : decode cX12_takesOf 33 = .ok (.iload 4, 2) := by decide +kernel
theorem dX12_takesOf_35 : decode cX12_takesOf 35 = .ok (.aload_n 0, 1) := by decide +kernel
theorem dX12_takesOf_36 : decode cX12_takesOf 36 = .ok (.getfield 43, 3) := by decide +kernel
theorem dX12_takesOf_39 : decode cX12_takesOf 39 = .ok (.iload 7, 2) := by decide +kernel
theorem dX12_takesOf_4 : decode cX12_takesOf 4 = .ok (.istore 5, 2) := by decide +kernel
theorem dX12_takesOf_41 : decode cX12_takesOf 41 = .ok (.iaload, 1) := by decide +kernel
theorem dX12_takesOf_42 : decode cX12_takesOf 42 = .ok (.invokestatic 250, 3) := by decide +kernel
theorem dX12_takesOf_45 : decode cX12_takesOf 45 = .ok (.istore 8, 2) := by decide +kernel
theorem dX12_takesOf_47 : decode cX12_takesOf 47 = .ok (.aload_n 0, 1) := by decide +kernel
theorem dX12_takesOf_48 : decode cX12_takesOf 48 = .ok (.getfield 43, 3) := by decide +kernel
theorem dX12_takesOf_51 : decode cX12_takesOf 51 = .ok (.iload 7, 2) := by decide +kernel
theorem dX12_takesOf_53 : decode cX12_takesOf 53 = .ok (.dup2, 1) := by decide +kernel
theorem dX12_takesOf_54 : decode cX12_takesOf 54 = .ok (.iaload, 1) := by decide +kernel
theorem dX12_takesOf_55 : decode cX12_takesOf 55 = .ok (.iload 8, 2) := by decide +kernel
theorem dX12_takesOf_57 : decode cX12_takesOf 57 = .ok (.isub, 1) := by decide +kernel
theorem dX12_takesOf_58 : decode cX12_takesOf 58 = .ok (.iastore, 1) := by decide +kernel
theorem dX12_takesOf_59 : decode cX12_takesOf 59 = .ok (.iload 4, 2) := by decide +kernel
theorem dX12_takesOf_6 : decode cX12_takesOf 6 = .ok (.iload 5, 2) := by decide +kernel
theorem dX12_takesOf_61 : decode cX12_takesOf 61 = .ok (.iload 8, 2) := by decide +kernel
theorem dX12_takesOf_63 : decode cX12_takesOf 63 = .ok (.isub, 1) := by decide +kernel
theorem dX12_takesOf_64 : decode cX12_takesOf 64 = .ok (.istore 4, 2) := by decide +kernel
theorem dX12_takesOf_66 : decode cX12_takesOf 66 = .ok (.iload_n 3, 1) := by decide +kernel
theorem dX12_takesOf_67 : decode cX12_takesOf 67 = .ok (.ifCond .ge 18, 3) := by decide +kernel
theorem dX12_takesOf_70 : decode cX12_takesOf 70 = .ok (.aload_n 0, 1) := by decide +kernel
theorem dX12_takesOf_71 : decode cX12_takesOf 71 = .ok (.getfield 37, 3) := by decide +kernel
theorem dX12_takesOf_74 : decode cX12_takesOf 74 = .ok (.iload 6, 2) := by decide +kernel
theorem dX12_takesOf_76 : decode cX12_takesOf 76 = .ok (.dup2, 1) := by decide +kernel
theorem dX12_takesOf_77 : decode cX12_takesOf 77 = .ok (.iaload, 1) := by decide +kernel
theorem dX12_takesOf_78 : decode cX12_takesOf 78 = .ok (.iload 8, 2) := by decide +kernel
theorem dX12_takesOf_8 : decode cX12_takesOf 8 = .ok (.aload_n 0, 1) := by decide +kernel
theorem dX12_takesOf_80 : decode cX12_takesOf 80 = .ok (.iadd, 1) := by decide +kernel
theorem dX12_takesOf_81 : decode cX12_takesOf 81 = .ok (.iastore, 1) := by decide +kernel
theorem dX12_takesOf_82 : decode cX12_takesOf 82 = .ok (.goto 20, 3) := by decide +kernel
theorem dX12_takesOf_85 : decode cX12_takesOf 85 = .ok (.aload_n 0, 1) := by decide +kernel
theorem dX12_takesOf_86 : decode cX12_takesOf 86 = .ok (.getfield 90, 3) := by decide +kernel
theorem dX12_takesOf_89 : decode cX12_takesOf 89 = .ok (.bipush 24, 2) := by decide +kernel
theorem dX12_takesOf_9 : decode cX12_takesOf 9 = .ok (.getfield 214, 3) := by decide +kernel
theorem dX12_takesOf_91 : decode cX12_takesOf 91 = .ok (.iload_n 3, 1) := by decide +kernel
theorem dX12_takesOf_92 : decode cX12_takesOf 92 = .ok (.imul, 1) := by decide +kernel
theorem dX12_takesOf_93 : decode cX12_takesOf 93 = .ok (.iload 6, 2) := by decide +kernel
theorem dX12_takesOf_95 : decode cX12_takesOf 95 = .ok (.iadd, 1) := by decide +kernel
theorem dX12_takesOf_96 : decode cX12_takesOf 96 = .ok (.dup2, 1) := by decide +kernel
theorem dX12_takesOf_97 : decode cX12_takesOf 97 = .ok (.iaload, 1) := by decide +kernel
theorem dX12_takesOf_98 : decode cX12_takesOf 98 = .ok (.iload 8, 2) := by decide +kernel
theorem dX12_takes_0 : decode cX12_takes 0 = .ok (.aload_n 0, 1) := by decide +kernel
theorem dX12_takes_1 : decode cX12_takes 1 = .ok (.iconst 0, 1) := by decide +kernel
theorem dX12_takes_12 : decode cX12_takes 12 = .ok (.iload_n 2, 1) := by decide +kernel
theorem dX12_takes_13 : decode cX12_takes 13 = .ok (.i2l, 1) := by decide +kernel
theorem dX12_takes_14 : decode cX12_takes 14 = .ok (.lconst 0, 1) := by decide +kernel
theorem dX12_takes_15 : decode cX12_takes 15 = .ok (.ldc2_w 418, 3) := by decide +kernel
theorem dX12_takes_18 : decode cX12_takes 18 = .ok (.invokestatic 156, 3) := by decide +kernel
theorem dX12_takes_2 : decode cX12_takes 2 = .ok (.putfield 150, 3) := by decide +kernel
theorem dX12_takes_21 : decode cX12_takes 21 = .ok (.ifCond .ne 5, 3) := by decide +kernel
theorem dX12_takes_24 : decode cX12_takes 24 = .ok (.iconst (-1), 1) := by decide +kernel
theorem dX12_takes_25 : decode cX12_takes 25 = .ok (.ireturn, 1) := by decide +kernel
theorem dX12_takes_26 : decode cX12_takes 26 = .ok (.aload_n 0, 1) := by decide +kernel
theorem dX12_takes_27 : decode cX12_takes 27 = .ok (.getfield 126, 3) := by decide +kernel
theorem dX12_takes_30 : decode cX12_takes 30 = .ok (.iload_n 1, 1) := by decide +kernel
theorem dX12_takes_31 : decode cX12_takes 31 = .ok (.iaload, 1) := by decide +kernel
theorem dX12_takes_32 : decode cX12_takes 32 = .ok (.istore_n 3, 1) := by decide +kernel
theorem dX12_takes_33 : decode cX12_takes 33 = .ok (.aload_n 0, 1) := by decide +kernel
theorem dX12_takes_34 : decode cX12_takes 34 = .ok (.getfield 126, 3) := by decide +kernel
theorem dX12_takes_37 : decode cX12_takes 37 = .ok (.iload_n 1, 1) := by decide +kernel
theorem dX12_takes_38 : decode cX12_takes 38 = .ok (.iload_n 2, 1) := by decide +kernel
theorem dX12_takes_39 : decode cX12_takes 39 = .ok (.iastore, 1) := by decide +kernel
theorem dX12_takes_40 : decode cX12_takes 40 = .ok (.iload_n 3, 1) := by decide +kernel
theorem dX12_takes_41 : decode cX12_takes 41 = .ok (.ireturn, 1) := by decide +kernel
theorem dX12_takes_5 : decode cX12_takes 5 = .ok (.iload_n 1, 1) := by decide +kernel
theorem dX12_takes_6 : decode cX12_takes 6 = .ok (.invokestatic 415, 3) := by decide +kernel
theorem dX12_takes_9 : decode cX12_takes 9 = .ok (.ifCond .eq 15, 3) := by decide +kernel
theorem dX12_text_0 : decode cX12_text 0 = .ok (.aload_n 0, 1) := by decide +kernel
theorem dX12_text_1 : decode cX12_text 1 = .ok (.iconst 0, 1) := by decide +kernel
theorem dX12_text_10 : decode cX12_text 10 = .ok (.aload_n 0, 1) := by decide +kernel
theorem dX12_text_101 : decode cX12_text 101 = .ok (.istore 4, 2) := by decide +kernel
theorem dX12_text_103 : decode cX12_text 103 = .ok (.iload_n 3, 1) := by decide +kernel
theorem dX12_text_104 : decode cX12_text 104 = .ok (.bipush 60, 2) := by decide +kernel
theorem dX12_text_106 : decode cX12_text 106 = .ok (.if_icmp .le 20, 3) := by decide +kernel
theorem dX12_text_109 : decode cX12_text 109 = .ok (.iload 4, 2) := by decide +kernel
theorem dX12_text_11 : decode cX12_text 11 = .ok (.iconst 0, 1) := by decide +kernel
theorem dX12_text_111 : decode cX12_text 111 = .ok (.ifCond .ne 12, 3) := by decide +kernel
theorem dX12_text_114 : decode cX12_text 114 = .ok (.aload_n 0, 1) := by decide +kernel
theorem dX12_text_115 : decode cX12_text 115 = .ok (.getfield 259, 3) := by decide +kernel
theorem dX12_text_118 : decode cX12_text 118 = .ok (.bipush 60, 2) := by decide +kernel
theorem dX12_text_12 : decode cX12_text 12 = .ok (.putfield 256, 3) := by decide +kernel
theorem dX12_text_120 : decode cX12_text 120 = .ok (.if_icmp .lt 6, 3) := by decide +kernel
theorem dX12_text_123 : decode cX12_text 123 = .ok (.bipush (-61), 2) := by decide +kernel
theorem dX12_text_125 : decode cX12_text 125 = .ok (.ireturn, 1) := by decide +kernel
theorem dX12_text_126 : decode cX12_text 126 = .ok (.iload 4, 2) := by decide +kernel
theorem dX12_text_128 : decode cX12_text 128 = .ok (.ifCond .ne 10, 3) := by decide +kernel
theorem dX12_text_131 : decode cX12_text 131 = .ok (.iconst (-1), 1) := by decide +kernel
theorem dX12_text_132 : decode cX12_text 132 = .ok (.aload_n 0, 1) := by decide +kernel
theorem dX12_text_133 : decode cX12_text 133 = .ok (.getfield 259, 3) := by decide +kernel
theorem dX12_text_136 : decode cX12_text 136 = .ok (.isub, 1) := by decide +kernel
theorem dX12_text_137 : decode cX12_text 137 = .ok (.ireturn, 1) := by decide +kernel
theorem dX12_text_138 : decode cX12_text 138 = .ok (.iload_n 1, 1) := by decide +kernel
theorem dX12_text_139 : decode cX12_text 139 = .ok (.ifCond .ne 7, 3) := by decide +kernel
theorem dX12_text_142 : decode cX12_text 142 = .ok (.iload_n 2, 1) := by decide +kernel
theorem dX12_text_143 : decode cX12_text 143 = .ok (.goto 19, 3) := by decide +kernel
theorem dX12_text_146 : decode cX12_text 146 = .ok (.iload_n 1, 1) := by decide +kernel
theorem dX12_text_147 : decode cX12_text 147 = .ok (.iconst 1, 1) := by decide +kernel
theorem dX12_text_148 : decode cX12_text 148 = .ok (.if_icmp .ne 12, 3) := by decide +kernel
theorem dX12_text_15 : decode cX12_text 15 = .ok (.iload_n 1, 1) := by decide +kernel
theorem dX12_text_151 : decode cX12_text 151 = .ok (.iconst 4, 1) := by decide +kernel
theorem dX12_text_152 : decode cX12_text 152 = .ok (.aload_n 0, 1) := by decide +kernel
theorem dX12_text_153 : decode cX12_text 153 = .ok (.getfield 320, 3) := by decide +kernel
theorem dX12_text_156 : decode cX12_text 156 = .ok (.iadd, 1) := by decide +kernel
theorem dX12_text_157 : decode cX12_text 157 = .ok (.goto 5, 3) := by decide +kernel
theorem dX12_text_16 : decode cX12_text 16 = .ok (.i2l, 1) := by decide +kernel
theorem dX12_text_160 : decode cX12_text 160 = .ok (.bipush 10, 2) := by decide +kernel
theorem dX12_text_162 : decode cX12_text 162 = .ok (.istore 5, 2) := by decide +kernel
theorem dX12_text_164 : decode cX12_text 164 = .ok (.iconst 0, 1) := by decide +kernel
theorem dX12_text_165 : decode cX12_text 165 = .ok (.istore 6, 2) := by decide +kernel
theorem dX12_text_167 : decode cX12_text 167 = .ok (.iload 6, 2) := by decide +kernel
theorem dX12_text_169 : decode cX12_text 169 = .ok (.aload_n 0, 1) := by decide +kernel
theorem dX12_text_17 : decode cX12_text 17 = .ok (.lconst 0, 1) := by decide +kernel
theorem dX12_text_170 : decode cX12_text 170 = .ok (.getfield 75, 3) := by decide +kernel
theorem dX12_text_173 : decode cX12_text 173 = .ok (.aload_n 0, 1) := by decide +kernel
theorem dX12_text_174 : decode cX12_text 174 = .ok (.getfield 267, 3) := by decide +kernel
theorem dX12_text_177 : decode cX12_text 177 = .ok (.iaload, 1) := by decide +kernel
theorem dX12_text_178 : decode cX12_text 178 = .ok (.if_icmp .ge 37, 3) := by decide +kernel
theorem dX12_text_18 : decode cX12_text 18 = .ok (.ldc2_w 318, 3) := by decide +kernel
theorem dX12_text_181 : decode cX12_text 181 = .ok (.aload_n 0, 1) := by decide +kernel
theorem dX12_text_182 : decode cX12_text 182 = .ok (.getfield 72, 3) := by decide +kernel
theorem dX12_text_185 : decode cX12_text 185 = .ok (.bipush 64, 2) := by decide +kernel
theorem dX12_text_187 : decode cX12_text 187 = .ok (.iload 5, 2) := by decide +kernel
theorem dX12_text_189 : decode cX12_text 189 = .ok (.imul, 1) := by decide +kernel
theorem dX12_text_190 : decode cX12_text 190 = .ok (.iload 6, 2) := by decide +kernel
theorem dX12_text_192 : decode cX12_text 192 = .ok (.iadd, 1) := by decide +kernel
theorem dX12_text_193 : decode cX12_text 193 = .ok (.aload_n 0, 1) := by decide +kernel
theorem dX12_text_194 : decode cX12_text 194 = .ok (.getfield 72, 3) := by decide +kernel
theorem dX12_text_197 : decode cX12_text 197 = .ok (.bipush 64, 2) := by decide +kernel
theorem dX12_text_199 : decode cX12_text 199 = .ok (.aload_n 0, 1) := by decide +kernel
theorem dX12_text_2 : decode cX12_text 2 = .ok (.putfield 150, 3) := by decide +kernel
theorem dX12_text_200 : decode cX12_text 200 = .ok (.getfield 267, 3) := by decide +kernel
theorem dX12_text_203 : decode cX12_text 203 = .ok (.imul, 1) := by decide +kernel
theorem dX12_text_204 : decode cX12_text 204 = .ok (.iload 6, 2) := by decide +kernel
theorem dX12_text_206 : decode cX12_text 206 = .ok (.iadd, 1) := by decide +kernel
theorem dX12_text_207 : decode cX12_text 207 = .ok (.iaload, 1) := by decide +kernel
theorem dX12_text_208 : decode cX12_text 208 = .ok (.iastore, 1) := by decide +kernel
theorem dX12_text_209 : decode cX12_text 209 = .ok (.iinc 6 1, 3) := by decide +kernel
theorem dX12_text_21 : decode cX12_text 21 = .ok (.invokestatic 156, 3) := by decide +kernel
theorem dX12_text_212 : decode cX12_text 212 = .ok (.goto (-45), 3) := by decide +kernel
theorem dX12_text_215 : decode cX12_text 215 = .ok (.aload_n 0, 1) := by decide +kernel
theorem dX12_text_216 : decode cX12_text 216 = .ok (.getfield 75, 3) := by decide +kernel
theorem dX12_text_219 : decode cX12_text 219 = .ok (.iload 5, 2) := by decide +kernel
theorem dX12_text_221 : decode cX12_text 221 = .ok (.aload_n 0, 1) := by decide +kernel
theorem dX12_text_222 : decode cX12_text 222 = .ok (.getfield 75, 3) := by decide +kernel
theorem dX12_text_225 : decode cX12_text 225 = .ok (.aload_n 0, 1) := by decide +kernel
theorem dX12_text_226 : decode cX12_text 226 = .ok (.getfield 267, 3) := by decide +kernel
theorem dX12_text_229 : decode cX12_text 229 = .ok (.iaload, 1) := by decide +kernel
theorem dX12_text_230 : decode cX12_text 230 = .ok (.iastore, 1) := by decide +kernel
theorem dX12_text_231 : decode cX12_text 231 = .ok (.aload_n 0, 1) := by decide +kernel
theorem dX12_text_232 : decode cX12_text 232 = .ok (.getfield 68, 3) := by decide +kernel
theorem dX12_text_235 : decode cX12_text 235 = .ok (.iload 5, 2) := by decide +kernel
theorem dX12_text_237 : decode cX12_text 237 = .ok (.iconst 1, 1) := by decide +kernel
theorem dX12_text_238 : decode cX12_text 238 = .ok (.bastore, 1) := by decide +kernel
theorem dX12_text_239 : decode cX12_text 239 = .ok (.aload_n 0, 1) := by decide +kernel
theorem dX12_text_24 : decode cX12_text 24 = .ok (.ifCond .eq 33, 3) := by decide +kernel
theorem dX12_text_240 : decode cX12_text 240 = .ok (.dup, 1) := by decide +kernel
theorem dX12_text_241 : decode cX12_text 241 = .ok (.getfield 320, 3) := by decide +kernel
theorem dX12_text_244 : decode cX12_text 244 = .ok (.iload_n 1, 1) := by decide +kernel
theorem dX12_text_245 : decode cX12_text 245 = .ok (.iconst 1, 1) := by decide +kernel
theorem dX12_text_246 : decode cX12_text 246 = .ok (.if_icmp .ne 7, 3) := by decide +kernel
theorem dX12_text_249 : decode cX12_text 249 = .ok (.iconst 1, 1) := by decide +kernel
theorem dX12_text_250 : decode cX12_text 250 = .ok (.goto 4, 3) := by decide +kernel
theorem dX12_text_253 : decode cX12_text 253 = .ok (.iconst 0, 1) := by decide +kernel
theorem dX12_text_254 : decode cX12_text 254 = .ok (.invokestatic 190, 3) := by decide +kernel
theorem dX12_text_257 : decode cX12_text 257 = .ok (.iadd, 1) := by decide +kernel
theorem dX12_text_258 : decode cX12_text 258 = .ok (.putfield 320, 3) := by decide +kernel
theorem dX12_text_261 : decode cX12_text 261 = .ok (.iload_n 1, 1) := by decide +kernel
theorem dX12_text_262 : decode cX12_text 262 = .ok (.iconst 1, 1) := by decide +kernel
theorem dX12_text_263 : decode cX12_text 263 = .ok (.if_icmp .ne 12, 3) := by decide +kernel
theorem dX12_text_266 : decode cX12_text 266 = .ok (.aload_n 0, 1) := by decide +kernel
theorem dX12_text_267 : decode cX12_text 267 = .ok (.getfield 320, 3) := by decide +kernel
theorem dX12_text_27 : decode cX12_text 27 = .ok (.iload_n 1, 1) := by decide +kernel
theorem dX12_text_270 : decode cX12_text 270 = .ok (.iconst 1, 1) := by decide +kernel
theorem dX12_text_271 : decode cX12_text 271 = .ok (.isub, 1) := by decide +kernel
theorem dX12_text_272 : decode cX12_text 272 = .ok (.goto 4, 3) := by decide +kernel
theorem dX12_text_275 : decode cX12_text 275 = .ok (.iconst 0, 1) := by decide +kernel
theorem dX12_text_276 : decode cX12_text 276 = .ok (.ireturn, 1) := by decide +kernel
theorem dX12_text_28 : decode cX12_text 28 = .ok (.ifCond .ne 15, 3) := by decide +kernel
theorem dX12_text_31 : decode cX12_text 31 = .ok (.iload_n 2, 1) := by decide +kernel
theorem dX12_text_32 : decode cX12_text 32 = .ok (.i2l, 1) := by decide +kernel
theorem dX12_text_33 : decode cX12_text 33 = .ok (.lconst 0, 1) := by decide +kernel
theorem dX12_text_34 : decode cX12_text 34 = .ok (.ldc2_w 197, 3) := by decide +kernel
theorem dX12_text_37 : decode cX12_text 37 = .ok (.invokestatic 156, 3) := by decide +kernel
theorem dX12_text_40 : decode cX12_text 40 = .ok (.ifCond .eq 17, 3) := by decide +kernel
theorem dX12_text_43 : decode cX12_text 43 = .ok (.iload_n 1, 1) := by decide +kernel
theorem dX12_text_44 : decode cX12_text 44 = .ok (.iconst 1, 1) := by decide +kernel
theorem dX12_text_45 : decode cX12_text 45 = .ok (.if_icmp .ne 15, 3) := by decide +kernel
theorem dX12_text_48 : decode cX12_text 48 = .ok (.aload_n 0, 1) := by decide +kernel
theorem dX12_text_49 : decode cX12_text 49 = .ok (.getfield 320, 3) := by decide +kernel
theorem dX12_text_5 : decode cX12_text 5 = .ok (.aload_n 0, 1) := by decide +kernel
theorem dX12_text_52 : decode cX12_text 52 = .ok (.bipush 6, 2) := by decide +kernel
theorem dX12_text_54 : decode cX12_text 54 = .ok (.if_icmp .ne 6, 3) := by decide +kernel
theorem dX12_text_57 : decode cX12_text 57 = .ok (.bipush (-100), 2) := by decide +kernel
theorem dX12_text_59 : decode cX12_text 59 = .ok (.ireturn, 1) := by decide +kernel
theorem dX12_text_6 : decode cX12_text 6 = .ok (.getfield 256, 3) := by decide +kernel
theorem dX12_text_60 : decode cX12_text 60 = .ok (.aload_n 0, 1) := by decide +kernel
theorem dX12_text_61 : decode cX12_text 61 = .ok (.bipush 11, 2) := by decide +kernel
theorem dX12_text_63 : decode cX12_text 63 = .ok (.putfield 267, 3) := by decide +kernel
theorem dX12_text_66 : decode cX12_text 66 = .ok (.aload_n 0, 1) := by decide +kernel
theorem dX12_text_67 : decode cX12_text 67 = .ok (.getfield 75, 3) := by decide +kernel
theorem dX12_text_70 : decode cX12_text 70 = .ok (.aload_n 0, 1) := by decide +kernel
theorem dX12_text_71 : decode cX12_text 71 = .ok (.getfield 267, 3) := by decide +kernel
theorem dX12_text_74 : decode cX12_text 74 = .ok (.iconst 0, 1) := by decide +kernel
theorem dX12_text_75 : decode cX12_text 75 = .ok (.iastore, 1) := by decide +kernel
theorem dX12_text_76 : decode cX12_text 76 = .ok (.aload_n 0, 1) := by decide +kernel
theorem dX12_text_77 : decode cX12_text 77 = .ok (.iconst 0, 1) := by decide +kernel
theorem dX12_text_78 : decode cX12_text 78 = .ok (.putfield 259, 3) := by decide +kernel
theorem dX12_text_81 : decode cX12_text 81 = .ok (.aload_n 0, 1) := by decide +kernel
theorem dX12_text_82 : decode cX12_text 82 = .ok (.iload_n 3, 1) := by decide +kernel
theorem dX12_text_83 : decode cX12_text 83 = .ok (.bipush 60, 2) := by decide +kernel
theorem dX12_text_85 : decode cX12_text 85 = .ok (.invokestatic 250, 3) := by decide +kernel
theorem dX12_text_88 : decode cX12_text 88 = .ok (.iload_n 1, 1) := by decide +kernel
theorem dX12_text_89 : decode cX12_text 89 = .ok (.iconst 1, 1) := by decide +kernel
theorem dX12_text_9 : decode cX12_text 9 = .ok (.istore_n 3, 1) := by decide +kernel
theorem dX12_text_90 : decode cX12_text 90 = .ok (.if_icmp .ne 7, 3) := by decide +kernel
theorem dX12_text_93 : decode cX12_text 93 = .ok (.iconst 1, 1) := by decide +kernel
theorem dX12_text_94 : decode cX12_text 94 = .ok (.goto 4, 3) := by decide +kernel
theorem dX12_text_97 : decode cX12_text 97 = .ok (.iconst 0, 1) := by decide +kernel
theorem dX12_text_98 : decode cX12_text 98 = .ok (.invokevirtual 323, 3) := by decide +kernel
theorem dX12_thing_0 : decode cX12_thing 0 = .ok (.aload_n 0, 1) := by decide +kernel
theorem dX12_thing_1 : decode cX12_thing 1 = .ok (.iload_n 1, 1) := by decide +kernel
theorem dX12_thing_100 : decode cX12_thing 100 = .ok (.putfield 259, 3) := by decide +kernel
theorem dX12_thing_103 : decode cX12_thing 103 = .ok (.iinc 3 1, 3) := by decide +kernel
theorem dX12_thing_106 : decode cX12_thing 106 = .ok (.goto (-47), 3) := by decide +kernel
theorem dX12_thing_109 : decode cX12_thing 109 = .ok (.aload_n 0, 1) := by decide +kernel
theorem dX12_thing_11 : decode cX12_thing 11 = .ok (.aload_n 0, 1) := by decide +kernel
theorem dX12_thing_110 : decode cX12_thing 110 = .ok (.iload_n 2, 1) := by decide +kernel
theorem dX12_thing_111 : decode cX12_thing 111 = .ok (.invokevirtual 276, 3) := by decide +kernel
theorem dX12_thing_114 : decode cX12_thing 114 = .ok (.iconst 1, 1) := by decide +kernel
theorem dX12_thing_115 : decode cX12_thing 115 = .ok (.ireturn, 1) := by decide +kernel
theorem dX12_thing_116 : decode cX12_thing 116 = .ok (.aload_n 0, 1) := by decide +kernel
theorem dX12_thing_117 : decode cX12_thing 117 = .ok (.iload_n 1, 1) := by decide +kernel
theorem dX12_thing_118 : decode cX12_thing 118 = .ok (.bipush 40, 2) := by decide +kernel
theorem dX12_thing_12 : decode cX12_thing 12 = .ok (.iconst (-1), 1) := by decide +kernel
theorem dX12_thing_120 : decode cX12_thing 120 = .ok (.invokevirtual 282, 3) := by decide +kernel
theorem dX12_thing_123 : decode cX12_thing 123 = .ok (.ifCond .ne 5, 3) := by decide +kernel
theorem dX12_thing_126 : decode cX12_thing 126 = .ok (.iconst 0, 1) := by decide +kernel
theorem dX12_thing_127 : decode cX12_thing 127 = .ok (.ireturn, 1) := by decide +kernel
theorem dX12_thing_128 : decode cX12_thing 128 = .ok (.aload_n 0, 1) := by decide +kernel
theorem dX12_thing_129 : decode cX12_thing 129 = .ok (.dup, 1) := by decide +kernel
theorem dX12_thing_13 : decode cX12_thing 13 = .ok (.ldc_w 270, 3) := by decide +kernel
theorem dX12_thing_130 : decode cX12_thing 130 = .ok (.getfield 259, 3) := by decide +kernel
theorem dX12_thing_133 : decode cX12_thing 133 = .ok (.iconst 1, 1) := by decide +kernel
theorem dX12_thing_134 : decode cX12_thing 134 = .ok (.iadd, 1) := by decide +kernel
theorem dX12_thing_135 : decode cX12_thing 135 = .ok (.putfield 259, 3) := by decide +kernel
theorem dX12_thing_138 : decode cX12_thing 138 = .ok (.aload_n 0, 1) := by decide +kernel
theorem dX12_thing_139 : decode cX12_thing 139 = .ok (.iload_n 1, 1) := by decide +kernel
theorem dX12_thing_140 : decode cX12_thing 140 = .ok (.invokevirtual 286, 3) := by decide +kernel
theorem dX12_thing_143 : decode cX12_thing 143 = .ok (.ifCond .eq 13, 3) := by decide +kernel
theorem dX12_thing_146 : decode cX12_thing 146 = .ok (.aload_n 0, 1) := by decide +kernel
theorem dX12_thing_147 : decode cX12_thing 147 = .ok (.iload_n 1, 1) := by decide +kernel
theorem dX12_thing_148 : decode cX12_thing 148 = .ok (.bipush 41, 2) := by decide +kernel
theorem dX12_thing_150 : decode cX12_thing 150 = .ok (.invokevirtual 282, 3) := by decide +kernel
theorem dX12_thing_153 : decode cX12_thing 153 = .ok (.ifCond .ne 5, 3) := by decide +kernel
theorem dX12_thing_156 : decode cX12_thing 156 = .ok (.iconst 0, 1) := by decide +kernel
theorem dX12_thing_157 : decode cX12_thing 157 = .ok (.ireturn, 1) := by decide +kernel
theorem dX12_thing_158 : decode cX12_thing 158 = .ok (.aload_n 0, 1) := by decide +kernel
theorem dX12_thing_159 : decode cX12_thing 159 = .ok (.dup, 1) := by decide +kernel
theorem dX12_thing_16 : decode cX12_thing 16 = .ok (.aload_n 0, 1) := by decide +kernel
theorem dX12_thing_160 : decode cX12_thing 160 = .ok (.getfield 259, 3) := by decide +kernel
theorem dX12_thing_163 : decode cX12_thing 163 = .ok (.iconst 1, 1) := by decide +kernel
theorem dX12_thing_164 : decode cX12_thing 164 = .ok (.iadd, 1) := by decide +kernel
theorem dX12_thing_165 : decode cX12_thing 165 = .ok (.putfield 259, 3) := by decide +kernel
theorem dX12_thing_168 : decode cX12_thing 168 = .ok (.iconst 1, 1) := by decide +kernel
theorem dX12_thing_169 : decode cX12_thing 169 = .ok (.ireturn, 1) := by decide +kernel
theorem dX12_thing_17 : decode cX12_thing 17 = .ok (.getfield 84, 3) := by decide +kernel
theorem dX12_thing_2 : decode cX12_thing 2 = .ok (.ldc_w 270, 3) := by decide +kernel
theorem dX12_thing_20 : decode cX12_thing 20 = .ok (.aload_n 0, 1) := by decide +kernel
theorem dX12_thing_21 : decode cX12_thing 21 = .ok (.getfield 259, 3) := by decide +kernel
theorem dX12_thing_24 : decode cX12_thing 24 = .ok (.iaload, 1) := by decide +kernel
theorem dX12_thing_25 : decode cX12_thing 25 = .ok (.invokevirtual 262, 3) := by decide +kernel
theorem dX12_thing_28 : decode cX12_thing 28 = .ok (.isub, 1) := by decide +kernel
theorem dX12_thing_29 : decode cX12_thing 29 = .ok (.invokevirtual 276, 3) := by decide +kernel
theorem dX12_thing_32 : decode cX12_thing 32 = .ok (.aload_n 0, 1) := by decide +kernel
theorem dX12_thing_33 : decode cX12_thing 33 = .ok (.dup, 1) := by decide +kernel
theorem dX12_thing_34 : decode cX12_thing 34 = .ok (.getfield 259, 3) := by decide +kernel
theorem dX12_thing_37 : decode cX12_thing 37 = .ok (.iconst 1, 1) := by decide +kernel
theorem dX12_thing_38 : decode cX12_thing 38 = .ok (.iadd, 1) := by decide +kernel
theorem dX12_thing_39 : decode cX12_thing 39 = .ok (.putfield 259, 3) := by decide +kernel
theorem dX12_thing_42 : decode cX12_thing 42 = .ok (.iconst 1, 1) := by decide +kernel
theorem dX12_thing_43 : decode cX12_thing 43 = .ok (.ireturn, 1) := by decide +kernel
theorem dX12_thing_44 : decode cX12_thing 44 = .ok (.aload_n 0, 1) := by decide +kernel
theorem dX12_thing_45 : decode cX12_thing 45 = .ok (.iload_n 1, 1) := by decide +kernel
theorem dX12_thing_46 : decode cX12_thing 46 = .ok (.ldc_w 280, 3) := by decide +kernel
theorem dX12_thing_49 : decode cX12_thing 49 = .ok (.invokevirtual 272, 3) := by decide +kernel
theorem dX12_thing_5 : decode cX12_thing 5 = .ok (.invokevirtual 272, 3) := by decide +kernel
theorem dX12_thing_52 : decode cX12_thing 52 = .ok (.ifCond .eq 64, 3) := by decide +kernel
theorem dX12_thing_55 : decode cX12_thing 55 = .ok (.iconst 0, 1) := by decide +kernel
theorem dX12_thing_56 : decode cX12_thing 56 = .ok (.istore_n 2, 1) := by decide +kernel
theorem dX12_thing_57 : decode cX12_thing 57 = .ok (.iconst 0, 1) := by decide +kernel
theorem dX12_thing_58 : decode cX12_thing 58 = .ok (.istore_n 3, 1) := by decide +kernel
theorem dX12_thing_59 : decode cX12_thing 59 = .ok (.iload_n 3, 1) := by decide +kernel
theorem dX12_thing_60 : decode cX12_thing 60 = .ok (.iconst 4, 1) := by decide +kernel
theorem dX12_thing_61 : decode cX12_thing 61 = .ok (.if_icmp .ge 48, 3) := by decide +kernel
theorem dX12_thing_64 : decode cX12_thing 64 = .ok (.aload_n 0, 1) := by decide +kernel
theorem dX12_thing_65 : decode cX12_thing 65 = .ok (.iload_n 1, 1) := by decide +kernel
theorem dX12_thing_66 : decode cX12_thing 66 = .ok (.ldc_w 280, 3) := by decide +kernel
theorem dX12_thing_69 : decode cX12_thing 69 = .ok (.invokevirtual 272, 3) := by decide +kernel
theorem dX12_thing_72 : decode cX12_thing 72 = .ok (.ifCond .eq 37, 3) := by decide +kernel
theorem dX12_thing_75 : decode cX12_thing 75 = .ok (.bipush 10, 2) := by decide +kernel
theorem dX12_thing_77 : decode cX12_thing 77 = .ok (.iload_n 2, 1) := by decide +kernel
theorem dX12_thing_78 : decode cX12_thing 78 = .ok (.imul, 1) := by decide +kernel
theorem dX12_thing_79 : decode cX12_thing 79 = .ok (.aload_n 0, 1) := by decide +kernel
theorem dX12_thing_8 : decode cX12_thing 8 = .ok (.ifCond .eq 36, 3) := by decide +kernel
theorem dX12_thing_80 : decode cX12_thing 80 = .ok (.getfield 84, 3) := by decide +kernel
theorem dX12_thing_83 : decode cX12_thing 83 = .ok (.aload_n 0, 1) := by decide +kernel
theorem dX12_thing_84 : decode cX12_thing 84 = .ok (.getfield 259, 3) := by decide +kernel
theorem dX12_thing_87 : decode cX12_thing 87 = .ok (.iaload, 1) := by decide +kernel
theorem dX12_thing_88 : decode cX12_thing 88 = .ok (.iadd, 1) := by decide +kernel
theorem dX12_thing_89 : decode cX12_thing 89 = .ok (.bipush 48, 2) := by decide +kernel
theorem dX12_thing_91 : decode cX12_thing 91 = .ok (.isub, 1) := by decide +kernel
theorem dX12_thing_92 : decode cX12_thing 92 = .ok (.istore_n 2, 1) := by decide +kernel
theorem dX12_thing_93 : decode cX12_thing 93 = .ok (.aload_n 0, 1) := by decide +kernel
theorem dX12_thing_94 : decode cX12_thing 94 = .ok (.dup, 1) := by decide +kernel
theorem dX12_thing_95 : decode cX12_thing 95 = .ok (.getfield 259, 3) := by decide +kernel
theorem dX12_thing_98 : decode cX12_thing 98 = .ok (.iconst 1, 1) := by decide +kernel
theorem dX12_thing_99 : decode cX12_thing 99 = .ok (.iadd, 1) := by decide +kernel
theorem dX12_thrown_0 : decode cX12_thrown 0 = .ok (.aload_n 0, 1) := by decide +kernel
theorem dX12_thrown_1 : decode cX12_thrown 1 = .ok (.getfield 150, 3) := by decide +kernel
theorem dX12_thrown_4 : decode cX12_thrown 4 = .ok (.ireturn, 1) := by decide +kernel
theorem dX12_total_0 : decode cX12_total 0 = .ok (.aload_n 0, 1) := by decide +kernel
theorem dX12_total_1 : decode cX12_total 1 = .ok (.iload_n 1, 1) := by decide +kernel
theorem dX12_total_10 : decode cX12_total 10 = .ok (.aload_n 0, 1) := by decide +kernel
theorem dX12_total_11 : decode cX12_total 11 = .ok (.iload_n 1, 1) := by decide +kernel
theorem dX12_total_12 : decode cX12_total 12 = .ok (.ldc_w 305, 3) := by decide +kernel
theorem dX12_total_15 : decode cX12_total 15 = .ok (.invokevirtual 272, 3) := by decide +kernel
theorem dX12_total_18 : decode cX12_total 18 = .ok (.ifCond .eq 44, 3) := by decide +kernel
theorem dX12_total_2 : decode cX12_total 2 = .ok (.invokevirtual 302, 3) := by decide +kernel
theorem dX12_total_21 : decode cX12_total 21 = .ok (.aload_n 0, 1) := by decide +kernel
theorem dX12_total_22 : decode cX12_total 22 = .ok (.getfield 84, 3) := by decide +kernel
theorem dX12_total_25 : decode cX12_total 25 = .ok (.aload_n 0, 1) := by decide +kernel
theorem dX12_total_26 : decode cX12_total 26 = .ok (.getfield 259, 3) := by decide +kernel
theorem dX12_total_29 : decode cX12_total 29 = .ok (.iaload, 1) := by decide +kernel
theorem dX12_total_30 : decode cX12_total 30 = .ok (.istore_n 3, 1) := by decide +kernel
theorem dX12_total_31 : decode cX12_total 31 = .ok (.aload_n 0, 1) := by decide +kernel
theorem dX12_total_32 : decode cX12_total 32 = .ok (.dup, 1) := by decide +kernel
theorem dX12_total_33 : decode cX12_total 33 = .ok (.getfield 259, 3) := by decide +kernel
theorem dX12_total_36 : decode cX12_total 36 = .ok (.iconst 1, 1) := by decide +kernel
theorem dX12_total_37 : decode cX12_total 37 = .ok (.iadd, 1) := by decide +kernel
theorem dX12_total_38 : decode cX12_total 38 = .ok (.putfield 259, 3) := by decide +kernel
theorem dX12_total_41 : decode cX12_total 41 = .ok (.aload_n 0, 1) := by decide +kernel
theorem dX12_total_42 : decode cX12_total 42 = .ok (.iload_n 1, 1) := by decide +kernel
theorem dX12_total_43 : decode cX12_total 43 = .ok (.invokevirtual 302, 3) := by decide +kernel
theorem dX12_total_46 : decode cX12_total 46 = .ok (.istore_n 2, 1) := by decide +kernel
theorem dX12_total_47 : decode cX12_total 47 = .ok (.iload_n 2, 1) := by decide +kernel
theorem dX12_total_48 : decode cX12_total 48 = .ok (.ifCond .eq 11, 3) := by decide +kernel
theorem dX12_total_5 : decode cX12_total 5 = .ok (.istore_n 2, 1) := by decide +kernel
theorem dX12_total_51 : decode cX12_total 51 = .ok (.aload_n 0, 1) := by decide +kernel
theorem dX12_total_52 : decode cX12_total 52 = .ok (.iload_n 3, 1) := by decide +kernel
theorem dX12_total_53 : decode cX12_total 53 = .ok (.invokestatic 297, 3) := by decide +kernel
theorem dX12_total_56 : decode cX12_total 56 = .ok (.invokevirtual 276, 3) := by decide +kernel
theorem dX12_total_59 : decode cX12_total 59 = .ok (.goto (-53), 3) := by decide +kernel
theorem dX12_total_6 : decode cX12_total 6 = .ok (.iload_n 2, 1) := by decide +kernel
theorem dX12_total_62 : decode cX12_total 62 = .ok (.iload_n 2, 1) := by decide +kernel
theorem dX12_total_63 : decode cX12_total 63 = .ok (.ireturn, 1) := by decide +kernel
theorem dX12_total_7 : decode cX12_total 7 = .ok (.ifCond .eq 55, 3) := by decide +kernel
theorem dX12_truth_0 : decode cX12_truth 0 = .ok (.iload_n 0, 1) := by decide +kernel
theorem dX12_truth_1 : decode cX12_truth 1 = .ok (.ifCond .eq 7, 3) := by decide +kernel
theorem dX12_truth_4 : decode cX12_truth 4 = .ok (.iconst 1, 1) := by decide +kernel
theorem dX12_truth_5 : decode cX12_truth 5 = .ok (.goto 4, 3) := by decide +kernel
theorem dX12_truth_8 : decode cX12_truth 8 = .ok (.iconst 0, 1) := by decide +kernel
theorem dX12_truth_9 : decode cX12_truth 9 = .ok (.ireturn, 1) := by decide +kernel
theorem dX12_twice_0 : decode cX12_twice 0 = .ok (.aload_n 0, 1) := by decide +kernel
theorem dX12_twice_1 : decode cX12_twice 1 = .ok (.iconst 0, 1) := by decide +kernel
theorem dX12_twice_100 : decode cX12_twice 100 = .ok (.putfield 409, 3) := by decide +kernel
theorem dX12_twice_103 : decode cX12_twice 103 = .ok (.aload_n 0, 1) := by decide +kernel
theorem dX12_twice_104 : decode cX12_twice 104 = .ok (.getfield 409, 3) := by decide +kernel
theorem dX12_twice_107 : decode cX12_twice 107 = .ok (.ireturn, 1) := by decide +kernel
theorem dX12_twice_12 : decode cX12_twice 12 = .ok (.iload_n 3, 1) := by decide +kernel
theorem dX12_twice_13 : decode cX12_twice 13 = .ok (.invokestatic 208, 3) := by decide +kernel
theorem dX12_twice_16 : decode cX12_twice 16 = .ok (.ifCond .eq 34, 3) := by decide +kernel
theorem dX12_twice_19 : decode cX12_twice 19 = .ok (.iload_n 1, 1) := by decide +kernel
theorem dX12_twice_2 : decode cX12_twice 2 = .ok (.putfield 150, 3) := by decide +kernel
theorem dX12_twice_20 : decode cX12_twice 20 = .ok (.iload_n 3, 1) := by decide +kernel
theorem dX12_twice_21 : decode cX12_twice 21 = .ok (.if_icmp .eq 29, 3) := by decide +kernel
theorem dX12_twice_24 : decode cX12_twice 24 = .ok (.aload_n 0, 1) := by decide +kernel
theorem dX12_twice_25 : decode cX12_twice 25 = .ok (.iload_n 2, 1) := by decide +kernel
theorem dX12_twice_26 : decode cX12_twice 26 = .ok (.invokevirtual 166, 3) := by decide +kernel
theorem dX12_twice_29 : decode cX12_twice 29 = .ok (.ifCond .eq 21, 3) := by decide +kernel
theorem dX12_twice_32 : decode cX12_twice 32 = .ok (.aload_n 0, 1) := by decide +kernel
theorem dX12_twice_33 : decode cX12_twice 33 = .ok (.iload 4, 2) := by decide +kernel
theorem dX12_twice_35 : decode cX12_twice 35 = .ok (.invokevirtual 166, 3) := by decide +kernel
theorem dX12_twice_38 : decode cX12_twice 38 = .ok (.ifCond .eq 12, 3) := by decide +kernel
theorem dX12_twice_41 : decode cX12_twice 41 = .ok (.aload_n 0, 1) := by decide +kernel
theorem dX12_twice_42 : decode cX12_twice 42 = .ok (.getfield 409, 3) := by decide +kernel
theorem dX12_twice_45 : decode cX12_twice 45 = .ok (.bipush 99, 2) := by decide +kernel
theorem dX12_twice_47 : decode cX12_twice 47 = .ok (.if_icmp .ne 5, 3) := by decide +kernel
theorem dX12_twice_5 : decode cX12_twice 5 = .ok (.iload_n 1, 1) := by decide +kernel
theorem dX12_twice_50 : decode cX12_twice 50 = .ok (.iconst (-1), 1) := by decide +kernel
theorem dX12_twice_51 : decode cX12_twice 51 = .ok (.ireturn, 1) := by decide +kernel
theorem dX12_twice_52 : decode cX12_twice 52 = .ok (.aload_n 0, 1) := by decide +kernel
theorem dX12_twice_53 : decode cX12_twice 53 = .ok (.getfield 108, 3) := by decide +kernel
theorem dX12_twice_56 : decode cX12_twice 56 = .ok (.aload_n 0, 1) := by decide +kernel
theorem dX12_twice_57 : decode cX12_twice 57 = .ok (.getfield 409, 3) := by decide +kernel
theorem dX12_twice_6 : decode cX12_twice 6 = .ok (.invokestatic 208, 3) := by decide +kernel
theorem dX12_twice_60 : decode cX12_twice 60 = .ok (.iload_n 1, 1) := by decide +kernel
theorem dX12_twice_61 : decode cX12_twice 61 = .ok (.iastore, 1) := by decide +kernel
theorem dX12_twice_62 : decode cX12_twice 62 = .ok (.aload_n 0, 1) := by decide +kernel
theorem dX12_twice_63 : decode cX12_twice 63 = .ok (.getfield 114, 3) := by decide +kernel
theorem dX12_twice_66 : decode cX12_twice 66 = .ok (.aload_n 0, 1) := by decide +kernel
theorem dX12_twice_67 : decode cX12_twice 67 = .ok (.getfield 409, 3) := by decide +kernel
theorem dX12_twice_70 : decode cX12_twice 70 = .ok (.iload_n 2, 1) := by decide +kernel
theorem dX12_twice_71 : decode cX12_twice 71 = .ok (.iastore, 1) := by decide +kernel
theorem dX12_twice_72 : decode cX12_twice 72 = .ok (.aload_n 0, 1) := by decide +kernel
theorem dX12_twice_73 : decode cX12_twice 73 = .ok (.getfield 111, 3) := by decide +kernel
theorem dX12_twice_76 : decode cX12_twice 76 = .ok (.aload_n 0, 1) := by decide +kernel
theorem dX12_twice_77 : decode cX12_twice 77 = .ok (.getfield 409, 3) := by decide +kernel
theorem dX12_twice_80 : decode cX12_twice 80 = .ok (.iload_n 3, 1) := by decide +kernel
theorem dX12_twice_81 : decode cX12_twice 81 = .ok (.iastore, 1) := by decide +kernel
theorem dX12_twice_82 : decode cX12_twice 82 = .ok (.aload_n 0, 1) := by decide +kernel
theorem dX12_twice_83 : decode cX12_twice 83 = .ok (.getfield 117, 3) := by decide +kernel
theorem dX12_twice_86 : decode cX12_twice 86 = .ok (.aload_n 0, 1) := by decide +kernel
theorem dX12_twice_87 : decode cX12_twice 87 = .ok (.getfield 409, 3) := by decide +kernel
theorem dX12_twice_9 : decode cX12_twice 9 = .ok (.ifCond .eq 41, 3) := by decide +kernel
theorem dX12_twice_90 : decode cX12_twice 90 = .ok (.iload 4, 2) := by decide +kernel
theorem dX12_twice_92 : decode cX12_twice 92 = .ok (.iastore, 1) := by decide +kernel
theorem dX12_twice_93 : decode cX12_twice 93 = .ok (.aload_n 0, 1) := by decide +kernel
theorem dX12_twice_94 : decode cX12_twice 94 = .ok (.dup, 1) := by decide +kernel
theorem dX12_twice_95 : decode cX12_twice 95 = .ok (.getfield 409, 3) := by decide +kernel
theorem dX12_twice_98 : decode cX12_twice 98 = .ok (.iconst 1, 1) := by decide +kernel
theorem dX12_twice_99 : decode cX12_twice 99 = .ok (.iadd, 1) := by decide +kernel
theorem dX12_unary_0 : decode cX12_unary 0 = .ok (.aload_n 0, 1) := by decide +kernel
theorem dX12_unary_1 : decode cX12_unary 1 = .ok (.iload_n 1, 1) := by decide +kernel
theorem dX12_unary_11 : decode cX12_unary 11 = .ok (.aload_n 0, 1) := by decide +kernel
theorem dX12_unary_12 : decode cX12_unary 12 = .ok (.iload_n 1, 1) := by decide +kernel
theorem dX12_unary_13 : decode cX12_unary 13 = .ok (.invokevirtual 291, 3) := by decide +kernel
theorem dX12_unary_16 : decode cX12_unary 16 = .ok (.ireturn, 1) := by decide +kernel
theorem dX12_unary_17 : decode cX12_unary 17 = .ok (.aload_n 0, 1) := by decide +kernel
theorem dX12_unary_18 : decode cX12_unary 18 = .ok (.getfield 84, 3) := by decide +kernel
theorem dX12_unary_2 : decode cX12_unary 2 = .ok (.ldc_w 289, 3) := by decide +kernel
theorem dX12_unary_21 : decode cX12_unary 21 = .ok (.aload_n 0, 1) := by decide +kernel
theorem dX12_unary_22 : decode cX12_unary 22 = .ok (.getfield 259, 3) := by decide +kernel
theorem dX12_unary_25 : decode cX12_unary 25 = .ok (.iaload, 1) := by decide +kernel
theorem dX12_unary_26 : decode cX12_unary 26 = .ok (.istore_n 2, 1) := by decide +kernel
theorem dX12_unary_27 : decode cX12_unary 27 = .ok (.aload_n 0, 1) := by decide +kernel
theorem dX12_unary_28 : decode cX12_unary 28 = .ok (.dup, 1) := by decide +kernel
theorem dX12_unary_29 : decode cX12_unary 29 = .ok (.getfield 259, 3) := by decide +kernel
theorem dX12_unary_32 : decode cX12_unary 32 = .ok (.iconst 1, 1) := by decide +kernel
theorem dX12_unary_33 : decode cX12_unary 33 = .ok (.iadd, 1) := by decide +kernel
theorem dX12_unary_34 : decode cX12_unary 34 = .ok (.putfield 259, 3) := by decide +kernel
theorem dX12_unary_37 : decode cX12_unary 37 = .ok (.aload_n 0, 1) := by decide +kernel
theorem dX12_unary_38 : decode cX12_unary 38 = .ok (.iload_n 1, 1) := by decide +kernel
theorem dX12_unary_39 : decode cX12_unary 39 = .ok (.invokevirtual 294, 3) := by decide +kernel
theorem dX12_unary_42 : decode cX12_unary 42 = .ok (.istore_n 3, 1) := by decide +kernel
theorem dX12_unary_43 : decode cX12_unary 43 = .ok (.iload_n 3, 1) := by decide +kernel
theorem dX12_unary_44 : decode cX12_unary 44 = .ok (.ifCond .eq 23, 3) := by decide +kernel
theorem dX12_unary_47 : decode cX12_unary 47 = .ok (.aload_n 0, 1) := by decide +kernel
theorem dX12_unary_48 : decode cX12_unary 48 = .ok (.iload_n 2, 1) := by decide +kernel
theorem dX12_unary_49 : decode cX12_unary 49 = .ok (.bipush 33, 2) := by decide +kernel
theorem dX12_unary_5 : decode cX12_unary 5 = .ok (.invokevirtual 272, 3) := by decide +kernel
theorem dX12_unary_51 : decode cX12_unary 51 = .ok (.if_icmp .ne 8, 3) := by decide +kernel
theorem dX12_unary_54 : decode cX12_unary 54 = .ok (.bipush 33, 2) := by decide +kernel
theorem dX12_unary_56 : decode cX12_unary 56 = .ok (.goto 5, 3) := by decide +kernel
theorem dX12_unary_59 : decode cX12_unary 59 = .ok (.bipush 126, 2) := by decide +kernel
theorem dX12_unary_61 : decode cX12_unary 61 = .ok (.invokestatic 297, 3) := by decide +kernel
theorem dX12_unary_64 : decode cX12_unary 64 = .ok (.invokevirtual 276, 3) := by decide +kernel
theorem dX12_unary_67 : decode cX12_unary 67 = .ok (.iload_n 3, 1) := by decide +kernel
theorem dX12_unary_68 : decode cX12_unary 68 = .ok (.ireturn, 1) := by decide +kernel
theorem dX12_unary_8 : decode cX12_unary 8 = .ok (.ifCond .ne 9, 3) := by decide +kernel
theorem dX12_value_0 : decode cX12_value 0 = .ok (.aload_n 0, 1) := by decide +kernel
theorem dX12_value_1 : decode cX12_value 1 = .ok (.bipush 64, 2) := by decide +kernel
theorem dX12_value_10 : decode cX12_value 10 = .ok (.getfield 75, 3) := by decide +kernel
theorem dX12_value_13 : decode cX12_value 13 = .ok (.iload_n 1, 1) := by decide +kernel
theorem dX12_value_14 : decode cX12_value 14 = .ok (.iaload, 1) := by decide +kernel
theorem dX12_value_15 : decode cX12_value 15 = .ok (.iadd, 1) := by decide +kernel
theorem dX12_value_16 : decode cX12_value 16 = .ok (.invokevirtual 334, 3) := by decide +kernel
theorem dX12_value_19 : decode cX12_value 19 = .ok (.ireturn, 1) := by decide +kernel
theorem dX12_value_3 : decode cX12_value 3 = .ok (.iload_n 1, 1) := by decide +kernel
theorem dX12_value_4 : decode cX12_value 4 = .ok (.imul, 1) := by decide +kernel
theorem dX12_value_5 : decode cX12_value 5 = .ok (.bipush 64, 2) := by decide +kernel
theorem dX12_value_7 : decode cX12_value 7 = .ok (.iload_n 1, 1) := by decide +kernel
theorem dX12_value_8 : decode cX12_value 8 = .ok (.imul, 1) := by decide +kernel
theorem dX12_value_9 : decode cX12_value 9 = .ok (.aload_n 0, 1) := by decide +kernel
theorem dX12_wipe_0 : decode cX12_wipe 0 = .ok (.aload_n 0, 1) := by decide +kernel
theorem dX12_wipe_1 : decode cX12_wipe 1 = .ok (.iconst 0, 1) := by decide +kernel
theorem dX12_wipe_10 : decode cX12_wipe 10 = .ok (.ifCond .eq 36, 3) := by decide +kernel
theorem dX12_wipe_13 : decode cX12_wipe 13 = .ok (.iload_n 2, 1) := by decide +kernel
theorem dX12_wipe_14 : decode cX12_wipe 14 = .ok (.i2l, 1) := by decide +kernel
theorem dX12_wipe_15 : decode cX12_wipe 15 = .ok (.lconst 1, 1) := by decide +kernel
theorem dX12_wipe_16 : decode cX12_wipe 16 = .ok (.ldc2_w 201, 3) := by decide +kernel
theorem dX12_wipe_19 : decode cX12_wipe 19 = .ok (.invokestatic 156, 3) := by decide +kernel
theorem dX12_wipe_2 : decode cX12_wipe 2 = .ok (.putfield 150, 3) := by decide +kernel
theorem dX12_wipe_22 : decode cX12_wipe 22 = .ok (.ifCond .eq 24, 3) := by decide +kernel
theorem dX12_wipe_25 : decode cX12_wipe 25 = .ok (.iload_n 3, 1) := by decide +kernel
theorem dX12_wipe_26 : decode cX12_wipe 26 = .ok (.i2l, 1) := by decide +kernel
theorem dX12_wipe_27 : decode cX12_wipe 27 = .ok (.lconst 0, 1) := by decide +kernel
theorem dX12_wipe_28 : decode cX12_wipe 28 = .ok (.ldc2_w 164, 3) := by decide +kernel
theorem dX12_wipe_31 : decode cX12_wipe 31 = .ok (.invokestatic 156, 3) := by decide +kernel
theorem dX12_wipe_34 : decode cX12_wipe 34 = .ok (.ifCond .eq 12, 3) := by decide +kernel
theorem dX12_wipe_37 : decode cX12_wipe 37 = .ok (.aload_n 0, 1) := by decide +kernel
theorem dX12_wipe_38 : decode cX12_wipe 38 = .ok (.iload_n 1, 1) := by decide +kernel
theorem dX12_wipe_39 : decode cX12_wipe 39 = .ok (.invokevirtual 340, 3) := by decide +kernel
theorem dX12_wipe_42 : decode cX12_wipe 42 = .ok (.iload_n 2, 1) := by decide +kernel
theorem dX12_wipe_43 : decode cX12_wipe 43 = .ok (.if_icmp .ge 5, 3) := by decide +kernel
theorem dX12_wipe_46 : decode cX12_wipe 46 = .ok (.iconst (-1), 1) := by decide +kernel
theorem dX12_wipe_47 : decode cX12_wipe 47 = .ok (.ireturn, 1) := by decide +kernel
theorem dX12_wipe_48 : decode cX12_wipe 48 = .ok (.aload_n 0, 1) := by decide +kernel
theorem dX12_wipe_49 : decode cX12_wipe 49 = .ok (.iload_n 1, 1) := by decide +kernel
theorem dX12_wipe_5 : decode cX12_wipe 5 = .ok (.aload_n 0, 1) := by decide +kernel
theorem dX12_wipe_50 : decode cX12_wipe 50 = .ok (.iload_n 2, 1) := by decide +kernel
theorem dX12_wipe_51 : decode cX12_wipe 51 = .ok (.iconst (-1), 1) := by decide +kernel
theorem dX12_wipe_52 : decode cX12_wipe 52 = .ok (.invokevirtual 343, 3) := by decide +kernel
theorem dX12_wipe_55 : decode cX12_wipe 55 = .ok (.iload_n 2, 1) := by decide +kernel
theorem dX12_wipe_56 : decode cX12_wipe 56 = .ok (.iload_n 3, 1) := by decide +kernel
theorem dX12_wipe_57 : decode cX12_wipe 57 = .ok (.imul, 1) := by decide +kernel
theorem dX12_wipe_58 : decode cX12_wipe 58 = .ok (.sipush 1000, 3) := by decide +kernel
theorem dX12_wipe_6 : decode cX12_wipe 6 = .ok (.iload_n 1, 1) := by decide +kernel
theorem dX12_wipe_61 : decode cX12_wipe 61 = .ok (.idiv, 1) := by decide +kernel
theorem dX12_wipe_62 : decode cX12_wipe 62 = .ok (.ireturn, 1) := by decide +kernel
theorem dX12_wipe_7 : decode cX12_wipe 7 = .ok (.invokevirtual 166, 3) := by decide +kernel
theorem dX12_wish_0 : decode cX12_wish 0 = .ok (.aload_n 0, 1) := by decide +kernel
theorem dX12_wish_1 : decode cX12_wish 1 = .ok (.iconst 0, 1) := by decide +kernel
theorem dX12_wish_12 : decode cX12_wish 12 = .ok (.aload_n 0, 1) := by decide +kernel
theorem dX12_wish_13 : decode cX12_wish 13 = .ok (.iload_n 2, 1) := by decide +kernel
theorem dX12_wish_14 : decode cX12_wish 14 = .ok (.invokevirtual 166, 3) := by decide +kernel
theorem dX12_wish_17 : decode cX12_wish 17 = .ok (.ifCond .eq 17, 3) := by decide +kernel
theorem dX12_wish_2 : decode cX12_wish 2 = .ok (.putfield 150, 3) := by decide +kernel
theorem dX12_wish_20 : decode cX12_wish 20 = .ok (.iload_n 3, 1) := by decide +kernel
theorem dX12_wish_21 : decode cX12_wish 21 = .ok (.i2l, 1) := by decide +kernel
theorem dX12_wish_22 : decode cX12_wish 22 = .ok (.ldc2_w 407, 3) := by decide +kernel
theorem dX12_wish_25 : decode cX12_wish 25 = .ok (.ldc2_w 173, 3) := by decide +kernel
theorem dX12_wish_28 : decode cX12_wish 28 = .ok (.invokestatic 156, 3) := by decide +kernel
theorem dX12_wish_31 : decode cX12_wish 31 = .ok (.ifCond .ne 8, 3) := by decide +kernel
theorem dX12_wish_34 : decode cX12_wish 34 = .ok (.aload_n 0, 1) := by decide +kernel
theorem dX12_wish_35 : decode cX12_wish 35 = .ok (.invokevirtual 347, 3) := by decide +kernel
theorem dX12_wish_38 : decode cX12_wish 38 = .ok (.ireturn, 1) := by decide +kernel
theorem dX12_wish_39 : decode cX12_wish 39 = .ok (.aload_n 0, 1) := by decide +kernel
theorem dX12_wish_40 : decode cX12_wish 40 = .ok (.getfield 123, 3) := by decide +kernel
theorem dX12_wish_43 : decode cX12_wish 43 = .ok (.bipush 16, 2) := by decide +kernel
theorem dX12_wish_45 : decode cX12_wish 45 = .ok (.iload_n 1, 1) := by decide +kernel
theorem dX12_wish_46 : decode cX12_wish 46 = .ok (.imul, 1) := by decide +kernel
theorem dX12_wish_47 : decode cX12_wish 47 = .ok (.iload_n 2, 1) := by decide +kernel
theorem dX12_wish_48 : decode cX12_wish 48 = .ok (.iadd, 1) := by decide +kernel
theorem dX12_wish_49 : decode cX12_wish 49 = .ok (.iaload, 1) := by decide +kernel
theorem dX12_wish_5 : decode cX12_wish 5 = .ok (.iload_n 1, 1) := by decide +kernel
theorem dX12_wish_50 : decode cX12_wish 50 = .ok (.istore 4, 2) := by decide +kernel
theorem dX12_wish_52 : decode cX12_wish 52 = .ok (.aload_n 0, 1) := by decide +kernel
theorem dX12_wish_53 : decode cX12_wish 53 = .ok (.getfield 123, 3) := by decide +kernel
theorem dX12_wish_56 : decode cX12_wish 56 = .ok (.bipush 16, 2) := by decide +kernel
theorem dX12_wish_58 : decode cX12_wish 58 = .ok (.iload_n 1, 1) := by decide +kernel
theorem dX12_wish_59 : decode cX12_wish 59 = .ok (.imul, 1) := by decide +kernel
theorem dX12_wish_6 : decode cX12_wish 6 = .ok (.invokestatic 415, 3) := by decide +kernel
theorem dX12_wish_60 : decode cX12_wish 60 = .ok (.iload_n 2, 1) := by decide +kernel
theorem dX12_wish_61 : decode cX12_wish 61 = .ok (.iadd, 1) := by decide +kernel
theorem dX12_wish_62 : decode cX12_wish 62 = .ok (.iload_n 3, 1) := by decide +kernel
theorem dX12_wish_63 : decode cX12_wish 63 = .ok (.iastore, 1) := by decide +kernel
theorem dX12_wish_64 : decode cX12_wish 64 = .ok (.iload 4, 2) := by decide +kernel
theorem dX12_wish_66 : decode cX12_wish 66 = .ok (.ireturn, 1) := by decide +kernel
theorem dX12_wish_9 : decode cX12_wish 9 = .ok (.ifCond .eq 25, 3) := by decide +kernel
theorem dX12_within_0 : decode cX12_within 0 = .ok (.aload_n 0, 1) := by decide +kernel
theorem dX12_within_1 : decode cX12_within 1 = .ok (.iconst 0, 1) := by decide +kernel
theorem dX12_within_10 : decode cX12_within 10 = .ok (.ifCond .eq 23, 3) := by decide +kernel
theorem dX12_within_13 : decode cX12_within 13 = .ok (.aload_n 0, 1) := by decide +kernel
theorem dX12_within_14 : decode cX12_within 14 = .ok (.iload_n 2, 1) := by decide +kernel
theorem dX12_within_15 : decode cX12_within 15 = .ok (.invokevirtual 166, 3) := by decide +kernel
theorem dX12_within_18 : decode cX12_within 18 = .ok (.ifCond .eq 15, 3) := by decide +kernel
theorem dX12_within_2 : decode cX12_within 2 = .ok (.putfield 150, 3) := by decide +kernel
theorem dX12_within_21 : decode cX12_within 21 = .ok (.aload_n 0, 1) := by decide +kernel
theorem dX12_within_22 : decode cX12_within 22 = .ok (.iload_n 1, 1) := by decide +kernel
theorem dX12_within_23 : decode cX12_within 23 = .ok (.iload_n 2, 1) := by decide +kernel
theorem dX12_within_24 : decode cX12_within 24 = .ok (.invokevirtual 186, 3) := by decide +kernel
theorem dX12_within_27 : decode cX12_within 27 = .ok (.invokestatic 190, 3) := by decide +kernel
theorem dX12_within_30 : decode cX12_within 30 = .ok (.goto 4, 3) := by decide +kernel
theorem dX12_within_33 : decode cX12_within 33 = .ok (.iconst (-1), 1) := by decide +kernel
theorem dX12_within_34 : decode cX12_within 34 = .ok (.ireturn, 1) := by decide +kernel
theorem dX12_within_5 : decode cX12_within 5 = .ok (.aload_n 0, 1) := by decide +kernel
theorem dX12_within_6 : decode cX12_within 6 = .ok (.iload_n 1, 1) := by decide +kernel
theorem dX12_within_7 : decode cX12_within 7 = .ok (.invokevirtual 166, 3) := by decide +kernel
theorem dX12_worked_0 : decode cX12_worked 0 = .ok (.iconst 0, 1) := by decide +kernel
theorem dX12_worked_1 : decode cX12_worked 1 = .ok (.istore_n 3, 1) := by decide +kernel
theorem dX12_worked_101 : decode cX12_worked 101 = .ok (.iload_n 3, 1) := by decide +kernel
theorem dX12_worked_102 : decode cX12_worked 102 = .ok (.iconst 1, 1) := by decide +kernel
theorem dX12_worked_103 : decode cX12_worked 103 = .ok (.isub, 1) := by decide +kernel
theorem dX12_worked_104 : decode cX12_worked 104 = .ok (.iaload, 1) := by decide +kernel
theorem dX12_worked_105 : decode cX12_worked 105 = .ok (.ifCond .ne 7, 3) := by decide +kernel
theorem dX12_worked_108 : decode cX12_worked 108 = .ok (.iconst 1, 1) := by decide +kernel
theorem dX12_worked_109 : decode cX12_worked 109 = .ok (.goto 4, 3) := by decide +kernel
theorem dX12_worked_11 : decode cX12_worked 11 = .ok (.aload_n 0, 1) := by decide +kernel
theorem dX12_worked_112 : decode cX12_worked 112 = .ok (.iconst 0, 1) := by decide +kernel
theorem dX12_worked_113 : decode cX12_worked 113 = .ok (.invokestatic 190, 3) := by decide +kernel
theorem dX12_worked_116 : decode cX12_worked 116 = .ok (.iastore, 1) := by decide +kernel
theorem dX12_worked_117 : decode cX12_worked 117 = .ok (.goto 67, 3) := by decide +kernel
theorem dX12_worked_12 : decode cX12_worked 12 = .ok (.getfield 72, 3) := by decide +kernel
theorem dX12_worked_120 : decode cX12_worked 120 = .ok (.iload 5, 2) := by decide +kernel
theorem dX12_worked_122 : decode cX12_worked 122 = .ok (.bipush 126, 2) := by decide +kernel
theorem dX12_worked_124 : decode cX12_worked 124 = .ok (.invokestatic 297, 3) := by decide +kernel
theorem dX12_worked_127 : decode cX12_worked 127 = .ok (.if_icmp .ne 23, 3) := by decide +kernel
theorem dX12_worked_130 : decode cX12_worked 130 = .ok (.aload_n 0, 1) := by decide +kernel
theorem dX12_worked_131 : decode cX12_worked 131 = .ok (.getfield 78, 3) := by decide +kernel
theorem dX12_worked_134 : decode cX12_worked 134 = .ok (.iload_n 3, 1) := by decide +kernel
theorem dX12_worked_135 : decode cX12_worked 135 = .ok (.iconst 1, 1) := by decide +kernel
theorem dX12_worked_136 : decode cX12_worked 136 = .ok (.isub, 1) := by decide +kernel
theorem dX12_worked_137 : decode cX12_worked 137 = .ok (.aload_n 0, 1) := by decide +kernel
theorem dX12_worked_138 : decode cX12_worked 138 = .ok (.getfield 78, 3) := by decide +kernel
theorem dX12_worked_141 : decode cX12_worked 141 = .ok (.iload_n 3, 1) := by decide +kernel
theorem dX12_worked_142 : decode cX12_worked 142 = .ok (.iconst 1, 1) := by decide +kernel
theorem dX12_worked_143 : decode cX12_worked 143 = .ok (.isub, 1) := by decide +kernel
theorem dX12_worked_144 : decode cX12_worked 144 = .ok (.iaload, 1) := by decide +kernel
theorem dX12_worked_145 : decode cX12_worked 145 = .ok (.ineg, 1) := by decide +kernel
theorem dX12_worked_146 : decode cX12_worked 146 = .ok (.iastore, 1) := by decide +kernel
theorem dX12_worked_147 : decode cX12_worked 147 = .ok (.goto 37, 3) := by decide +kernel
theorem dX12_worked_15 : decode cX12_worked 15 = .ok (.iload 4, 2) := by decide +kernel
theorem dX12_worked_150 : decode cX12_worked 150 = .ok (.iinc 3 (-1), 3) := by decide +kernel
theorem dX12_worked_153 : decode cX12_worked 153 = .ok (.aload_n 0, 1) := by decide +kernel
theorem dX12_worked_154 : decode cX12_worked 154 = .ok (.getfield 78, 3) := by decide +kernel
theorem dX12_worked_157 : decode cX12_worked 157 = .ok (.iload_n 3, 1) := by decide +kernel
theorem dX12_worked_158 : decode cX12_worked 158 = .ok (.iconst 1, 1) := by decide +kernel
theorem dX12_worked_159 : decode cX12_worked 159 = .ok (.isub, 1) := by decide +kernel
theorem dX12_worked_160 : decode cX12_worked 160 = .ok (.iload 5, 2) := by decide +kernel
theorem dX12_worked_162 : decode cX12_worked 162 = .ok (.sipush 200, 3) := by decide +kernel
theorem dX12_worked_165 : decode cX12_worked 165 = .ok (.iadd, 1) := by decide +kernel
theorem dX12_worked_166 : decode cX12_worked 166 = .ok (.aload_n 0, 1) := by decide +kernel
theorem dX12_worked_167 : decode cX12_worked 167 = .ok (.getfield 78, 3) := by decide +kernel
theorem dX12_worked_17 : decode cX12_worked 17 = .ok (.iaload, 1) := by decide +kernel
theorem dX12_worked_170 : decode cX12_worked 170 = .ok (.iload_n 3, 1) := by decide +kernel
theorem dX12_worked_171 : decode cX12_worked 171 = .ok (.iconst 1, 1) := by decide +kernel
theorem dX12_worked_172 : decode cX12_worked 172 = .ok (.isub, 1) := by decide +kernel
theorem dX12_worked_173 : decode cX12_worked 173 = .ok (.iaload, 1) := by decide +kernel
theorem dX12_worked_174 : decode cX12_worked 174 = .ok (.aload_n 0, 1) := by decide +kernel
theorem dX12_worked_175 : decode cX12_worked 175 = .ok (.getfield 78, 3) := by decide +kernel
theorem dX12_worked_178 : decode cX12_worked 178 = .ok (.iload_n 3, 1) := by decide +kernel
theorem dX12_worked_179 : decode cX12_worked 179 = .ok (.iaload, 1) := by decide +kernel
theorem dX12_worked_18 : decode cX12_worked 18 = .ok (.sipush (-300), 3) := by decide +kernel
theorem dX12_worked_180 : decode cX12_worked 180 = .ok (.invokestatic 327, 3) := by decide +kernel
theorem dX12_worked_183 : decode cX12_worked 183 = .ok (.iastore, 1) := by decide +kernel
theorem dX12_worked_184 : decode cX12_worked 184 = .ok (.iinc 4 1, 3) := by decide +kernel
theorem dX12_worked_187 : decode cX12_worked 187 = .ok (.goto (-182), 3) := by decide +kernel
theorem dX12_worked_190 : decode cX12_worked 190 = .ok (.aload_n 0, 1) := by decide +kernel
theorem dX12_worked_191 : decode cX12_worked 191 = .ok (.iload 4, 2) := by decide +kernel
theorem dX12_worked_193 : decode cX12_worked 193 = .ok (.putfield 331, 3) := by decide +kernel
theorem dX12_worked_196 : decode cX12_worked 196 = .ok (.aload_n 0, 1) := by decide +kernel
theorem dX12_worked_197 : decode cX12_worked 197 = .ok (.getfield 78, 3) := by decide +kernel
theorem dX12_worked_2 : decode cX12_worked 2 = .ok (.iload_n 1, 1) := by decide +kernel
theorem dX12_worked_200 : decode cX12_worked 200 = .ok (.iconst 0, 1) := by decide +kernel
theorem dX12_worked_201 : decode cX12_worked 201 = .ok (.iaload, 1) := by decide +kernel
theorem dX12_worked_202 : decode cX12_worked 202 = .ok (.ireturn, 1) := by decide +kernel
theorem dX12_worked_21 : decode cX12_worked 21 = .ok (.if_icmp .eq 169, 3) := by decide +kernel
theorem dX12_worked_24 : decode cX12_worked 24 = .ok (.aload_n 0, 1) := by decide +kernel
theorem dX12_worked_25 : decode cX12_worked 25 = .ok (.getfield 72, 3) := by decide +kernel
theorem dX12_worked_28 : decode cX12_worked 28 = .ok (.iload 4, 2) := by decide +kernel
theorem dX12_worked_3 : decode cX12_worked 3 = .ok (.istore 4, 2) := by decide +kernel
theorem dX12_worked_30 : decode cX12_worked 30 = .ok (.iaload, 1) := by decide +kernel
theorem dX12_worked_31 : decode cX12_worked 31 = .ok (.istore 5, 2) := by decide +kernel
theorem dX12_worked_33 : decode cX12_worked 33 = .ok (.iload 5, 2) := by decide +kernel
theorem dX12_worked_35 : decode cX12_worked 35 = .ok (.ifCond .lt 17, 3) := by decide +kernel
theorem dX12_worked_38 : decode cX12_worked 38 = .ok (.aload_n 0, 1) := by decide +kernel
theorem dX12_worked_39 : decode cX12_worked 39 = .ok (.getfield 78, 3) := by decide +kernel
theorem dX12_worked_42 : decode cX12_worked 42 = .ok (.iload_n 3, 1) := by decide +kernel
theorem dX12_worked_43 : decode cX12_worked 43 = .ok (.iload 5, 2) := by decide +kernel
theorem dX12_worked_45 : decode cX12_worked 45 = .ok (.iastore, 1) := by decide +kernel
theorem dX12_worked_46 : decode cX12_worked 46 = .ok (.iinc 3 1, 3) := by decide +kernel
theorem dX12_worked_49 : decode cX12_worked 49 = .ok (.goto 135, 3) := by decide +kernel
theorem dX12_worked_5 : decode cX12_worked 5 = .ok (.iload 4, 2) := by decide +kernel
theorem dX12_worked_52 : decode cX12_worked 52 = .ok (.iload 5, 2) := by decide +kernel
theorem dX12_worked_54 : decode cX12_worked 54 = .ok (.bipush (-16), 2) := by decide +kernel
theorem dX12_worked_56 : decode cX12_worked 56 = .ok (.if_icmp .lt 24, 3) := by decide +kernel
theorem dX12_worked_59 : decode cX12_worked 59 = .ok (.aload_n 0, 1) := by decide +kernel
theorem dX12_worked_60 : decode cX12_worked 60 = .ok (.getfield 78, 3) := by decide +kernel
theorem dX12_worked_63 : decode cX12_worked 63 = .ok (.iload_n 3, 1) := by decide +kernel
theorem dX12_worked_64 : decode cX12_worked 64 = .ok (.aload_n 0, 1) := by decide +kernel
theorem dX12_worked_65 : decode cX12_worked 65 = .ok (.getfield 81, 3) := by decide +kernel
theorem dX12_worked_68 : decode cX12_worked 68 = .ok (.iconst (-1), 1) := by decide +kernel
theorem dX12_worked_69 : decode cX12_worked 69 = .ok (.iload 5, 2) := by decide +kernel
theorem dX12_worked_7 : decode cX12_worked 7 = .ok (.iload_n 2, 1) := by decide +kernel
theorem dX12_worked_71 : decode cX12_worked 71 = .ok (.isub, 1) := by decide +kernel
theorem dX12_worked_72 : decode cX12_worked 72 = .ok (.iaload, 1) := by decide +kernel
theorem dX12_worked_73 : decode cX12_worked 73 = .ok (.iastore, 1) := by decide +kernel
theorem dX12_worked_74 : decode cX12_worked 74 = .ok (.iinc 3 1, 3) := by decide +kernel
theorem dX12_worked_77 : decode cX12_worked 77 = .ok (.goto 107, 3) := by decide +kernel
theorem dX12_worked_8 : decode cX12_worked 8 = .ok (.if_icmp .ge 182, 3) := by decide +kernel
theorem dX12_worked_80 : decode cX12_worked 80 = .ok (.iload 5, 2) := by decide +kernel
theorem dX12_worked_82 : decode cX12_worked 82 = .ok (.bipush 33, 2) := by decide +kernel
theorem dX12_worked_84 : decode cX12_worked 84 = .ok (.invokestatic 297, 3) := by decide +kernel
theorem dX12_worked_87 : decode cX12_worked 87 = .ok (.if_icmp .ne 33, 3) := by decide +kernel
theorem dX12_worked_90 : decode cX12_worked 90 = .ok (.aload_n 0, 1) := by decide +kernel
theorem dX12_worked_91 : decode cX12_worked 91 = .ok (.getfield 78, 3) := by decide +kernel
theorem dX12_worked_94 : decode cX12_worked 94 = .ok (.iload_n 3, 1) := by decide +kernel
theorem dX12_worked_95 : decode cX12_worked 95 = .ok (.iconst 1, 1) := by decide +kernel
theorem dX12_worked_96 : decode cX12_worked 96 = .ok (.isub, 1) := by decide +kernel
theorem dX12_worked_97 : decode cX12_worked 97 = .ok (.aload_n 0, 1) := by decide +kernel
theorem dX12_worked_98 : decode cX12_worked 98 = .ok (.getfield 78, 3) := by decide +kernel
theorem dX1_choose_0 : decode cX1_choose 0 = .ok (.aload_n 0, 1) := by decide +kernel
theorem dX1_choose_1 : decode cX1_choose 1 = .ok (.getfield 29, 3) := by decide +kernel
theorem dX1_choose_10 : decode cX1_choose 10 = .ok (.getfield 20, 3) := by decide +kernel
theorem dX1_choose_13 : decode cX1_choose 13 = .ok (.aload_n 0, 1) := by decide +kernel
theorem dX1_choose_14 : decode cX1_choose 14 = .ok (.getfield 29, 3) := by decide +kernel
theorem dX1_choose_17 : decode cX1_choose 17 = .ok (.iload_n 1, 1) := by decide +kernel
theorem dX1_choose_18 : decode cX1_choose 18 = .ok (.iastore, 1) := by decide +kernel
theorem dX1_choose_19 : decode cX1_choose 19 = .ok (.aload_n 0, 1) := by decide +kernel
theorem dX1_choose_20 : decode cX1_choose 20 = .ok (.getfield 23, 3) := by decide +kernel
theorem dX1_choose_23 : decode cX1_choose 23 = .ok (.aload_n 0, 1) := by decide +kernel
theorem dX1_choose_24 : decode cX1_choose 24 = .ok (.getfield 29, 3) := by decide +kernel
theorem dX1_choose_27 : decode cX1_choose 27 = .ok (.iload_n 2, 1) := by decide +kernel
theorem dX1_choose_28 : decode cX1_choose 28 = .ok (.iastore, 1) := by decide +kernel
theorem dX1_choose_29 : decode cX1_choose 29 = .ok (.aload_n 0, 1) := by decide +kernel
theorem dX1_choose_30 : decode cX1_choose 30 = .ok (.getfield 26, 3) := by decide +kernel
theorem dX1_choose_33 : decode cX1_choose 33 = .ok (.aload_n 0, 1) := by decide +kernel
theorem dX1_choose_34 : decode cX1_choose 34 = .ok (.getfield 29, 3) := by decide +kernel
theorem dX1_choose_37 : decode cX1_choose 37 = .ok (.iload_n 3, 1) := by decide +kernel
theorem dX1_choose_38 : decode cX1_choose 38 = .ok (.iastore, 1) := by decide +kernel
theorem dX1_choose_39 : decode cX1_choose 39 = .ok (.aload_n 0, 1) := by decide +kernel
theorem dX1_choose_4 : decode cX1_choose 4 = .ok (.bipush 6, 2) := by decide +kernel
theorem dX1_choose_40 : decode cX1_choose 40 = .ok (.dup, 1) := by decide +kernel
theorem dX1_choose_41 : decode cX1_choose 41 = .ok (.getfield 29, 3) := by decide +kernel
theorem dX1_choose_44 : decode cX1_choose 44 = .ok (.iconst 1, 1) := by decide +kernel
theorem dX1_choose_45 : decode cX1_choose 45 = .ok (.iadd, 1) := by decide +kernel
theorem dX1_choose_46 : decode cX1_choose 46 = .ok (.putfield 29, 3) := by decide +kernel
theorem dX1_choose_49 : decode cX1_choose 49 = .ok (.return_, 1) := by decide +kernel
theorem dX1_choose_6 : decode cX1_choose 6 = .ok (.if_icmp .ge 43, 3) := by decide +kernel
theorem dX1_choose_9 : decode cX1_choose 9 = .ok (.aload_n 0, 1) := by decide +kernel
theorem dX1_inAll_0 : decode cX1_inAll 0 = .ok (.iconst 0, 1) := by decide +kernel
theorem dX1_inAll_1 : decode cX1_inAll 1 = .ok (.istore_n 1, 1) := by decide +kernel
theorem dX1_inAll_10 : decode cX1_inAll 10 = .ok (.iload_n 1, 1) := by decide +kernel
theorem dX1_inAll_11 : decode cX1_inAll 11 = .ok (.aload_n 0, 1) := by decide +kernel
theorem dX1_inAll_12 : decode cX1_inAll 12 = .ok (.getfield 9, 3) := by decide +kernel
theorem dX1_inAll_15 : decode cX1_inAll 15 = .ok (.iload_n 2, 1) := by decide +kernel
theorem dX1_inAll_16 : decode cX1_inAll 16 = .ok (.iaload, 1) := by decide +kernel
theorem dX1_inAll_17 : decode cX1_inAll 17 = .ok (.iadd, 1) := by decide +kernel
theorem dX1_inAll_18 : decode cX1_inAll 18 = .ok (.istore_n 1, 1) := by decide +kernel
theorem dX1_inAll_19 : decode cX1_inAll 19 = .ok (.iinc 2 1, 3) := by decide +kernel
theorem dX1_inAll_2 : decode cX1_inAll 2 = .ok (.iconst 0, 1) := by decide +kernel
theorem dX1_inAll_22 : decode cX1_inAll 22 = .ok (.goto (-18), 3) := by decide +kernel
theorem dX1_inAll_25 : decode cX1_inAll 25 = .ok (.iload_n 1, 1) := by decide +kernel
theorem dX1_inAll_26 : decode cX1_inAll 26 = .ok (.ireturn, 1) := by decide +kernel
theorem dX1_inAll_3 : decode cX1_inAll 3 = .ok (.istore_n 2, 1) := by decide +kernel
theorem dX1_inAll_4 : decode cX1_inAll 4 = .ok (.iload_n 2, 1) := by decide +kernel
theorem dX1_inAll_5 : decode cX1_inAll 5 = .ok (.bipush 16, 2) := by decide +kernel
theorem dX1_inAll_7 : decode cX1_inAll 7 = .ok (.if_icmp .ge 18, 3) := by decide +kernel
theorem dX1_init_0 : decode cX1_init 0 = .ok (.aload_n 0, 1) := by decide +kernel
theorem dX1_init_1 : decode cX1_init 1 = .ok (.invokespecial 3, 3) := by decide +kernel
theorem dX1_init_12 : decode cX1_init 12 = .ok (.aload_n 0, 1) := by decide +kernel
theorem dX1_init_13 : decode cX1_init 13 = .ok (.bipush 6, 2) := by decide +kernel
theorem dX1_init_15 : decode cX1_init 15 = .ok (.newarray .int, 2) := by decide +kernel
theorem dX1_init_17 : decode cX1_init 17 = .ok (.putfield 17, 3) := by decide +kernel
theorem dX1_init_20 : decode cX1_init 20 = .ok (.aload_n 0, 1) := by decide +kernel
theorem dX1_init_21 : decode cX1_init 21 = .ok (.bipush 6, 2) := by decide +kernel
theorem dX1_init_23 : decode cX1_init 23 = .ok (.newarray .int, 2) := by decide +kernel
theorem dX1_init_25 : decode cX1_init 25 = .ok (.putfield 20, 3) := by decide +kernel
theorem dX1_init_28 : decode cX1_init 28 = .ok (.aload_n 0, 1) := by decide +kernel
theorem dX1_init_29 : decode cX1_init 29 = .ok (.bipush 6, 2) := by decide +kernel
theorem dX1_init_31 : decode cX1_init 31 = .ok (.newarray .int, 2) := by decide +kernel
theorem dX1_init_33 : decode cX1_init 33 = .ok (.putfield 23, 3) := by decide +kernel
theorem dX1_init_36 : decode cX1_init 36 = .ok (.aload_n 0, 1) := by decide +kernel
theorem dX1_init_37 : decode cX1_init 37 = .ok (.bipush 6, 2) := by decide +kernel
theorem dX1_init_39 : decode cX1_init 39 = .ok (.newarray .int, 2) := by decide +kernel
theorem dX1_init_4 : decode cX1_init 4 = .ok (.aload_n 0, 1) := by decide +kernel
theorem dX1_init_41 : decode cX1_init 41 = .ok (.putfield 26, 3) := by decide +kernel
theorem dX1_init_44 : decode cX1_init 44 = .ok (.aload_n 0, 1) := by decide +kernel
theorem dX1_init_45 : decode cX1_init 45 = .ok (.iconst 0, 1) := by decide +kernel
theorem dX1_init_46 : decode cX1_init 46 = .ok (.putfield 29, 3) := by decide +kernel
theorem dX1_init_49 : decode cX1_init 49 = .ok (.aload_n 0, 1) := by decide +kernel
theorem dX1_init_5 : decode cX1_init 5 = .ok (.bipush 16, 2) := by decide +kernel
theorem dX1_init_50 : decode cX1_init 50 = .ok (.bipush 16, 2) := by decide +kernel
theorem dX1_init_52 : decode cX1_init 52 = .ok (.newarray .int, 2) := by decide +kernel
theorem dX1_init_54 : decode cX1_init 54 = .ok (.putfield 33, 3) := by decide +kernel
theorem dX1_init_57 : decode cX1_init 57 = .ok (.aload_n 0, 1) := by decide +kernel
theorem dX1_init_58 : decode cX1_init 58 = .ok (.bipush 16, 2) := by decide +kernel
theorem dX1_init_60 : decode cX1_init 60 = .ok (.newarray .int, 2) := by decide +kernel
theorem dX1_init_62 : decode cX1_init 62 = .ok (.putfield 36, 3) := by decide +kernel
theorem dX1_init_65 : decode cX1_init 65 = .ok (.return_, 1) := by decide +kernel
theorem dX1_init_7 : decode cX1_init 7 = .ok (.newarray .int, 2) := by decide +kernel
theorem dX1_init_9 : decode cX1_init 9 = .ok (.putfield 9, 3) := by decide +kernel
theorem dX1_keepTrial_0 : decode cX1_keepTrial 0 = .ok (.aload_n 0, 1) := by decide +kernel
theorem dX1_keepTrial_1 : decode cX1_keepTrial 1 = .ok (.getfield 33, 3) := by decide +kernel
theorem dX1_keepTrial_10 : decode cX1_keepTrial 10 = .ok (.bipush 16, 2) := by decide +kernel
theorem dX1_keepTrial_12 : decode cX1_keepTrial 12 = .ok (.invokestatic 45, 3) := by decide +kernel
theorem dX1_keepTrial_15 : decode cX1_keepTrial 15 = .ok (.return_, 1) := by decide +kernel
theorem dX1_keepTrial_4 : decode cX1_keepTrial 4 = .ok (.iconst 0, 1) := by decide +kernel
theorem dX1_keepTrial_5 : decode cX1_keepTrial 5 = .ok (.aload_n 0, 1) := by decide +kernel
theorem dX1_keepTrial_6 : decode cX1_keepTrial 6 = .ok (.getfield 36, 3) := by decide +kernel
theorem dX1_keepTrial_9 : decode cX1_keepTrial 9 = .ok (.iconst 0, 1) := by decide +kernel
theorem dX1_nextTrial_0 : decode cX1_nextTrial 0 = .ok (.aload_n 0, 1) := by decide +kernel
theorem dX1_nextTrial_1 : decode cX1_nextTrial 1 = .ok (.getfield 29, 3) := by decide +kernel
theorem dX1_nextTrial_11 : decode cX1_nextTrial 11 = .ok (.aload_n 0, 1) := by decide +kernel
theorem dX1_nextTrial_12 : decode cX1_nextTrial 12 = .ok (.getfield 33, 3) := by decide +kernel
theorem dX1_nextTrial_15 : decode cX1_nextTrial 15 = .ok (.aload_n 0, 1) := by decide +kernel
theorem dX1_nextTrial_16 : decode cX1_nextTrial 16 = .ok (.getfield 20, 3) := by decide +kernel
theorem dX1_nextTrial_19 : decode cX1_nextTrial 19 = .ok (.iload_n 1, 1) := by decide +kernel
theorem dX1_nextTrial_20 : decode cX1_nextTrial 20 = .ok (.iaload, 1) := by decide +kernel
theorem dX1_nextTrial_21 : decode cX1_nextTrial 21 = .ok (.iaload, 1) := by decide +kernel
theorem dX1_nextTrial_22 : decode cX1_nextTrial 22 = .ok (.istore_n 2, 1) := by decide +kernel
theorem dX1_nextTrial_23 : decode cX1_nextTrial 23 = .ok (.iload_n 2, 1) := by decide +kernel
theorem dX1_nextTrial_24 : decode cX1_nextTrial 24 = .ok (.ifCond .le 53, 3) := by decide +kernel
theorem dX1_nextTrial_27 : decode cX1_nextTrial 27 = .ok (.aload_n 0, 1) := by decide +kernel
theorem dX1_nextTrial_28 : decode cX1_nextTrial 28 = .ok (.getfield 33, 3) := by decide +kernel
theorem dX1_nextTrial_31 : decode cX1_nextTrial 31 = .ok (.aload_n 0, 1) := by decide +kernel
theorem dX1_nextTrial_32 : decode cX1_nextTrial 32 = .ok (.getfield 20, 3) := by decide +kernel
theorem dX1_nextTrial_35 : decode cX1_nextTrial 35 = .ok (.iload_n 1, 1) := by decide +kernel
theorem dX1_nextTrial_36 : decode cX1_nextTrial 36 = .ok (.iaload, 1) := by decide +kernel
theorem dX1_nextTrial_37 : decode cX1_nextTrial 37 = .ok (.iconst 0, 1) := by decide +kernel
theorem dX1_nextTrial_38 : decode cX1_nextTrial 38 = .ok (.iastore, 1) := by decide +kernel
theorem dX1_nextTrial_39 : decode cX1_nextTrial 39 = .ok (.aload_n 0, 1) := by decide +kernel
theorem dX1_nextTrial_4 : decode cX1_nextTrial 4 = .ok (.iconst 1, 1) := by decide +kernel
theorem dX1_nextTrial_40 : decode cX1_nextTrial 40 = .ok (.getfield 33, 3) := by decide +kernel
theorem dX1_nextTrial_43 : decode cX1_nextTrial 43 = .ok (.aload_n 0, 1) := by decide +kernel
theorem dX1_nextTrial_44 : decode cX1_nextTrial 44 = .ok (.getfield 20, 3) := by decide +kernel
theorem dX1_nextTrial_47 : decode cX1_nextTrial 47 = .ok (.iload_n 1, 1) := by decide +kernel
theorem dX1_nextTrial_48 : decode cX1_nextTrial 48 = .ok (.iconst 1, 1) := by decide +kernel
theorem dX1_nextTrial_49 : decode cX1_nextTrial 49 = .ok (.isub, 1) := by decide +kernel
theorem dX1_nextTrial_5 : decode cX1_nextTrial 5 = .ok (.isub, 1) := by decide +kernel
theorem dX1_nextTrial_50 : decode cX1_nextTrial 50 = .ok (.iaload, 1) := by decide +kernel
theorem dX1_nextTrial_51 : decode cX1_nextTrial 51 = .ok (.dup2, 1) := by decide +kernel
theorem dX1_nextTrial_52 : decode cX1_nextTrial 52 = .ok (.iaload, 1) := by decide +kernel
theorem dX1_nextTrial_53 : decode cX1_nextTrial 53 = .ok (.iconst 1, 1) := by decide +kernel
theorem dX1_nextTrial_54 : decode cX1_nextTrial 54 = .ok (.iadd, 1) := by decide +kernel
theorem dX1_nextTrial_55 : decode cX1_nextTrial 55 = .ok (.iastore, 1) := by decide +kernel
theorem dX1_nextTrial_56 : decode cX1_nextTrial 56 = .ok (.aload_n 0, 1) := by decide +kernel
theorem dX1_nextTrial_57 : decode cX1_nextTrial 57 = .ok (.getfield 33, 3) := by decide +kernel
theorem dX1_nextTrial_6 : decode cX1_nextTrial 6 = .ok (.istore_n 1, 1) := by decide +kernel
theorem dX1_nextTrial_60 : decode cX1_nextTrial 60 = .ok (.aload_n 0, 1) := by decide +kernel
theorem dX1_nextTrial_61 : decode cX1_nextTrial 61 = .ok (.getfield 20, 3) := by decide +kernel
theorem dX1_nextTrial_64 : decode cX1_nextTrial 64 = .ok (.aload_n 0, 1) := by decide +kernel
theorem dX1_nextTrial_65 : decode cX1_nextTrial 65 = .ok (.getfield 29, 3) := by decide +kernel
theorem dX1_nextTrial_68 : decode cX1_nextTrial 68 = .ok (.iconst 1, 1) := by decide +kernel
theorem dX1_nextTrial_69 : decode cX1_nextTrial 69 = .ok (.isub, 1) := by decide +kernel
theorem dX1_nextTrial_7 : decode cX1_nextTrial 7 = .ok (.iload_n 1, 1) := by decide +kernel
theorem dX1_nextTrial_70 : decode cX1_nextTrial 70 = .ok (.iaload, 1) := by decide +kernel
theorem dX1_nextTrial_71 : decode cX1_nextTrial 71 = .ok (.iload_n 2, 1) := by decide +kernel
theorem dX1_nextTrial_72 : decode cX1_nextTrial 72 = .ok (.iconst 1, 1) := by decide +kernel
theorem dX1_nextTrial_73 : decode cX1_nextTrial 73 = .ok (.isub, 1) := by decide +kernel
theorem dX1_nextTrial_74 : decode cX1_nextTrial 74 = .ok (.iastore, 1) := by decide +kernel
theorem dX1_nextTrial_75 : decode cX1_nextTrial 75 = .ok (.iconst 1, 1) := by decide +kernel
theorem dX1_nextTrial_76 : decode cX1_nextTrial 76 = .ok (.ireturn, 1) := by decide +kernel
theorem dX1_nextTrial_77 : decode cX1_nextTrial 77 = .ok (.iinc 1 (-1), 3) := by decide +kernel
theorem dX1_nextTrial_8 : decode cX1_nextTrial 8 = .ok (.ifCond .le 75, 3) := by decide +kernel
theorem dX1_nextTrial_80 : decode cX1_nextTrial 80 = .ok (.goto (-73), 3) := by decide +kernel
theorem dX1_nextTrial_83 : decode cX1_nextTrial 83 = .ok (.iconst 0, 1) := by decide +kernel
theorem dX1_nextTrial_84 : decode cX1_nextTrial 84 = .ok (.ireturn, 1) := by decide +kernel
theorem dX1_settle_0 : decode cX1_settle 0 = .ok (.aload_n 0, 1) := by decide +kernel
theorem dX1_settle_1 : decode cX1_settle 1 = .ok (.getfield 36, 3) := by decide +kernel
theorem dX1_settle_10 : decode cX1_settle 10 = .ok (.bipush 16, 2) := by decide +kernel
theorem dX1_settle_12 : decode cX1_settle 12 = .ok (.invokestatic 45, 3) := by decide +kernel
theorem dX1_settle_15 : decode cX1_settle 15 = .ok (.return_, 1) := by decide +kernel
theorem dX1_settle_4 : decode cX1_settle 4 = .ok (.iconst 0, 1) := by decide +kernel
theorem dX1_settle_5 : decode cX1_settle 5 = .ok (.aload_n 0, 1) := by decide +kernel
theorem dX1_settle_6 : decode cX1_settle 6 = .ok (.getfield 9, 3) := by decide +kernel
theorem dX1_settle_9 : decode cX1_settle 9 = .ok (.iconst 0, 1) := by decide +kernel
theorem dX1_startTrial_0 : decode cX1_startTrial 0 = .ok (.aload_n 0, 1) := by decide +kernel
theorem dX1_startTrial_1 : decode cX1_startTrial 1 = .ok (.getfield 33, 3) := by decide +kernel
theorem dX1_startTrial_12 : decode cX1_startTrial 12 = .ok (.ifCond .ne 5, 3) := by decide +kernel
theorem dX1_startTrial_15 : decode cX1_startTrial 15 = .ok (.iconst 0, 1) := by decide +kernel
theorem dX1_startTrial_16 : decode cX1_startTrial 16 = .ok (.ireturn, 1) := by decide +kernel
theorem dX1_startTrial_17 : decode cX1_startTrial 17 = .ok (.aload_n 0, 1) := by decide +kernel
theorem dX1_startTrial_18 : decode cX1_startTrial 18 = .ok (.getfield 33, 3) := by decide +kernel
theorem dX1_startTrial_21 : decode cX1_startTrial 21 = .ok (.aload_n 0, 1) := by decide +kernel
theorem dX1_startTrial_22 : decode cX1_startTrial 22 = .ok (.getfield 20, 3) := by decide +kernel
theorem dX1_startTrial_25 : decode cX1_startTrial 25 = .ok (.aload_n 0, 1) := by decide +kernel
theorem dX1_startTrial_26 : decode cX1_startTrial 26 = .ok (.getfield 29, 3) := by decide +kernel
theorem dX1_startTrial_29 : decode cX1_startTrial 29 = .ok (.iconst 1, 1) := by decide +kernel
theorem dX1_startTrial_30 : decode cX1_startTrial 30 = .ok (.isub, 1) := by decide +kernel
theorem dX1_startTrial_31 : decode cX1_startTrial 31 = .ok (.iaload, 1) := by decide +kernel
theorem dX1_startTrial_32 : decode cX1_startTrial 32 = .ok (.bipush 12, 2) := by decide +kernel
theorem dX1_startTrial_34 : decode cX1_startTrial 34 = .ok (.iastore, 1) := by decide +kernel
theorem dX1_startTrial_35 : decode cX1_startTrial 35 = .ok (.iconst 1, 1) := by decide +kernel
theorem dX1_startTrial_36 : decode cX1_startTrial 36 = .ok (.ireturn, 1) := by decide +kernel
theorem dX1_startTrial_4 : decode cX1_startTrial 4 = .ok (.iconst 0, 1) := by decide +kernel
theorem dX1_startTrial_5 : decode cX1_startTrial 5 = .ok (.invokestatic 39, 3) := by decide +kernel
theorem dX1_startTrial_8 : decode cX1_startTrial 8 = .ok (.aload_n 0, 1) := by decide +kernel
theorem dX1_startTrial_9 : decode cX1_startTrial 9 = .ok (.getfield 29, 3) := by decide +kernel
theorem dX1_trialPence_0 : decode cX1_trialPence 0 = .ok (.iconst 0, 1) := by decide +kernel
theorem dX1_trialPence_1 : decode cX1_trialPence 1 = .ok (.istore_n 1, 1) := by decide +kernel
theorem dX1_trialPence_12 : decode cX1_trialPence 12 = .ok (.aload_n 0, 1) := by decide +kernel
theorem dX1_trialPence_13 : decode cX1_trialPence 13 = .ok (.getfield 33, 3) := by decide +kernel
theorem dX1_trialPence_16 : decode cX1_trialPence 16 = .ok (.aload_n 0, 1) := by decide +kernel
theorem dX1_trialPence_17 : decode cX1_trialPence 17 = .ok (.getfield 20, 3) := by decide +kernel
theorem dX1_trialPence_2 : decode cX1_trialPence 2 = .ok (.iconst 0, 1) := by decide +kernel
theorem dX1_trialPence_20 : decode cX1_trialPence 20 = .ok (.iload_n 2, 1) := by decide +kernel
theorem dX1_trialPence_21 : decode cX1_trialPence 21 = .ok (.iaload, 1) := by decide +kernel
theorem dX1_trialPence_22 : decode cX1_trialPence 22 = .ok (.iaload, 1) := by decide +kernel
theorem dX1_trialPence_23 : decode cX1_trialPence 23 = .ok (.istore_n 3, 1) := by decide +kernel
theorem dX1_trialPence_24 : decode cX1_trialPence 24 = .ok (.iload_n 3, 1) := by decide +kernel
theorem dX1_trialPence_25 : decode cX1_trialPence 25 = .ok (.aload_n 0, 1) := by decide +kernel
theorem dX1_trialPence_26 : decode cX1_trialPence 26 = .ok (.getfield 26, 3) := by decide +kernel
theorem dX1_trialPence_29 : decode cX1_trialPence 29 = .ok (.iload_n 2, 1) := by decide +kernel
theorem dX1_trialPence_3 : decode cX1_trialPence 3 = .ok (.istore_n 2, 1) := by decide +kernel
theorem dX1_trialPence_30 : decode cX1_trialPence 30 = .ok (.iaload, 1) := by decide +kernel
theorem dX1_trialPence_31 : decode cX1_trialPence 31 = .ok (.if_icmp .le 5, 3) := by decide +kernel
theorem dX1_trialPence_34 : decode cX1_trialPence 34 = .ok (.iconst (-1), 1) := by decide +kernel
theorem dX1_trialPence_35 : decode cX1_trialPence 35 = .ok (.ireturn, 1) := by decide +kernel
theorem dX1_trialPence_36 : decode cX1_trialPence 36 = .ok (.iload_n 1, 1) := by decide +kernel
theorem dX1_trialPence_37 : decode cX1_trialPence 37 = .ok (.iload_n 3, 1) := by decide +kernel
theorem dX1_trialPence_38 : decode cX1_trialPence 38 = .ok (.aload_n 0, 1) := by decide +kernel
theorem dX1_trialPence_39 : decode cX1_trialPence 39 = .ok (.getfield 23, 3) := by decide +kernel
theorem dX1_trialPence_4 : decode cX1_trialPence 4 = .ok (.iload_n 2, 1) := by decide +kernel
theorem dX1_trialPence_42 : decode cX1_trialPence 42 = .ok (.iload_n 2, 1) := by decide +kernel
theorem dX1_trialPence_43 : decode cX1_trialPence 43 = .ok (.iaload, 1) := by decide +kernel
theorem dX1_trialPence_44 : decode cX1_trialPence 44 = .ok (.imul, 1) := by decide +kernel
theorem dX1_trialPence_45 : decode cX1_trialPence 45 = .ok (.iadd, 1) := by decide +kernel
theorem dX1_trialPence_46 : decode cX1_trialPence 46 = .ok (.istore_n 1, 1) := by decide +kernel
theorem dX1_trialPence_47 : decode cX1_trialPence 47 = .ok (.iinc 2 1, 3) := by decide +kernel
theorem dX1_trialPence_5 : decode cX1_trialPence 5 = .ok (.aload_n 0, 1) := by decide +kernel
theorem dX1_trialPence_50 : decode cX1_trialPence 50 = .ok (.goto (-46), 3) := by decide +kernel
theorem dX1_trialPence_53 : decode cX1_trialPence 53 = .ok (.iload_n 1, 1) := by decide +kernel
theorem dX1_trialPence_54 : decode cX1_trialPence 54 = .ok (.ireturn, 1) := by decide +kernel
theorem dX1_trialPence_6 : decode cX1_trialPence 6 = .ok (.getfield 29, 3) := by decide +kernel
theorem dX1_trialPence_9 : decode cX1_trialPence 9 = .ok (.if_icmp .ge 44, 3) := by decide +kernel
theorem dX2_add_0 : decode cX2_add 0 = .ok (.aload_n 0, 1) := by decide +kernel
theorem dX2_add_1 : decode cX2_add 1 = .ok (.getfield 20, 3) := by decide +kernel
theorem dX2_add_10 : decode cX2_add 10 = .ok (.ireturn, 1) := by decide +kernel
theorem dX2_add_11 : decode cX2_add 11 = .ok (.aload_n 0, 1) := by decide +kernel
theorem dX2_add_12 : decode cX2_add 12 = .ok (.getfield 16, 3) := by decide +kernel
theorem dX2_add_15 : decode cX2_add 15 = .ok (.aload_n 0, 1) := by decide +kernel
theorem dX2_add_16 : decode cX2_add 16 = .ok (.getfield 20, 3) := by decide +kernel
theorem dX2_add_19 : decode cX2_add 19 = .ok (.iconst 2, 1) := by decide +kernel
theorem dX2_add_20 : decode cX2_add 20 = .ok (.iastore, 1) := by decide +kernel
theorem dX2_add_21 : decode cX2_add 21 = .ok (.aload_n 0, 1) := by decide +kernel
theorem dX2_add_22 : decode cX2_add 22 = .ok (.dup, 1) := by decide +kernel
theorem dX2_add_23 : decode cX2_add 23 = .ok (.getfield 20, 3) := by decide +kernel
theorem dX2_add_26 : decode cX2_add 26 = .ok (.dup_x1, 1) := by decide +kernel
theorem dX2_add_27 : decode cX2_add 27 = .ok (.iconst 1, 1) := by decide +kernel
theorem dX2_add_28 : decode cX2_add 28 = .ok (.iadd, 1) := by decide +kernel
theorem dX2_add_29 : decode cX2_add 29 = .ok (.putfield 20, 3) := by decide +kernel
theorem dX2_add_32 : decode cX2_add 32 = .ok (.ireturn, 1) := by decide +kernel
theorem dX2_add_4 : decode cX2_add 4 = .ok (.bipush 20, 2) := by decide +kernel
theorem dX2_add_6 : decode cX2_add 6 = .ok (.if_icmp .lt 5, 3) := by decide +kernel
theorem dX2_add_9 : decode cX2_add 9 = .ok (.iconst (-1), 1) := by decide +kernel
theorem dX2_badWith_0 : decode cX2_badWith 0 = .ok (.iconst 0, 1) := by decide +kernel
theorem dX2_badWith_1 : decode cX2_badWith 1 = .ok (.istore_n 2, 1) := by decide +kernel
theorem dX2_badWith_12 : decode cX2_badWith 12 = .ok (.aload_n 0, 1) := by decide +kernel
theorem dX2_badWith_13 : decode cX2_badWith 13 = .ok (.getfield 11, 3) := by decide +kernel
theorem dX2_badWith_16 : decode cX2_badWith 16 = .ok (.iload_n 3, 1) := by decide +kernel
theorem dX2_badWith_17 : decode cX2_badWith 17 = .ok (.aaload, 1) := by decide +kernel
theorem dX2_badWith_18 : decode cX2_badWith 18 = .ok (.iload_n 1, 1) := by decide +kernel
theorem dX2_badWith_19 : decode cX2_badWith 19 = .ok (.iaload, 1) := by decide +kernel
theorem dX2_badWith_2 : decode cX2_badWith 2 = .ok (.iconst 0, 1) := by decide +kernel
theorem dX2_badWith_20 : decode cX2_badWith 20 = .ok (.ifCond .le 30, 3) := by decide +kernel
theorem dX2_badWith_23 : decode cX2_badWith 23 = .ok (.aload_n 0, 1) := by decide +kernel
theorem dX2_badWith_24 : decode cX2_badWith 24 = .ok (.getfield 16, 3) := by decide +kernel
theorem dX2_badWith_27 : decode cX2_badWith 27 = .ok (.iload_n 3, 1) := by decide +kernel
theorem dX2_badWith_28 : decode cX2_badWith 28 = .ok (.iaload, 1) := by decide +kernel
theorem dX2_badWith_29 : decode cX2_badWith 29 = .ok (.ifCond .ne 5, 3) := by decide +kernel
theorem dX2_badWith_3 : decode cX2_badWith 3 = .ok (.istore_n 3, 1) := by decide +kernel
theorem dX2_badWith_32 : decode cX2_badWith 32 = .ok (.iconst 0, 1) := by decide +kernel
theorem dX2_badWith_33 : decode cX2_badWith 33 = .ok (.ireturn, 1) := by decide +kernel
theorem dX2_badWith_34 : decode cX2_badWith 34 = .ok (.aload_n 0, 1) := by decide +kernel
theorem dX2_badWith_35 : decode cX2_badWith 35 = .ok (.getfield 16, 3) := by decide +kernel
theorem dX2_badWith_38 : decode cX2_badWith 38 = .ok (.iload_n 3, 1) := by decide +kernel
theorem dX2_badWith_39 : decode cX2_badWith 39 = .ok (.iaload, 1) := by decide +kernel
theorem dX2_badWith_4 : decode cX2_badWith 4 = .ok (.iload_n 3, 1) := by decide +kernel
theorem dX2_badWith_40 : decode cX2_badWith 40 = .ok (.iconst 1, 1) := by decide +kernel
theorem dX2_badWith_41 : decode cX2_badWith 41 = .ok (.if_icmp .ne 9, 3) := by decide +kernel
theorem dX2_badWith_44 : decode cX2_badWith 44 = .ok (.iload_n 2, 1) := by decide +kernel
theorem dX2_badWith_45 : decode cX2_badWith 45 = .ok (.iconst 1, 1) := by decide +kernel
theorem dX2_badWith_46 : decode cX2_badWith 46 = .ok (.iload_n 3, 1) := by decide +kernel
theorem dX2_badWith_47 : decode cX2_badWith 47 = .ok (.ishl, 1) := by decide +kernel
theorem dX2_badWith_48 : decode cX2_badWith 48 = .ok (.ior, 1) := by decide +kernel
theorem dX2_badWith_49 : decode cX2_badWith 49 = .ok (.istore_n 2, 1) := by decide +kernel
theorem dX2_badWith_5 : decode cX2_badWith 5 = .ok (.aload_n 0, 1) := by decide +kernel
theorem dX2_badWith_50 : decode cX2_badWith 50 = .ok (.iinc 3 1, 3) := by decide +kernel
theorem dX2_badWith_53 : decode cX2_badWith 53 = .ok (.goto (-49), 3) := by decide +kernel
theorem dX2_badWith_56 : decode cX2_badWith 56 = .ok (.iload_n 2, 1) := by decide +kernel
theorem dX2_badWith_57 : decode cX2_badWith 57 = .ok (.ireturn, 1) := by decide +kernel
theorem dX2_badWith_6 : decode cX2_badWith 6 = .ok (.getfield 20, 3) := by decide +kernel
theorem dX2_badWith_9 : decode cX2_badWith 9 = .ok (.if_icmp .ge 47, 3) := by decide +kernel
theorem dX2_chooseRow_0 : decode cX2_chooseRow 0 = .ok (.iconst 0, 1) := by decide +kernel
theorem dX2_chooseRow_1 : decode cX2_chooseRow 1 = .ok (.istore_n 3, 1) := by decide +kernel
theorem dX2_chooseRow_11 : decode cX2_chooseRow 11 = .ok (.iload_n 3, 1) := by decide +kernel
theorem dX2_chooseRow_12 : decode cX2_chooseRow 12 = .ok (.iload_n 3, 1) := by decide +kernel
theorem dX2_chooseRow_13 : decode cX2_chooseRow 13 = .ok (.iastore, 1) := by decide +kernel
theorem dX2_chooseRow_14 : decode cX2_chooseRow 14 = .ok (.iinc 3 1, 3) := by decide +kernel
theorem dX2_chooseRow_17 : decode cX2_chooseRow 17 = .ok (.goto (-15), 3) := by decide +kernel
theorem dX2_chooseRow_2 : decode cX2_chooseRow 2 = .ok (.iload_n 3, 1) := by decide +kernel
theorem dX2_chooseRow_20 : decode cX2_chooseRow 20 = .ok (.iconst 1, 1) := by decide +kernel
theorem dX2_chooseRow_21 : decode cX2_chooseRow 21 = .ok (.istore_n 3, 1) := by decide +kernel
theorem dX2_chooseRow_22 : decode cX2_chooseRow 22 = .ok (.iconst 0, 1) := by decide +kernel
theorem dX2_chooseRow_23 : decode cX2_chooseRow 23 = .ok (.istore 4, 2) := by decide +kernel
theorem dX2_chooseRow_25 : decode cX2_chooseRow 25 = .ok (.iload_n 3, 1) := by decide +kernel
theorem dX2_chooseRow_26 : decode cX2_chooseRow 26 = .ok (.ifCond .eq 66, 3) := by decide +kernel
theorem dX2_chooseRow_29 : decode cX2_chooseRow 29 = .ok (.iload 4, 2) := by decide +kernel
theorem dX2_chooseRow_3 : decode cX2_chooseRow 3 = .ok (.iload_n 1, 1) := by decide +kernel
theorem dX2_chooseRow_31 : decode cX2_chooseRow 31 = .ok (.sipush 10626, 3) := by decide +kernel
theorem dX2_chooseRow_34 : decode cX2_chooseRow 34 = .ok (.if_icmp .ge 58, 3) := by decide +kernel
theorem dX2_chooseRow_37 : decode cX2_chooseRow 37 = .ok (.iconst 0, 1) := by decide +kernel
theorem dX2_chooseRow_38 : decode cX2_chooseRow 38 = .ok (.istore 5, 2) := by decide +kernel
theorem dX2_chooseRow_4 : decode cX2_chooseRow 4 = .ok (.if_icmp .ge 16, 3) := by decide +kernel
theorem dX2_chooseRow_40 : decode cX2_chooseRow 40 = .ok (.iconst 0, 1) := by decide +kernel
theorem dX2_chooseRow_41 : decode cX2_chooseRow 41 = .ok (.istore 6, 2) := by decide +kernel
theorem dX2_chooseRow_43 : decode cX2_chooseRow 43 = .ok (.iload 6, 2) := by decide +kernel
theorem dX2_chooseRow_45 : decode cX2_chooseRow 45 = .ok (.iload_n 1, 1) := by decide +kernel
theorem dX2_chooseRow_46 : decode cX2_chooseRow 46 = .ok (.if_icmp .ge 26, 3) := by decide +kernel
theorem dX2_chooseRow_49 : decode cX2_chooseRow 49 = .ok (.iload 5, 2) := by decide +kernel
theorem dX2_chooseRow_51 : decode cX2_chooseRow 51 = .ok (.aload_n 0, 1) := by decide +kernel
theorem dX2_chooseRow_52 : decode cX2_chooseRow 52 = .ok (.getfield 27, 3) := by decide +kernel
theorem dX2_chooseRow_55 : decode cX2_chooseRow 55 = .ok (.aload_n 0, 1) := by decide +kernel
theorem dX2_chooseRow_56 : decode cX2_chooseRow 56 = .ok (.getfield 33, 3) := by decide +kernel
theorem dX2_chooseRow_59 : decode cX2_chooseRow 59 = .ok (.iload 6, 2) := by decide +kernel
theorem dX2_chooseRow_61 : decode cX2_chooseRow 61 = .ok (.iaload, 1) := by decide +kernel
theorem dX2_chooseRow_62 : decode cX2_chooseRow 62 = .ok (.iaload, 1) := by decide +kernel
theorem dX2_chooseRow_63 : decode cX2_chooseRow 63 = .ok (.ior, 1) := by decide +kernel
theorem dX2_chooseRow_64 : decode cX2_chooseRow 64 = .ok (.istore 5, 2) := by decide +kernel
theorem dX2_chooseRow_66 : decode cX2_chooseRow 66 = .ok (.iinc 6 1, 3) := by decide +kernel
theorem dX2_chooseRow_69 : decode cX2_chooseRow 69 = .ok (.goto (-26), 3) := by decide +kernel
theorem dX2_chooseRow_7 : decode cX2_chooseRow 7 = .ok (.aload_n 0, 1) := by decide +kernel
theorem dX2_chooseRow_72 : decode cX2_chooseRow 72 = .ok (.iload 5, 2) := by decide +kernel
theorem dX2_chooseRow_74 : decode cX2_chooseRow 74 = .ok (.iload_n 2, 1) := by decide +kernel
theorem dX2_chooseRow_75 : decode cX2_chooseRow 75 = .ok (.if_icmp .ne 5, 3) := by decide +kernel
theorem dX2_chooseRow_78 : decode cX2_chooseRow 78 = .ok (.iconst 1, 1) := by decide +kernel
theorem dX2_chooseRow_79 : decode cX2_chooseRow 79 = .ok (.ireturn, 1) := by decide +kernel
theorem dX2_chooseRow_8 : decode cX2_chooseRow 8 = .ok (.getfield 33, 3) := by decide +kernel
theorem dX2_chooseRow_80 : decode cX2_chooseRow 80 = .ok (.aload_n 0, 1) := by decide +kernel
theorem dX2_chooseRow_81 : decode cX2_chooseRow 81 = .ok (.iload_n 1, 1) := by decide +kernel
theorem dX2_chooseRow_82 : decode cX2_chooseRow 82 = .ok (.invokevirtual 51, 3) := by decide +kernel
theorem dX2_chooseRow_85 : decode cX2_chooseRow 85 = .ok (.istore_n 3, 1) := by decide +kernel
theorem dX2_chooseRow_86 : decode cX2_chooseRow 86 = .ok (.iinc 4 1, 3) := by decide +kernel
theorem dX2_chooseRow_89 : decode cX2_chooseRow 89 = .ok (.goto (-64), 3) := by decide +kernel
theorem dX2_chooseRow_92 : decode cX2_chooseRow 92 = .ok (.iconst 0, 1) := by decide +kernel
theorem dX2_chooseRow_93 : decode cX2_chooseRow 93 = .ok (.ireturn, 1) := by decide +kernel
theorem dX2_findMaybes_0 : decode cX2_findMaybes 0 = .ok (.aload_n 0, 1) := by decide +kernel
theorem dX2_findMaybes_1 : decode cX2_findMaybes 1 = .ok (.iconst 0, 1) := by decide +kernel
theorem dX2_findMaybes_10 : decode cX2_findMaybes 10 = .ok (.if_icmp .ge 58, 3) := by decide +kernel
theorem dX2_findMaybes_13 : decode cX2_findMaybes 13 = .ok (.aload_n 0, 1) := by decide +kernel
theorem dX2_findMaybes_14 : decode cX2_findMaybes 14 = .ok (.iload_n 1, 1) := by decide +kernel
theorem dX2_findMaybes_15 : decode cX2_findMaybes 15 = .ok (.invokevirtual 47, 3) := by decide +kernel
theorem dX2_findMaybes_18 : decode cX2_findMaybes 18 = .ok (.istore_n 2, 1) := by decide +kernel
theorem dX2_findMaybes_19 : decode cX2_findMaybes 19 = .ok (.iload_n 2, 1) := by decide +kernel
theorem dX2_findMaybes_2 : decode cX2_findMaybes 2 = .ok (.putfield 30, 3) := by decide +kernel
theorem dX2_findMaybes_20 : decode cX2_findMaybes 20 = .ok (.ifCond .eq 42, 3) := by decide +kernel
theorem dX2_findMaybes_23 : decode cX2_findMaybes 23 = .ok (.aload_n 0, 1) := by decide +kernel
theorem dX2_findMaybes_24 : decode cX2_findMaybes 24 = .ok (.getfield 30, 3) := by decide +kernel
theorem dX2_findMaybes_27 : decode cX2_findMaybes 27 = .ok (.bipush 24, 2) := by decide +kernel
theorem dX2_findMaybes_29 : decode cX2_findMaybes 29 = .ok (.if_icmp .ge 33, 3) := by decide +kernel
theorem dX2_findMaybes_32 : decode cX2_findMaybes 32 = .ok (.aload_n 0, 1) := by decide +kernel
theorem dX2_findMaybes_33 : decode cX2_findMaybes 33 = .ok (.getfield 24, 3) := by decide +kernel
theorem dX2_findMaybes_36 : decode cX2_findMaybes 36 = .ok (.aload_n 0, 1) := by decide +kernel
theorem dX2_findMaybes_37 : decode cX2_findMaybes 37 = .ok (.getfield 30, 3) := by decide +kernel
theorem dX2_findMaybes_40 : decode cX2_findMaybes 40 = .ok (.iload_n 1, 1) := by decide +kernel
theorem dX2_findMaybes_41 : decode cX2_findMaybes 41 = .ok (.iastore, 1) := by decide +kernel
theorem dX2_findMaybes_42 : decode cX2_findMaybes 42 = .ok (.aload_n 0, 1) := by decide +kernel
theorem dX2_findMaybes_43 : decode cX2_findMaybes 43 = .ok (.getfield 27, 3) := by decide +kernel
theorem dX2_findMaybes_46 : decode cX2_findMaybes 46 = .ok (.aload_n 0, 1) := by decide +kernel
theorem dX2_findMaybes_47 : decode cX2_findMaybes 47 = .ok (.getfield 30, 3) := by decide +kernel
theorem dX2_findMaybes_5 : decode cX2_findMaybes 5 = .ok (.iconst 0, 1) := by decide +kernel
theorem dX2_findMaybes_50 : decode cX2_findMaybes 50 = .ok (.iload_n 2, 1) := by decide +kernel
theorem dX2_findMaybes_51 : decode cX2_findMaybes 51 = .ok (.iastore, 1) := by decide +kernel
theorem dX2_findMaybes_52 : decode cX2_findMaybes 52 = .ok (.aload_n 0, 1) := by decide +kernel
theorem dX2_findMaybes_53 : decode cX2_findMaybes 53 = .ok (.dup, 1) := by decide +kernel
theorem dX2_findMaybes_54 : decode cX2_findMaybes 54 = .ok (.getfield 30, 3) := by decide +kernel
theorem dX2_findMaybes_57 : decode cX2_findMaybes 57 = .ok (.iconst 1, 1) := by decide +kernel
theorem dX2_findMaybes_58 : decode cX2_findMaybes 58 = .ok (.iadd, 1) := by decide +kernel
theorem dX2_findMaybes_59 : decode cX2_findMaybes 59 = .ok (.putfield 30, 3) := by decide +kernel
theorem dX2_findMaybes_6 : decode cX2_findMaybes 6 = .ok (.istore_n 1, 1) := by decide +kernel
theorem dX2_findMaybes_62 : decode cX2_findMaybes 62 = .ok (.iinc 1 1, 3) := by decide +kernel
theorem dX2_findMaybes_65 : decode cX2_findMaybes 65 = .ok (.goto (-58), 3) := by decide +kernel
theorem dX2_findMaybes_68 : decode cX2_findMaybes 68 = .ok (.return_, 1) := by decide +kernel
theorem dX2_findMaybes_7 : decode cX2_findMaybes 7 = .ok (.iload_n 1, 1) := by decide +kernel
theorem dX2_findMaybes_8 : decode cX2_findMaybes 8 = .ok (.bipush 24, 2) := by decide +kernel
theorem dX2_findSuspects_0 : decode cX2_findSuspects 0 = .ok (.iconst 0, 1) := by decide +kernel
theorem dX2_findSuspects_1 : decode cX2_findSuspects 1 = .ok (.istore_n 1, 1) := by decide +kernel
theorem dX2_findSuspects_12 : decode cX2_findSuspects 12 = .ok (.aload_n 0, 1) := by decide +kernel
theorem dX2_findSuspects_13 : decode cX2_findSuspects 13 = .ok (.getfield 16, 3) := by decide +kernel
theorem dX2_findSuspects_16 : decode cX2_findSuspects 16 = .ok (.iload_n 2, 1) := by decide +kernel
theorem dX2_findSuspects_17 : decode cX2_findSuspects 17 = .ok (.iaload, 1) := by decide +kernel
theorem dX2_findSuspects_18 : decode cX2_findSuspects 18 = .ok (.iconst 1, 1) := by decide +kernel
theorem dX2_findSuspects_19 : decode cX2_findSuspects 19 = .ok (.if_icmp .ne 9, 3) := by decide +kernel
theorem dX2_findSuspects_2 : decode cX2_findSuspects 2 = .ok (.iconst 0, 1) := by decide +kernel
theorem dX2_findSuspects_22 : decode cX2_findSuspects 22 = .ok (.iload_n 1, 1) := by decide +kernel
theorem dX2_findSuspects_23 : decode cX2_findSuspects 23 = .ok (.iconst 1, 1) := by decide +kernel
theorem dX2_findSuspects_24 : decode cX2_findSuspects 24 = .ok (.iload_n 2, 1) := by decide +kernel
theorem dX2_findSuspects_25 : decode cX2_findSuspects 25 = .ok (.ishl, 1) := by decide +kernel
theorem dX2_findSuspects_26 : decode cX2_findSuspects 26 = .ok (.ior, 1) := by decide +kernel
theorem dX2_findSuspects_27 : decode cX2_findSuspects 27 = .ok (.istore_n 1, 1) := by decide +kernel
theorem dX2_findSuspects_28 : decode cX2_findSuspects 28 = .ok (.iinc 2 1, 3) := by decide +kernel
theorem dX2_findSuspects_3 : decode cX2_findSuspects 3 = .ok (.istore_n 2, 1) := by decide +kernel
theorem dX2_findSuspects_31 : decode cX2_findSuspects 31 = .ok (.goto (-27), 3) := by decide +kernel
theorem dX2_findSuspects_34 : decode cX2_findSuspects 34 = .ok (.iload_n 1, 1) := by decide +kernel
theorem dX2_findSuspects_35 : decode cX2_findSuspects 35 = .ok (.ifCond .ne 5, 3) := by decide +kernel
theorem dX2_findSuspects_38 : decode cX2_findSuspects 38 = .ok (.iconst 0, 1) := by decide +kernel
theorem dX2_findSuspects_39 : decode cX2_findSuspects 39 = .ok (.ireturn, 1) := by decide +kernel
theorem dX2_findSuspects_4 : decode cX2_findSuspects 4 = .ok (.iload_n 2, 1) := by decide +kernel
theorem dX2_findSuspects_40 : decode cX2_findSuspects 40 = .ok (.aload_n 0, 1) := by decide +kernel
theorem dX2_findSuspects_41 : decode cX2_findSuspects 41 = .ok (.invokevirtual 40, 3) := by decide +kernel
theorem dX2_findSuspects_44 : decode cX2_findSuspects 44 = .ok (.iconst 1, 1) := by decide +kernel
theorem dX2_findSuspects_45 : decode cX2_findSuspects 45 = .ok (.istore_n 2, 1) := by decide +kernel
theorem dX2_findSuspects_46 : decode cX2_findSuspects 46 = .ok (.iload_n 2, 1) := by decide +kernel
theorem dX2_findSuspects_47 : decode cX2_findSuspects 47 = .ok (.iconst 4, 1) := by decide +kernel
theorem dX2_findSuspects_48 : decode cX2_findSuspects 48 = .ok (.if_icmp .gt 28, 3) := by decide +kernel
theorem dX2_findSuspects_5 : decode cX2_findSuspects 5 = .ok (.aload_n 0, 1) := by decide +kernel
theorem dX2_findSuspects_51 : decode cX2_findSuspects 51 = .ok (.iload_n 2, 1) := by decide +kernel
theorem dX2_findSuspects_52 : decode cX2_findSuspects 52 = .ok (.aload_n 0, 1) := by decide +kernel
theorem dX2_findSuspects_53 : decode cX2_findSuspects 53 = .ok (.getfield 30, 3) := by decide +kernel
theorem dX2_findSuspects_56 : decode cX2_findSuspects 56 = .ok (.if_icmp .gt 20, 3) := by decide +kernel
theorem dX2_findSuspects_59 : decode cX2_findSuspects 59 = .ok (.aload_n 0, 1) := by decide +kernel
theorem dX2_findSuspects_6 : decode cX2_findSuspects 6 = .ok (.getfield 20, 3) := by decide +kernel
theorem dX2_findSuspects_60 : decode cX2_findSuspects 60 = .ok (.iload_n 2, 1) := by decide +kernel
theorem dX2_findSuspects_61 : decode cX2_findSuspects 61 = .ok (.iload_n 1, 1) := by decide +kernel
theorem dX2_findSuspects_62 : decode cX2_findSuspects 62 = .ok (.invokevirtual 43, 3) := by decide +kernel
theorem dX2_findSuspects_65 : decode cX2_findSuspects 65 = .ok (.ifCond .eq 5, 3) := by decide +kernel
theorem dX2_findSuspects_68 : decode cX2_findSuspects 68 = .ok (.iload_n 2, 1) := by decide +kernel
theorem dX2_findSuspects_69 : decode cX2_findSuspects 69 = .ok (.ireturn, 1) := by decide +kernel
theorem dX2_findSuspects_70 : decode cX2_findSuspects 70 = .ok (.iinc 2 1, 3) := by decide +kernel
theorem dX2_findSuspects_73 : decode cX2_findSuspects 73 = .ok (.goto (-27), 3) := by decide +kernel
theorem dX2_findSuspects_76 : decode cX2_findSuspects 76 = .ok (.bipush (-2), 2) := by decide +kernel
theorem dX2_findSuspects_78 : decode cX2_findSuspects 78 = .ok (.ireturn, 1) := by decide +kernel
theorem dX2_findSuspects_9 : decode cX2_findSuspects 9 = .ok (.if_icmp .ge 25, 3) := by decide +kernel
theorem dX2_has_0 : decode cX2_has 0 = .ok (.iload_n 1, 1) := by decide +kernel
theorem dX2_has_1 : decode cX2_has 1 = .ok (.ifCond .lt 15, 3) := by decide +kernel
theorem dX2_has_12 : decode cX2_has 12 = .ok (.iconst 1, 1) := by decide +kernel
theorem dX2_has_13 : decode cX2_has 13 = .ok (.goto 4, 3) := by decide +kernel
theorem dX2_has_16 : decode cX2_has 16 = .ok (.iconst 0, 1) := by decide +kernel
theorem dX2_has_17 : decode cX2_has 17 = .ok (.ireturn, 1) := by decide +kernel
theorem dX2_has_4 : decode cX2_has 4 = .ok (.iload_n 1, 1) := by decide +kernel
theorem dX2_has_5 : decode cX2_has 5 = .ok (.aload_n 0, 1) := by decide +kernel
theorem dX2_has_6 : decode cX2_has 6 = .ok (.getfield 20, 3) := by decide +kernel
theorem dX2_has_9 : decode cX2_has 9 = .ok (.if_icmp .ge 7, 3) := by decide +kernel
theorem dX2_init_0 : decode cX2_init 0 = .ok (.aload_n 0, 1) := by decide +kernel
theorem dX2_init_1 : decode cX2_init 1 = .ok (.invokespecial 3, 3) := by decide +kernel
theorem dX2_init_13 : decode cX2_init 13 = .ok (.putfield 11, 3) := by decide +kernel
theorem dX2_init_16 : decode cX2_init 16 = .ok (.aload_n 0, 1) := by decide +kernel
theorem dX2_init_17 : decode cX2_init 17 = .ok (.bipush 20, 2) := by decide +kernel
theorem dX2_init_19 : decode cX2_init 19 = .ok (.newarray .int, 2) := by decide +kernel
theorem dX2_init_21 : decode cX2_init 21 = .ok (.putfield 16, 3) := by decide +kernel
theorem dX2_init_24 : decode cX2_init 24 = .ok (.aload_n 0, 1) := by decide +kernel
theorem dX2_init_25 : decode cX2_init 25 = .ok (.iconst 0, 1) := by decide +kernel
theorem dX2_init_26 : decode cX2_init 26 = .ok (.putfield 20, 3) := by decide +kernel
theorem dX2_init_29 : decode cX2_init 29 = .ok (.aload_n 0, 1) := by decide +kernel
theorem dX2_init_30 : decode cX2_init 30 = .ok (.bipush 24, 2) := by decide +kernel
theorem dX2_init_32 : decode cX2_init 32 = .ok (.newarray .int, 2) := by decide +kernel
theorem dX2_init_34 : decode cX2_init 34 = .ok (.putfield 24, 3) := by decide +kernel
theorem dX2_init_37 : decode cX2_init 37 = .ok (.aload_n 0, 1) := by decide +kernel
theorem dX2_init_38 : decode cX2_init 38 = .ok (.bipush 24, 2) := by decide +kernel
theorem dX2_init_4 : decode cX2_init 4 = .ok (.aload_n 0, 1) := by decide +kernel
theorem dX2_init_40 : decode cX2_init 40 = .ok (.newarray .int, 2) := by decide +kernel
theorem dX2_init_42 : decode cX2_init 42 = .ok (.putfield 27, 3) := by decide +kernel
theorem dX2_init_45 : decode cX2_init 45 = .ok (.aload_n 0, 1) := by decide +kernel
theorem dX2_init_46 : decode cX2_init 46 = .ok (.iconst 0, 1) := by decide +kernel
theorem dX2_init_47 : decode cX2_init 47 = .ok (.putfield 30, 3) := by decide +kernel
theorem dX2_init_5 : decode cX2_init 5 = .ok (.bipush 20, 2) := by decide +kernel
theorem dX2_init_50 : decode cX2_init 50 = .ok (.aload_n 0, 1) := by decide +kernel
theorem dX2_init_51 : decode cX2_init 51 = .ok (.iconst 4, 1) := by decide +kernel
theorem dX2_init_52 : decode cX2_init 52 = .ok (.newarray .int, 2) := by decide +kernel
theorem dX2_init_54 : decode cX2_init 54 = .ok (.putfield 33, 3) := by decide +kernel
theorem dX2_init_57 : decode cX2_init 57 = .ok (.return_, 1) := by decide +kernel
theorem dX2_init_7 : decode cX2_init 7 = .ok (.bipush 24, 2) := by decide +kernel
theorem dX2_init_9 : decode cX2_init 9 = .ok (.multianewarray 9 2, 4) := by decide +kernel
theorem dX2_nextChoice_0 : decode cX2_nextChoice 0 = .ok (.iload_n 1, 1) := by decide +kernel
theorem dX2_nextChoice_1 : decode cX2_nextChoice 1 = .ok (.iconst 1, 1) := by decide +kernel
theorem dX2_nextChoice_12 : decode cX2_nextChoice 12 = .ok (.iload_n 2, 1) := by decide +kernel
theorem dX2_nextChoice_13 : decode cX2_nextChoice 13 = .ok (.iaload, 1) := by decide +kernel
theorem dX2_nextChoice_14 : decode cX2_nextChoice 14 = .ok (.aload_n 0, 1) := by decide +kernel
theorem dX2_nextChoice_15 : decode cX2_nextChoice 15 = .ok (.getfield 30, 3) := by decide +kernel
theorem dX2_nextChoice_18 : decode cX2_nextChoice 18 = .ok (.iload_n 1, 1) := by decide +kernel
theorem dX2_nextChoice_19 : decode cX2_nextChoice 19 = .ok (.isub, 1) := by decide +kernel
theorem dX2_nextChoice_2 : decode cX2_nextChoice 2 = .ok (.isub, 1) := by decide +kernel
theorem dX2_nextChoice_20 : decode cX2_nextChoice 20 = .ok (.iload_n 2, 1) := by decide +kernel
theorem dX2_nextChoice_21 : decode cX2_nextChoice 21 = .ok (.iadd, 1) := by decide +kernel
theorem dX2_nextChoice_22 : decode cX2_nextChoice 22 = .ok (.if_icmp .ge 46, 3) := by decide +kernel
theorem dX2_nextChoice_25 : decode cX2_nextChoice 25 = .ok (.aload_n 0, 1) := by decide +kernel
theorem dX2_nextChoice_26 : decode cX2_nextChoice 26 = .ok (.getfield 33, 3) := by decide +kernel
theorem dX2_nextChoice_29 : decode cX2_nextChoice 29 = .ok (.iload_n 2, 1) := by decide +kernel
theorem dX2_nextChoice_3 : decode cX2_nextChoice 3 = .ok (.istore_n 2, 1) := by decide +kernel
theorem dX2_nextChoice_30 : decode cX2_nextChoice 30 = .ok (.dup2, 1) := by decide +kernel
theorem dX2_nextChoice_31 : decode cX2_nextChoice 31 = .ok (.iaload, 1) := by decide +kernel
theorem dX2_nextChoice_32 : decode cX2_nextChoice 32 = .ok (.iconst 1, 1) := by decide +kernel
theorem dX2_nextChoice_33 : decode cX2_nextChoice 33 = .ok (.iadd, 1) := by decide +kernel
theorem dX2_nextChoice_34 : decode cX2_nextChoice 34 = .ok (.iastore, 1) := by decide +kernel
theorem dX2_nextChoice_35 : decode cX2_nextChoice 35 = .ok (.iload_n 2, 1) := by decide +kernel
theorem dX2_nextChoice_36 : decode cX2_nextChoice 36 = .ok (.iconst 1, 1) := by decide +kernel
theorem dX2_nextChoice_37 : decode cX2_nextChoice 37 = .ok (.iadd, 1) := by decide +kernel
theorem dX2_nextChoice_38 : decode cX2_nextChoice 38 = .ok (.istore_n 3, 1) := by decide +kernel
theorem dX2_nextChoice_39 : decode cX2_nextChoice 39 = .ok (.iload_n 3, 1) := by decide +kernel
theorem dX2_nextChoice_4 : decode cX2_nextChoice 4 = .ok (.iload_n 2, 1) := by decide +kernel
theorem dX2_nextChoice_40 : decode cX2_nextChoice 40 = .ok (.iload_n 1, 1) := by decide +kernel
theorem dX2_nextChoice_41 : decode cX2_nextChoice 41 = .ok (.if_icmp .ge 25, 3) := by decide +kernel
theorem dX2_nextChoice_44 : decode cX2_nextChoice 44 = .ok (.aload_n 0, 1) := by decide +kernel
theorem dX2_nextChoice_45 : decode cX2_nextChoice 45 = .ok (.getfield 33, 3) := by decide +kernel
theorem dX2_nextChoice_48 : decode cX2_nextChoice 48 = .ok (.iload_n 3, 1) := by decide +kernel
theorem dX2_nextChoice_49 : decode cX2_nextChoice 49 = .ok (.aload_n 0, 1) := by decide +kernel
theorem dX2_nextChoice_5 : decode cX2_nextChoice 5 = .ok (.ifCond .lt 69, 3) := by decide +kernel
theorem dX2_nextChoice_50 : decode cX2_nextChoice 50 = .ok (.getfield 33, 3) := by decide +kernel
theorem dX2_nextChoice_53 : decode cX2_nextChoice 53 = .ok (.iload_n 3, 1) := by decide +kernel
theorem dX2_nextChoice_54 : decode cX2_nextChoice 54 = .ok (.iconst 1, 1) := by decide +kernel
theorem dX2_nextChoice_55 : decode cX2_nextChoice 55 = .ok (.isub, 1) := by decide +kernel
theorem dX2_nextChoice_56 : decode cX2_nextChoice 56 = .ok (.iaload, 1) := by decide +kernel
theorem dX2_nextChoice_57 : decode cX2_nextChoice 57 = .ok (.iconst 1, 1) := by decide +kernel
theorem dX2_nextChoice_58 : decode cX2_nextChoice 58 = .ok (.iadd, 1) := by decide +kernel
theorem dX2_nextChoice_59 : decode cX2_nextChoice 59 = .ok (.iastore, 1) := by decide +kernel
theorem dX2_nextChoice_60 : decode cX2_nextChoice 60 = .ok (.iinc 3 1, 3) := by decide +kernel
theorem dX2_nextChoice_63 : decode cX2_nextChoice 63 = .ok (.goto (-24), 3) := by decide +kernel
theorem dX2_nextChoice_66 : decode cX2_nextChoice 66 = .ok (.iconst 1, 1) := by decide +kernel
theorem dX2_nextChoice_67 : decode cX2_nextChoice 67 = .ok (.ireturn, 1) := by decide +kernel
theorem dX2_nextChoice_68 : decode cX2_nextChoice 68 = .ok (.iinc 2 (-1), 3) := by decide +kernel
theorem dX2_nextChoice_71 : decode cX2_nextChoice 71 = .ok (.goto (-67), 3) := by decide +kernel
theorem dX2_nextChoice_74 : decode cX2_nextChoice 74 = .ok (.iconst 0, 1) := by decide +kernel
theorem dX2_nextChoice_75 : decode cX2_nextChoice 75 = .ok (.ireturn, 1) := by decide +kernel
theorem dX2_nextChoice_8 : decode cX2_nextChoice 8 = .ok (.aload_n 0, 1) := by decide +kernel
theorem dX2_nextChoice_9 : decode cX2_nextChoice 9 = .ok (.getfield 33, 3) := by decide +kernel
theorem dX2_ofBale_0 : decode cX2_ofBale 0 = .ok (.iconst 0, 1) := by decide +kernel
theorem dX2_ofBale_1 : decode cX2_ofBale 1 = .ok (.istore_n 2, 1) := by decide +kernel
theorem dX2_ofBale_12 : decode cX2_ofBale 12 = .ok (.iload_n 2, 1) := by decide +kernel
theorem dX2_ofBale_13 : decode cX2_ofBale 13 = .ok (.aload_n 0, 1) := by decide +kernel
theorem dX2_ofBale_14 : decode cX2_ofBale 14 = .ok (.getfield 11, 3) := by decide +kernel
theorem dX2_ofBale_17 : decode cX2_ofBale 17 = .ok (.iload_n 3, 1) := by decide +kernel
theorem dX2_ofBale_18 : decode cX2_ofBale 18 = .ok (.aaload, 1) := by decide +kernel
theorem dX2_ofBale_19 : decode cX2_ofBale 19 = .ok (.iload_n 1, 1) := by decide +kernel
theorem dX2_ofBale_2 : decode cX2_ofBale 2 = .ok (.iconst 0, 1) := by decide +kernel
theorem dX2_ofBale_20 : decode cX2_ofBale 20 = .ok (.iaload, 1) := by decide +kernel
theorem dX2_ofBale_21 : decode cX2_ofBale 21 = .ok (.iadd, 1) := by decide +kernel
theorem dX2_ofBale_22 : decode cX2_ofBale 22 = .ok (.istore_n 2, 1) := by decide +kernel
theorem dX2_ofBale_23 : decode cX2_ofBale 23 = .ok (.iinc 3 1, 3) := by decide +kernel
theorem dX2_ofBale_26 : decode cX2_ofBale 26 = .ok (.goto (-22), 3) := by decide +kernel
theorem dX2_ofBale_29 : decode cX2_ofBale 29 = .ok (.iload_n 2, 1) := by decide +kernel
theorem dX2_ofBale_3 : decode cX2_ofBale 3 = .ok (.istore_n 3, 1) := by decide +kernel
theorem dX2_ofBale_30 : decode cX2_ofBale 30 = .ok (.ireturn, 1) := by decide +kernel
theorem dX2_ofBale_4 : decode cX2_ofBale 4 = .ok (.iload_n 3, 1) := by decide +kernel
theorem dX2_ofBale_5 : decode cX2_ofBale 5 = .ok (.aload_n 0, 1) := by decide +kernel
theorem dX2_ofBale_6 : decode cX2_ofBale 6 = .ok (.getfield 20, 3) := by decide +kernel
theorem dX2_ofBale_9 : decode cX2_ofBale 9 = .ok (.if_icmp .ge 20, 3) := by decide +kernel
theorem dX2_suspect_0 : decode cX2_suspect 0 = .ok (.iload_n 1, 1) := by decide +kernel
theorem dX2_suspect_1 : decode cX2_suspect 1 = .ok (.iconst 0, 1) := by decide +kernel
theorem dX2_suspect_10 : decode cX2_suspect 10 = .ok (.getfield 24, 3) := by decide +kernel
theorem dX2_suspect_13 : decode cX2_suspect 13 = .ok (.aload_n 0, 1) := by decide +kernel
theorem dX2_suspect_14 : decode cX2_suspect 14 = .ok (.getfield 33, 3) := by decide +kernel
theorem dX2_suspect_17 : decode cX2_suspect 17 = .ok (.iload_n 1, 1) := by decide +kernel
theorem dX2_suspect_18 : decode cX2_suspect 18 = .ok (.iaload, 1) := by decide +kernel
theorem dX2_suspect_19 : decode cX2_suspect 19 = .ok (.iaload, 1) := by decide +kernel
theorem dX2_suspect_2 : decode cX2_suspect 2 = .ok (.iconst 3, 1) := by decide +kernel
theorem dX2_suspect_20 : decode cX2_suspect 20 = .ok (.goto 4, 3) := by decide +kernel
theorem dX2_suspect_23 : decode cX2_suspect 23 = .ok (.iconst (-1), 1) := by decide +kernel
theorem dX2_suspect_24 : decode cX2_suspect 24 = .ok (.ireturn, 1) := by decide +kernel
theorem dX2_suspect_3 : decode cX2_suspect 3 = .ok (.invokestatic 36, 3) := by decide +kernel
theorem dX2_suspect_6 : decode cX2_suspect 6 = .ok (.ifCond .eq 17, 3) := by decide +kernel
theorem dX2_suspect_9 : decode cX2_suspect 9 = .ok (.aload_n 0, 1) := by decide +kernel
theorem dX3_add_0 : decode cX3_add 0 = .ok (.aload_n 0, 1) := by decide +kernel
theorem dX3_add_1 : decode cX3_add 1 = .ok (.getfield 23, 3) := by decide +kernel
theorem dX3_add_10 : decode cX3_add 10 = .ok (.ireturn, 1) := by decide +kernel
theorem dX3_add_11 : decode cX3_add 11 = .ok (.aload_n 0, 1) := by decide +kernel
theorem dX3_add_12 : decode cX3_add 12 = .ok (.getfield 11, 3) := by decide +kernel
theorem dX3_add_15 : decode cX3_add 15 = .ok (.iconst 0, 1) := by decide +kernel
theorem dX3_add_16 : decode cX3_add 16 = .ok (.aaload, 1) := by decide +kernel
theorem dX3_add_17 : decode cX3_add 17 = .ok (.aload_n 0, 1) := by decide +kernel
theorem dX3_add_18 : decode cX3_add 18 = .ok (.getfield 23, 3) := by decide +kernel
theorem dX3_add_21 : decode cX3_add 21 = .ok (.iload_n 1, 1) := by decide +kernel
theorem dX3_add_22 : decode cX3_add 22 = .ok (.iastore, 1) := by decide +kernel
theorem dX3_add_23 : decode cX3_add 23 = .ok (.aload_n 0, 1) := by decide +kernel
theorem dX3_add_24 : decode cX3_add 24 = .ok (.getfield 16, 3) := by decide +kernel
theorem dX3_add_27 : decode cX3_add 27 = .ok (.iconst 0, 1) := by decide +kernel
theorem dX3_add_28 : decode cX3_add 28 = .ok (.aaload, 1) := by decide +kernel
theorem dX3_add_29 : decode cX3_add 29 = .ok (.aload_n 0, 1) := by decide +kernel
theorem dX3_add_30 : decode cX3_add 30 = .ok (.getfield 23, 3) := by decide +kernel
theorem dX3_add_33 : decode cX3_add 33 = .ok (.iload_n 2, 1) := by decide +kernel
theorem dX3_add_34 : decode cX3_add 34 = .ok (.iastore, 1) := by decide +kernel
theorem dX3_add_35 : decode cX3_add 35 = .ok (.aload_n 0, 1) := by decide +kernel
theorem dX3_add_36 : decode cX3_add 36 = .ok (.getfield 11, 3) := by decide +kernel
theorem dX3_add_39 : decode cX3_add 39 = .ok (.iconst 1, 1) := by decide +kernel
theorem dX3_add_4 : decode cX3_add 4 = .ok (.bipush 99, 2) := by decide +kernel
theorem dX3_add_40 : decode cX3_add 40 = .ok (.aaload, 1) := by decide +kernel
theorem dX3_add_41 : decode cX3_add 41 = .ok (.aload_n 0, 1) := by decide +kernel
theorem dX3_add_42 : decode cX3_add 42 = .ok (.getfield 23, 3) := by decide +kernel
theorem dX3_add_45 : decode cX3_add 45 = .ok (.iload_n 3, 1) := by decide +kernel
theorem dX3_add_46 : decode cX3_add 46 = .ok (.iastore, 1) := by decide +kernel
theorem dX3_add_47 : decode cX3_add 47 = .ok (.aload_n 0, 1) := by decide +kernel
theorem dX3_add_48 : decode cX3_add 48 = .ok (.getfield 16, 3) := by decide +kernel
theorem dX3_add_51 : decode cX3_add 51 = .ok (.iconst 1, 1) := by decide +kernel
theorem dX3_add_52 : decode cX3_add 52 = .ok (.aaload, 1) := by decide +kernel
theorem dX3_add_53 : decode cX3_add 53 = .ok (.aload_n 0, 1) := by decide +kernel
theorem dX3_add_54 : decode cX3_add 54 = .ok (.getfield 23, 3) := by decide +kernel
theorem dX3_add_57 : decode cX3_add 57 = .ok (.iload 4, 2) := by decide +kernel
theorem dX3_add_59 : decode cX3_add 59 = .ok (.iastore, 1) := by decide +kernel
theorem dX3_add_6 : decode cX3_add 6 = .ok (.if_icmp .lt 5, 3) := by decide +kernel
theorem dX3_add_60 : decode cX3_add 60 = .ok (.aload_n 0, 1) := by decide +kernel
theorem dX3_add_61 : decode cX3_add 61 = .ok (.dup, 1) := by decide +kernel
theorem dX3_add_62 : decode cX3_add 62 = .ok (.getfield 23, 3) := by decide +kernel
theorem dX3_add_65 : decode cX3_add 65 = .ok (.iconst 1, 1) := by decide +kernel
theorem dX3_add_66 : decode cX3_add 66 = .ok (.iadd, 1) := by decide +kernel
theorem dX3_add_67 : decode cX3_add 67 = .ok (.putfield 23, 3) := by decide +kernel
theorem dX3_add_70 : decode cX3_add 70 = .ok (.aload_n 0, 1) := by decide +kernel
theorem dX3_add_71 : decode cX3_add 71 = .ok (.getfield 23, 3) := by decide +kernel
theorem dX3_add_74 : decode cX3_add 74 = .ok (.ireturn, 1) := by decide +kernel
theorem dX3_add_9 : decode cX3_add 9 = .ok (.iconst (-1), 1) := by decide +kernel
theorem dX3_alike_0 : decode cX3_alike 0 = .ok (.iconst 0, 1) := by decide +kernel
theorem dX3_alike_1 : decode cX3_alike 1 = .ok (.istore_n 3, 1) := by decide +kernel
theorem dX3_alike_10 : decode cX3_alike 10 = .ok (.aload_n 0, 1) := by decide +kernel
theorem dX3_alike_11 : decode cX3_alike 11 = .ok (.getfield 23, 3) := by decide +kernel
theorem dX3_alike_14 : decode cX3_alike 14 = .ok (.if_icmp .ge 67, 3) := by decide +kernel
theorem dX3_alike_17 : decode cX3_alike 17 = .ok (.aload_n 0, 1) := by decide +kernel
theorem dX3_alike_18 : decode cX3_alike 18 = .ok (.iload 5, 2) := by decide +kernel
theorem dX3_alike_2 : decode cX3_alike 2 = .ok (.iconst 0, 1) := by decide +kernel
theorem dX3_alike_20 : decode cX3_alike 20 = .ok (.iconst 0, 1) := by decide +kernel
theorem dX3_alike_21 : decode cX3_alike 21 = .ok (.iload_n 1, 1) := by decide +kernel
theorem dX3_alike_22 : decode cX3_alike 22 = .ok (.iload_n 2, 1) := by decide +kernel
theorem dX3_alike_23 : decode cX3_alike 23 = .ok (.invokevirtual 27, 3) := by decide +kernel
theorem dX3_alike_26 : decode cX3_alike 26 = .ok (.ifCond .ne 15, 3) := by decide +kernel
theorem dX3_alike_29 : decode cX3_alike 29 = .ok (.aload_n 0, 1) := by decide +kernel
theorem dX3_alike_3 : decode cX3_alike 3 = .ok (.istore 4, 2) := by decide +kernel
theorem dX3_alike_30 : decode cX3_alike 30 = .ok (.iload 5, 2) := by decide +kernel
theorem dX3_alike_32 : decode cX3_alike 32 = .ok (.iconst 1, 1) := by decide +kernel
theorem dX3_alike_33 : decode cX3_alike 33 = .ok (.iload_n 1, 1) := by decide +kernel
theorem dX3_alike_34 : decode cX3_alike 34 = .ok (.iload_n 2, 1) := by decide +kernel
theorem dX3_alike_35 : decode cX3_alike 35 = .ok (.invokevirtual 27, 3) := by decide +kernel
theorem dX3_alike_38 : decode cX3_alike 38 = .ok (.ifCond .eq 37, 3) := by decide +kernel
theorem dX3_alike_41 : decode cX3_alike 41 = .ok (.iinc 3 1, 3) := by decide +kernel
theorem dX3_alike_44 : decode cX3_alike 44 = .ok (.iload 4, 2) := by decide +kernel
theorem dX3_alike_46 : decode cX3_alike 46 = .ok (.aload_n 0, 1) := by decide +kernel
theorem dX3_alike_47 : decode cX3_alike 47 = .ok (.getfield 16, 3) := by decide +kernel
theorem dX3_alike_5 : decode cX3_alike 5 = .ok (.iconst 0, 1) := by decide +kernel
theorem dX3_alike_50 : decode cX3_alike 50 = .ok (.iconst 0, 1) := by decide +kernel
theorem dX3_alike_51 : decode cX3_alike 51 = .ok (.aaload, 1) := by decide +kernel
theorem dX3_alike_52 : decode cX3_alike 52 = .ok (.iload 5, 2) := by decide +kernel
theorem dX3_alike_54 : decode cX3_alike 54 = .ok (.iaload, 1) := by decide +kernel
theorem dX3_alike_55 : decode cX3_alike 55 = .ok (.aload_n 0, 1) := by decide +kernel
theorem dX3_alike_56 : decode cX3_alike 56 = .ok (.getfield 16, 3) := by decide +kernel
theorem dX3_alike_59 : decode cX3_alike 59 = .ok (.iconst 1, 1) := by decide +kernel
theorem dX3_alike_6 : decode cX3_alike 6 = .ok (.istore 5, 2) := by decide +kernel
theorem dX3_alike_60 : decode cX3_alike 60 = .ok (.aaload, 1) := by decide +kernel
theorem dX3_alike_61 : decode cX3_alike 61 = .ok (.iload 5, 2) := by decide +kernel
theorem dX3_alike_63 : decode cX3_alike 63 = .ok (.iaload, 1) := by decide +kernel
theorem dX3_alike_64 : decode cX3_alike 64 = .ok (.if_icmp .ne 7, 3) := by decide +kernel
theorem dX3_alike_67 : decode cX3_alike 67 = .ok (.iconst 1, 1) := by decide +kernel
theorem dX3_alike_68 : decode cX3_alike 68 = .ok (.goto 4, 3) := by decide +kernel
theorem dX3_alike_71 : decode cX3_alike 71 = .ok (.iconst 0, 1) := by decide +kernel
theorem dX3_alike_72 : decode cX3_alike 72 = .ok (.iadd, 1) := by decide +kernel
theorem dX3_alike_73 : decode cX3_alike 73 = .ok (.istore 4, 2) := by decide +kernel
theorem dX3_alike_75 : decode cX3_alike 75 = .ok (.iinc 5 1, 3) := by decide +kernel
theorem dX3_alike_78 : decode cX3_alike 78 = .ok (.goto (-70), 3) := by decide +kernel
theorem dX3_alike_8 : decode cX3_alike 8 = .ok (.iload 5, 2) := by decide +kernel
theorem dX3_alike_81 : decode cX3_alike 81 = .ok (.iload_n 3, 1) := by decide +kernel
theorem dX3_alike_82 : decode cX3_alike 82 = .ok (.ifCond .ne 7, 3) := by decide +kernel
theorem dX3_alike_85 : decode cX3_alike 85 = .ok (.iconst (-1), 1) := by decide +kernel
theorem dX3_alike_86 : decode cX3_alike 86 = .ok (.goto 9, 3) := by decide +kernel
theorem dX3_alike_89 : decode cX3_alike 89 = .ok (.iload 4, 2) := by decide +kernel
theorem dX3_alike_91 : decode cX3_alike 91 = .ok (.iload_n 3, 1) := by decide +kernel
theorem dX3_alike_92 : decode cX3_alike 92 = .ok (.invokestatic 31, 3) := by decide +kernel
theorem dX3_alike_95 : decode cX3_alike 95 = .ok (.ireturn, 1) := by decide +kernel
theorem dX3_hangingTogether_0 : decode cX3_hangingTogether 0 = .ok (.iconst 1, 1) := by decide +kernel
theorem dX3_hangingTogether_1 : decode cX3_hangingTogether 1 = .ok (.iload_n 1, 1) := by decide +kernel
theorem dX3_hangingTogether_12 : decode cX3_hangingTogether 12 = .ok (.iconst 0, 1) := by decide +kernel
theorem dX3_hangingTogether_13 : decode cX3_hangingTogether 13 = .ok (.istore 4, 2) := by decide +kernel
theorem dX3_hangingTogether_15 : decode cX3_hangingTogether 15 = .ok (.iload 4, 2) := by decide +kernel
theorem dX3_hangingTogether_17 : decode cX3_hangingTogether 17 = .ok (.aload_n 0, 1) := by decide +kernel
theorem dX3_hangingTogether_18 : decode cX3_hangingTogether 18 = .ok (.getfield 23, 3) := by decide +kernel
theorem dX3_hangingTogether_2 : decode cX3_hangingTogether 2 = .ok (.ishl, 1) := by decide +kernel
theorem dX3_hangingTogether_21 : decode cX3_hangingTogether 21 = .ok (.if_icmp .ge 46, 3) := by decide +kernel
theorem dX3_hangingTogether_24 : decode cX3_hangingTogether 24 = .ok (.iconst 1, 1) := by decide +kernel
theorem dX3_hangingTogether_25 : decode cX3_hangingTogether 25 = .ok (.aload_n 0, 1) := by decide +kernel
theorem dX3_hangingTogether_26 : decode cX3_hangingTogether 26 = .ok (.getfield 11, 3) := by decide +kernel
theorem dX3_hangingTogether_29 : decode cX3_hangingTogether 29 = .ok (.iconst 0, 1) := by decide +kernel
theorem dX3_hangingTogether_3 : decode cX3_hangingTogether 3 = .ok (.istore_n 2, 1) := by decide +kernel
theorem dX3_hangingTogether_30 : decode cX3_hangingTogether 30 = .ok (.aaload, 1) := by decide +kernel
theorem dX3_hangingTogether_31 : decode cX3_hangingTogether 31 = .ok (.iload 4, 2) := by decide +kernel
theorem dX3_hangingTogether_33 : decode cX3_hangingTogether 33 = .ok (.iaload, 1) := by decide +kernel
theorem dX3_hangingTogether_34 : decode cX3_hangingTogether 34 = .ok (.ishl, 1) := by decide +kernel
theorem dX3_hangingTogether_35 : decode cX3_hangingTogether 35 = .ok (.iconst 1, 1) := by decide +kernel
theorem dX3_hangingTogether_36 : decode cX3_hangingTogether 36 = .ok (.aload_n 0, 1) := by decide +kernel
theorem dX3_hangingTogether_37 : decode cX3_hangingTogether 37 = .ok (.getfield 11, 3) := by decide +kernel
theorem dX3_hangingTogether_4 : decode cX3_hangingTogether 4 = .ok (.iconst 0, 1) := by decide +kernel
theorem dX3_hangingTogether_40 : decode cX3_hangingTogether 40 = .ok (.iconst 1, 1) := by decide +kernel
theorem dX3_hangingTogether_41 : decode cX3_hangingTogether 41 = .ok (.aaload, 1) := by decide +kernel
theorem dX3_hangingTogether_42 : decode cX3_hangingTogether 42 = .ok (.iload 4, 2) := by decide +kernel
theorem dX3_hangingTogether_44 : decode cX3_hangingTogether 44 = .ok (.iaload, 1) := by decide +kernel
theorem dX3_hangingTogether_45 : decode cX3_hangingTogether 45 = .ok (.ishl, 1) := by decide +kernel
theorem dX3_hangingTogether_46 : decode cX3_hangingTogether 46 = .ok (.ior, 1) := by decide +kernel
theorem dX3_hangingTogether_47 : decode cX3_hangingTogether 47 = .ok (.istore 5, 2) := by decide +kernel
theorem dX3_hangingTogether_49 : decode cX3_hangingTogether 49 = .ok (.iload_n 2, 1) := by decide +kernel
theorem dX3_hangingTogether_5 : decode cX3_hangingTogether 5 = .ok (.istore_n 3, 1) := by decide +kernel
theorem dX3_hangingTogether_50 : decode cX3_hangingTogether 50 = .ok (.iload 5, 2) := by decide +kernel
theorem dX3_hangingTogether_52 : decode cX3_hangingTogether 52 = .ok (.iand, 1) := by decide +kernel
theorem dX3_hangingTogether_53 : decode cX3_hangingTogether 53 = .ok (.ifCond .eq 8, 3) := by decide +kernel
theorem dX3_hangingTogether_56 : decode cX3_hangingTogether 56 = .ok (.iload_n 2, 1) := by decide +kernel
theorem dX3_hangingTogether_57 : decode cX3_hangingTogether 57 = .ok (.iload 5, 2) := by decide +kernel
theorem dX3_hangingTogether_59 : decode cX3_hangingTogether 59 = .ok (.ior, 1) := by decide +kernel
theorem dX3_hangingTogether_6 : decode cX3_hangingTogether 6 = .ok (.iload_n 3, 1) := by decide +kernel
theorem dX3_hangingTogether_60 : decode cX3_hangingTogether 60 = .ok (.istore_n 2, 1) := by decide +kernel
theorem dX3_hangingTogether_61 : decode cX3_hangingTogether 61 = .ok (.iinc 4 1, 3) := by decide +kernel
theorem dX3_hangingTogether_64 : decode cX3_hangingTogether 64 = .ok (.goto (-49), 3) := by decide +kernel
theorem dX3_hangingTogether_67 : decode cX3_hangingTogether 67 = .ok (.iinc 3 1, 3) := by decide +kernel
theorem dX3_hangingTogether_7 : decode cX3_hangingTogether 7 = .ok (.bipush 6, 2) := by decide +kernel
theorem dX3_hangingTogether_70 : decode cX3_hangingTogether 70 = .ok (.goto (-64), 3) := by decide +kernel
theorem dX3_hangingTogether_73 : decode cX3_hangingTogether 73 = .ok (.iload_n 2, 1) := by decide +kernel
theorem dX3_hangingTogether_74 : decode cX3_hangingTogether 74 = .ok (.ireturn, 1) := by decide +kernel
theorem dX3_hangingTogether_9 : decode cX3_hangingTogether 9 = .ok (.if_icmp .ge 64, 3) := by decide +kernel
theorem dX3_init_0 : decode cX3_init 0 = .ok (.aload_n 0, 1) := by decide +kernel
theorem dX3_init_1 : decode cX3_init 1 = .ok (.invokespecial 3, 3) := by decide +kernel
theorem dX3_init_12 : decode cX3_init 12 = .ok (.putfield 11, 3) := by decide +kernel
theorem dX3_init_15 : decode cX3_init 15 = .ok (.aload_n 0, 1) := by decide +kernel
theorem dX3_init_16 : decode cX3_init 16 = .ok (.iconst 2, 1) := by decide +kernel
theorem dX3_init_17 : decode cX3_init 17 = .ok (.bipush 99, 2) := by decide +kernel
theorem dX3_init_19 : decode cX3_init 19 = .ok (.multianewarray 9 2, 4) := by decide +kernel
theorem dX3_init_23 : decode cX3_init 23 = .ok (.putfield 16, 3) := by decide +kernel
theorem dX3_init_26 : decode cX3_init 26 = .ok (.aload_n 0, 1) := by decide +kernel
theorem dX3_init_27 : decode cX3_init 27 = .ok (.bipush 16, 2) := by decide +kernel
theorem dX3_init_29 : decode cX3_init 29 = .ok (.newarray .int, 2) := by decide +kernel
theorem dX3_init_31 : decode cX3_init 31 = .ok (.putfield 19, 3) := by decide +kernel
theorem dX3_init_34 : decode cX3_init 34 = .ok (.aload_n 0, 1) := by decide +kernel
theorem dX3_init_35 : decode cX3_init 35 = .ok (.iconst 0, 1) := by decide +kernel
theorem dX3_init_36 : decode cX3_init 36 = .ok (.putfield 23, 3) := by decide +kernel
theorem dX3_init_39 : decode cX3_init 39 = .ok (.return_, 1) := by decide +kernel
theorem dX3_init_4 : decode cX3_init 4 = .ok (.aload_n 0, 1) := by decide +kernel
theorem dX3_init_5 : decode cX3_init 5 = .ok (.iconst 2, 1) := by decide +kernel
theorem dX3_init_6 : decode cX3_init 6 = .ok (.bipush 99, 2) := by decide +kernel
theorem dX3_init_8 : decode cX3_init 8 = .ok (.multianewarray 9 2, 4) := by decide +kernel
theorem dX3_isOf_0 : decode cX3_isOf 0 = .ok (.aload_n 0, 1) := by decide +kernel
theorem dX3_isOf_1 : decode cX3_isOf 1 = .ok (.getfield 11, 3) := by decide +kernel
theorem dX3_isOf_12 : decode cX3_isOf 12 = .ok (.iload 4, 2) := by decide +kernel
theorem dX3_isOf_14 : decode cX3_isOf 14 = .ok (.iconst (-1), 1) := by decide +kernel
theorem dX3_isOf_15 : decode cX3_isOf 15 = .ok (.if_icmp .eq 18, 3) := by decide +kernel
theorem dX3_isOf_18 : decode cX3_isOf 18 = .ok (.aload_n 0, 1) := by decide +kernel
theorem dX3_isOf_19 : decode cX3_isOf 19 = .ok (.getfield 11, 3) := by decide +kernel
theorem dX3_isOf_22 : decode cX3_isOf 22 = .ok (.iconst 1, 1) := by decide +kernel
theorem dX3_isOf_23 : decode cX3_isOf 23 = .ok (.iload_n 2, 1) := by decide +kernel
theorem dX3_isOf_24 : decode cX3_isOf 24 = .ok (.isub, 1) := by decide +kernel
theorem dX3_isOf_25 : decode cX3_isOf 25 = .ok (.aaload, 1) := by decide +kernel
theorem dX3_isOf_26 : decode cX3_isOf 26 = .ok (.iload_n 1, 1) := by decide +kernel
theorem dX3_isOf_27 : decode cX3_isOf 27 = .ok (.iaload, 1) := by decide +kernel
theorem dX3_isOf_28 : decode cX3_isOf 28 = .ok (.iload 4, 2) := by decide +kernel
theorem dX3_isOf_30 : decode cX3_isOf 30 = .ok (.if_icmp .ne 7, 3) := by decide +kernel
theorem dX3_isOf_33 : decode cX3_isOf 33 = .ok (.iconst 1, 1) := by decide +kernel
theorem dX3_isOf_34 : decode cX3_isOf 34 = .ok (.goto 4, 3) := by decide +kernel
theorem dX3_isOf_37 : decode cX3_isOf 37 = .ok (.iconst 0, 1) := by decide +kernel
theorem dX3_isOf_38 : decode cX3_isOf 38 = .ok (.ireturn, 1) := by decide +kernel
theorem dX3_isOf_4 : decode cX3_isOf 4 = .ok (.iload_n 2, 1) := by decide +kernel
theorem dX3_isOf_5 : decode cX3_isOf 5 = .ok (.aaload, 1) := by decide +kernel
theorem dX3_isOf_6 : decode cX3_isOf 6 = .ok (.iload_n 1, 1) := by decide +kernel
theorem dX3_isOf_7 : decode cX3_isOf 7 = .ok (.iaload, 1) := by decide +kernel
theorem dX3_isOf_8 : decode cX3_isOf 8 = .ok (.iload_n 3, 1) := by decide +kernel
theorem dX3_isOf_9 : decode cX3_isOf 9 = .ok (.if_icmp .ne 28, 3) := by decide +kernel
theorem dX3_mostOften_0 : decode cX3_mostOften 0 = .ok (.aload_n 0, 1) := by decide +kernel
theorem dX3_mostOften_1 : decode cX3_mostOften 1 = .ok (.getfield 19, 3) := by decide +kernel
theorem dX3_mostOften_10 : decode cX3_mostOften 10 = .ok (.iload_n 3, 1) := by decide +kernel
theorem dX3_mostOften_100 : decode cX3_mostOften 100 = .ok (.aload_n 0, 1) := by decide +kernel
theorem dX3_mostOften_101 : decode cX3_mostOften 101 = .ok (.getfield 19, 3) := by decide +kernel
theorem dX3_mostOften_104 : decode cX3_mostOften 104 = .ok (.iload 5, 2) := by decide +kernel
theorem dX3_mostOften_106 : decode cX3_mostOften 106 = .ok (.iaload, 1) := by decide +kernel
theorem dX3_mostOften_107 : decode cX3_mostOften 107 = .ok (.iload 4, 2) := by decide +kernel
theorem dX3_mostOften_109 : decode cX3_mostOften 109 = .ok (.if_icmp .le 15, 3) := by decide +kernel
theorem dX3_mostOften_11 : decode cX3_mostOften 11 = .ok (.aload_n 0, 1) := by decide +kernel
theorem dX3_mostOften_112 : decode cX3_mostOften 112 = .ok (.aload_n 0, 1) := by decide +kernel
theorem dX3_mostOften_113 : decode cX3_mostOften 113 = .ok (.getfield 19, 3) := by decide +kernel
theorem dX3_mostOften_116 : decode cX3_mostOften 116 = .ok (.iload 5, 2) := by decide +kernel
theorem dX3_mostOften_118 : decode cX3_mostOften 118 = .ok (.iaload, 1) := by decide +kernel
theorem dX3_mostOften_119 : decode cX3_mostOften 119 = .ok (.istore 4, 2) := by decide +kernel
theorem dX3_mostOften_12 : decode cX3_mostOften 12 = .ok (.getfield 23, 3) := by decide +kernel
theorem dX3_mostOften_121 : decode cX3_mostOften 121 = .ok (.iload 5, 2) := by decide +kernel
theorem dX3_mostOften_123 : decode cX3_mostOften 123 = .ok (.istore_n 3, 1) := by decide +kernel
theorem dX3_mostOften_124 : decode cX3_mostOften 124 = .ok (.iinc 5 1, 3) := by decide +kernel
theorem dX3_mostOften_127 : decode cX3_mostOften 127 = .ok (.goto (-34), 3) := by decide +kernel
theorem dX3_mostOften_130 : decode cX3_mostOften 130 = .ok (.iload_n 3, 1) := by decide +kernel
theorem dX3_mostOften_131 : decode cX3_mostOften 131 = .ok (.ireturn, 1) := by decide +kernel
theorem dX3_mostOften_15 : decode cX3_mostOften 15 = .ok (.if_icmp .ge 70, 3) := by decide +kernel
theorem dX3_mostOften_18 : decode cX3_mostOften 18 = .ok (.iconst 0, 1) := by decide +kernel
theorem dX3_mostOften_19 : decode cX3_mostOften 19 = .ok (.istore 4, 2) := by decide +kernel
theorem dX3_mostOften_21 : decode cX3_mostOften 21 = .ok (.iload 4, 2) := by decide +kernel
theorem dX3_mostOften_23 : decode cX3_mostOften 23 = .ok (.iconst 2, 1) := by decide +kernel
theorem dX3_mostOften_24 : decode cX3_mostOften 24 = .ok (.if_icmp .ge 55, 3) := by decide +kernel
theorem dX3_mostOften_27 : decode cX3_mostOften 27 = .ok (.aload_n 0, 1) := by decide +kernel
theorem dX3_mostOften_28 : decode cX3_mostOften 28 = .ok (.getfield 11, 3) := by decide +kernel
theorem dX3_mostOften_31 : decode cX3_mostOften 31 = .ok (.iload 4, 2) := by decide +kernel
theorem dX3_mostOften_33 : decode cX3_mostOften 33 = .ok (.aaload, 1) := by decide +kernel
theorem dX3_mostOften_34 : decode cX3_mostOften 34 = .ok (.iload_n 3, 1) := by decide +kernel
theorem dX3_mostOften_35 : decode cX3_mostOften 35 = .ok (.iaload, 1) := by decide +kernel
theorem dX3_mostOften_36 : decode cX3_mostOften 36 = .ok (.iload_n 1, 1) := by decide +kernel
theorem dX3_mostOften_37 : decode cX3_mostOften 37 = .ok (.if_icmp .ne 36, 3) := by decide +kernel
theorem dX3_mostOften_4 : decode cX3_mostOften 4 = .ok (.iconst 0, 1) := by decide +kernel
theorem dX3_mostOften_40 : decode cX3_mostOften 40 = .ok (.aload_n 0, 1) := by decide +kernel
theorem dX3_mostOften_41 : decode cX3_mostOften 41 = .ok (.getfield 16, 3) := by decide +kernel
theorem dX3_mostOften_44 : decode cX3_mostOften 44 = .ok (.iload 4, 2) := by decide +kernel
theorem dX3_mostOften_46 : decode cX3_mostOften 46 = .ok (.aaload, 1) := by decide +kernel
theorem dX3_mostOften_47 : decode cX3_mostOften 47 = .ok (.iload_n 3, 1) := by decide +kernel
theorem dX3_mostOften_48 : decode cX3_mostOften 48 = .ok (.iaload, 1) := by decide +kernel
theorem dX3_mostOften_49 : decode cX3_mostOften 49 = .ok (.iload_n 2, 1) := by decide +kernel
theorem dX3_mostOften_5 : decode cX3_mostOften 5 = .ok (.invokestatic 35, 3) := by decide +kernel
theorem dX3_mostOften_50 : decode cX3_mostOften 50 = .ok (.if_icmp .ne 23, 3) := by decide +kernel
theorem dX3_mostOften_53 : decode cX3_mostOften 53 = .ok (.aload_n 0, 1) := by decide +kernel
theorem dX3_mostOften_54 : decode cX3_mostOften 54 = .ok (.getfield 19, 3) := by decide +kernel
theorem dX3_mostOften_57 : decode cX3_mostOften 57 = .ok (.aload_n 0, 1) := by decide +kernel
theorem dX3_mostOften_58 : decode cX3_mostOften 58 = .ok (.getfield 16, 3) := by decide +kernel
theorem dX3_mostOften_61 : decode cX3_mostOften 61 = .ok (.iconst 1, 1) := by decide +kernel
theorem dX3_mostOften_62 : decode cX3_mostOften 62 = .ok (.iload 4, 2) := by decide +kernel
theorem dX3_mostOften_64 : decode cX3_mostOften 64 = .ok (.isub, 1) := by decide +kernel
theorem dX3_mostOften_65 : decode cX3_mostOften 65 = .ok (.aaload, 1) := by decide +kernel
theorem dX3_mostOften_66 : decode cX3_mostOften 66 = .ok (.iload_n 3, 1) := by decide +kernel
theorem dX3_mostOften_67 : decode cX3_mostOften 67 = .ok (.iaload, 1) := by decide +kernel
theorem dX3_mostOften_68 : decode cX3_mostOften 68 = .ok (.dup2, 1) := by decide +kernel
theorem dX3_mostOften_69 : decode cX3_mostOften 69 = .ok (.iaload, 1) := by decide +kernel
theorem dX3_mostOften_70 : decode cX3_mostOften 70 = .ok (.iconst 1, 1) := by decide +kernel
theorem dX3_mostOften_71 : decode cX3_mostOften 71 = .ok (.iadd, 1) := by decide +kernel
theorem dX3_mostOften_72 : decode cX3_mostOften 72 = .ok (.iastore, 1) := by decide +kernel
theorem dX3_mostOften_73 : decode cX3_mostOften 73 = .ok (.iinc 4 1, 3) := by decide +kernel
theorem dX3_mostOften_76 : decode cX3_mostOften 76 = .ok (.goto (-55), 3) := by decide +kernel
theorem dX3_mostOften_79 : decode cX3_mostOften 79 = .ok (.iinc 3 1, 3) := by decide +kernel
theorem dX3_mostOften_8 : decode cX3_mostOften 8 = .ok (.iconst 0, 1) := by decide +kernel
theorem dX3_mostOften_82 : decode cX3_mostOften 82 = .ok (.goto (-72), 3) := by decide +kernel
theorem dX3_mostOften_85 : decode cX3_mostOften 85 = .ok (.iconst (-1), 1) := by decide +kernel
theorem dX3_mostOften_86 : decode cX3_mostOften 86 = .ok (.istore_n 3, 1) := by decide +kernel
theorem dX3_mostOften_87 : decode cX3_mostOften 87 = .ok (.iconst 0, 1) := by decide +kernel
theorem dX3_mostOften_88 : decode cX3_mostOften 88 = .ok (.istore 4, 2) := by decide +kernel
theorem dX3_mostOften_9 : decode cX3_mostOften 9 = .ok (.istore_n 3, 1) := by decide +kernel
theorem dX3_mostOften_90 : decode cX3_mostOften 90 = .ok (.iconst 0, 1) := by decide +kernel
theorem dX3_mostOften_91 : decode cX3_mostOften 91 = .ok (.istore 5, 2) := by decide +kernel
theorem dX3_mostOften_93 : decode cX3_mostOften 93 = .ok (.iload 5, 2) := by decide +kernel
theorem dX3_mostOften_95 : decode cX3_mostOften 95 = .ok (.bipush 16, 2) := by decide +kernel
theorem dX3_mostOften_97 : decode cX3_mostOften 97 = .ok (.if_icmp .ge 33, 3) := by decide +kernel
theorem dX4_addPack_0 : decode cX4_addPack 0 = .ok (.aload_n 0, 1) := by decide +kernel
theorem dX4_addPack_1 : decode cX4_addPack 1 = .ok (.getfield 32, 3) := by decide +kernel
theorem dX4_addPack_10 : decode cX4_addPack 10 = .ok (.ireturn, 1) := by decide +kernel
theorem dX4_addPack_11 : decode cX4_addPack 11 = .ok (.aload_n 0, 1) := by decide +kernel
theorem dX4_addPack_12 : decode cX4_addPack 12 = .ok (.getfield 20, 3) := by decide +kernel
theorem dX4_addPack_15 : decode cX4_addPack 15 = .ok (.aload_n 0, 1) := by decide +kernel
theorem dX4_addPack_16 : decode cX4_addPack 16 = .ok (.getfield 32, 3) := by decide +kernel
theorem dX4_addPack_19 : decode cX4_addPack 19 = .ok (.iload_n 1, 1) := by decide +kernel
theorem dX4_addPack_20 : decode cX4_addPack 20 = .ok (.iastore, 1) := by decide +kernel
theorem dX4_addPack_21 : decode cX4_addPack 21 = .ok (.aload_n 0, 1) := by decide +kernel
theorem dX4_addPack_22 : decode cX4_addPack 22 = .ok (.getfield 23, 3) := by decide +kernel
theorem dX4_addPack_25 : decode cX4_addPack 25 = .ok (.aload_n 0, 1) := by decide +kernel
theorem dX4_addPack_26 : decode cX4_addPack 26 = .ok (.getfield 32, 3) := by decide +kernel
theorem dX4_addPack_29 : decode cX4_addPack 29 = .ok (.iload_n 2, 1) := by decide +kernel
theorem dX4_addPack_30 : decode cX4_addPack 30 = .ok (.iastore, 1) := by decide +kernel
theorem dX4_addPack_31 : decode cX4_addPack 31 = .ok (.aload_n 0, 1) := by decide +kernel
theorem dX4_addPack_32 : decode cX4_addPack 32 = .ok (.getfield 26, 3) := by decide +kernel
theorem dX4_addPack_35 : decode cX4_addPack 35 = .ok (.aload_n 0, 1) := by decide +kernel
theorem dX4_addPack_36 : decode cX4_addPack 36 = .ok (.getfield 32, 3) := by decide +kernel
theorem dX4_addPack_39 : decode cX4_addPack 39 = .ok (.iload_n 3, 1) := by decide +kernel
theorem dX4_addPack_4 : decode cX4_addPack 4 = .ok (.bipush 8, 2) := by decide +kernel
theorem dX4_addPack_40 : decode cX4_addPack 40 = .ok (.iastore, 1) := by decide +kernel
theorem dX4_addPack_41 : decode cX4_addPack 41 = .ok (.aload_n 0, 1) := by decide +kernel
theorem dX4_addPack_42 : decode cX4_addPack 42 = .ok (.getfield 29, 3) := by decide +kernel
theorem dX4_addPack_45 : decode cX4_addPack 45 = .ok (.aload_n 0, 1) := by decide +kernel
theorem dX4_addPack_46 : decode cX4_addPack 46 = .ok (.getfield 32, 3) := by decide +kernel
theorem dX4_addPack_49 : decode cX4_addPack 49 = .ok (.iload 4, 2) := by decide +kernel
theorem dX4_addPack_51 : decode cX4_addPack 51 = .ok (.iastore, 1) := by decide +kernel
theorem dX4_addPack_52 : decode cX4_addPack 52 = .ok (.aload_n 0, 1) := by decide +kernel
theorem dX4_addPack_53 : decode cX4_addPack 53 = .ok (.dup, 1) := by decide +kernel
theorem dX4_addPack_54 : decode cX4_addPack 54 = .ok (.getfield 32, 3) := by decide +kernel
theorem dX4_addPack_57 : decode cX4_addPack 57 = .ok (.dup_x1, 1) := by decide +kernel
theorem dX4_addPack_58 : decode cX4_addPack 58 = .ok (.iconst 1, 1) := by decide +kernel
theorem dX4_addPack_59 : decode cX4_addPack 59 = .ok (.iadd, 1) := by decide +kernel
theorem dX4_addPack_6 : decode cX4_addPack 6 = .ok (.if_icmp .lt 5, 3) := by decide +kernel
theorem dX4_addPack_60 : decode cX4_addPack 60 = .ok (.putfield 32, 3) := by decide +kernel
theorem dX4_addPack_63 : decode cX4_addPack 63 = .ok (.ireturn, 1) := by decide +kernel
theorem dX4_addPack_9 : decode cX4_addPack 9 = .ok (.iconst (-1), 1) := by decide +kernel
theorem dX4_bestShare_0 : decode cX4_bestShare 0 = .ok (.aload_n 0, 1) := by decide +kernel
theorem dX4_bestShare_1 : decode cX4_bestShare 1 = .ok (.getfield 40, 3) := by decide +kernel
theorem dX4_bestShare_10 : decode cX4_bestShare 10 = .ok (.iload_n 1, 1) := by decide +kernel
theorem dX4_bestShare_11 : decode cX4_bestShare 11 = .ok (.iconst 4, 1) := by decide +kernel
theorem dX4_bestShare_12 : decode cX4_bestShare 12 = .ok (.if_icmp .ge 44, 3) := by decide +kernel
theorem dX4_bestShare_15 : decode cX4_bestShare 15 = .ok (.aload_n 0, 1) := by decide +kernel
theorem dX4_bestShare_16 : decode cX4_bestShare 16 = .ok (.iload_n 1, 1) := by decide +kernel
theorem dX4_bestShare_17 : decode cX4_bestShare 17 = .ok (.invokevirtual 49, 3) := by decide +kernel
theorem dX4_bestShare_20 : decode cX4_bestShare 20 = .ok (.iconst 1, 1) := by decide +kernel
theorem dX4_bestShare_21 : decode cX4_bestShare 21 = .ok (.aload_n 0, 1) := by decide +kernel
theorem dX4_bestShare_22 : decode cX4_bestShare 22 = .ok (.getfield 32, 3) := by decide +kernel
theorem dX4_bestShare_25 : decode cX4_bestShare 25 = .ok (.ishl, 1) := by decide +kernel
theorem dX4_bestShare_26 : decode cX4_bestShare 26 = .ok (.iconst 1, 1) := by decide +kernel
theorem dX4_bestShare_27 : decode cX4_bestShare 27 = .ok (.isub, 1) := by decide +kernel
theorem dX4_bestShare_28 : decode cX4_bestShare 28 = .ok (.istore_n 2, 1) := by decide +kernel
theorem dX4_bestShare_29 : decode cX4_bestShare 29 = .ok (.iload_n 2, 1) := by decide +kernel
theorem dX4_bestShare_30 : decode cX4_bestShare 30 = .ok (.ifCond .le 20, 3) := by decide +kernel
theorem dX4_bestShare_33 : decode cX4_bestShare 33 = .ok (.aload_n 0, 1) := by decide +kernel
theorem dX4_bestShare_34 : decode cX4_bestShare 34 = .ok (.getfield 40, 3) := by decide +kernel
theorem dX4_bestShare_37 : decode cX4_bestShare 37 = .ok (.iload_n 2, 1) := by decide +kernel
theorem dX4_bestShare_38 : decode cX4_bestShare 38 = .ok (.aload_n 0, 1) := by decide +kernel
theorem dX4_bestShare_39 : decode cX4_bestShare 39 = .ok (.iload_n 2, 1) := by decide +kernel
theorem dX4_bestShare_4 : decode cX4_bestShare 4 = .ok (.lconst 0, 1) := by decide +kernel
theorem dX4_bestShare_40 : decode cX4_bestShare 40 = .ok (.invokevirtual 53, 3) := by decide +kernel
theorem dX4_bestShare_43 : decode cX4_bestShare 43 = .ok (.lastore, 1) := by decide +kernel
theorem dX4_bestShare_44 : decode cX4_bestShare 44 = .ok (.iinc 2 (-1), 3) := by decide +kernel
theorem dX4_bestShare_47 : decode cX4_bestShare 47 = .ok (.goto (-18), 3) := by decide +kernel
theorem dX4_bestShare_5 : decode cX4_bestShare 5 = .ok (.invokestatic 43, 3) := by decide +kernel
theorem dX4_bestShare_50 : decode cX4_bestShare 50 = .ok (.iinc 1 1, 3) := by decide +kernel
theorem dX4_bestShare_53 : decode cX4_bestShare 53 = .ok (.goto (-43), 3) := by decide +kernel
theorem dX4_bestShare_56 : decode cX4_bestShare 56 = .ok (.aload_n 0, 1) := by decide +kernel
theorem dX4_bestShare_57 : decode cX4_bestShare 57 = .ok (.getfield 40, 3) := by decide +kernel
theorem dX4_bestShare_60 : decode cX4_bestShare 60 = .ok (.iconst 1, 1) := by decide +kernel
theorem dX4_bestShare_61 : decode cX4_bestShare 61 = .ok (.aload_n 0, 1) := by decide +kernel
theorem dX4_bestShare_62 : decode cX4_bestShare 62 = .ok (.getfield 32, 3) := by decide +kernel
theorem dX4_bestShare_65 : decode cX4_bestShare 65 = .ok (.ishl, 1) := by decide +kernel
theorem dX4_bestShare_66 : decode cX4_bestShare 66 = .ok (.iconst 1, 1) := by decide +kernel
theorem dX4_bestShare_67 : decode cX4_bestShare 67 = .ok (.isub, 1) := by decide +kernel
theorem dX4_bestShare_68 : decode cX4_bestShare 68 = .ok (.laload, 1) := by decide +kernel
theorem dX4_bestShare_69 : decode cX4_bestShare 69 = .ok (.lreturn, 1) := by decide +kernel
theorem dX4_bestShare_8 : decode cX4_bestShare 8 = .ok (.iconst 0, 1) := by decide +kernel
theorem dX4_bestShare_9 : decode cX4_bestShare 9 = .ok (.istore_n 1, 1) := by decide +kernel
theorem dX4_bestWith_0 : decode cX4_bestWith 0 = .ok (.aload_n 0, 1) := by decide +kernel
theorem dX4_bestWith_1 : decode cX4_bestWith 1 = .ok (.getfield 40, 3) := by decide +kernel
theorem dX4_bestWith_10 : decode cX4_bestWith 10 = .ok (.iload 4, 2) := by decide +kernel
theorem dX4_bestWith_12 : decode cX4_bestWith 12 = .ok (.ifCond .le 48, 3) := by decide +kernel
theorem dX4_bestWith_15 : decode cX4_bestWith 15 = .ok (.aload_n 0, 1) := by decide +kernel
theorem dX4_bestWith_16 : decode cX4_bestWith 16 = .ok (.getfield 36, 3) := by decide +kernel
theorem dX4_bestWith_19 : decode cX4_bestWith 19 = .ok (.iload 4, 2) := by decide +kernel
theorem dX4_bestWith_21 : decode cX4_bestWith 21 = .ok (.laload, 1) := by decide +kernel
theorem dX4_bestWith_22 : decode cX4_bestWith 22 = .ok (.lconst 0, 1) := by decide +kernel
theorem dX4_bestWith_23 : decode cX4_bestWith 23 = .ok (.lcmp, 1) := by decide +kernel
theorem dX4_bestWith_24 : decode cX4_bestWith 24 = .ok (.ifCond .lt 25, 3) := by decide +kernel
theorem dX4_bestWith_27 : decode cX4_bestWith 27 = .ok (.lload_n 2, 1) := by decide +kernel
theorem dX4_bestWith_28 : decode cX4_bestWith 28 = .ok (.aload_n 0, 1) := by decide +kernel
theorem dX4_bestWith_29 : decode cX4_bestWith 29 = .ok (.getfield 36, 3) := by decide +kernel
theorem dX4_bestWith_32 : decode cX4_bestWith 32 = .ok (.iload 4, 2) := by decide +kernel
theorem dX4_bestWith_34 : decode cX4_bestWith 34 = .ok (.laload, 1) := by decide +kernel
theorem dX4_bestWith_35 : decode cX4_bestWith 35 = .ok (.aload_n 0, 1) := by decide +kernel
theorem dX4_bestWith_36 : decode cX4_bestWith 36 = .ok (.getfield 40, 3) := by decide +kernel
theorem dX4_bestWith_39 : decode cX4_bestWith 39 = .ok (.iload_n 1, 1) := by decide +kernel
theorem dX4_bestWith_4 : decode cX4_bestWith 4 = .ok (.iload_n 1, 1) := by decide +kernel
theorem dX4_bestWith_40 : decode cX4_bestWith 40 = .ok (.iload 4, 2) := by decide +kernel
theorem dX4_bestWith_42 : decode cX4_bestWith 42 = .ok (.isub, 1) := by decide +kernel
theorem dX4_bestWith_43 : decode cX4_bestWith 43 = .ok (.laload, 1) := by decide +kernel
theorem dX4_bestWith_44 : decode cX4_bestWith 44 = .ok (.ladd, 1) := by decide +kernel
theorem dX4_bestWith_45 : decode cX4_bestWith 45 = .ok (.invokestatic 74, 3) := by decide +kernel
theorem dX4_bestWith_48 : decode cX4_bestWith 48 = .ok (.lstore_n 2, 1) := by decide +kernel
theorem dX4_bestWith_49 : decode cX4_bestWith 49 = .ok (.iload 4, 2) := by decide +kernel
theorem dX4_bestWith_5 : decode cX4_bestWith 5 = .ok (.laload, 1) := by decide +kernel
theorem dX4_bestWith_51 : decode cX4_bestWith 51 = .ok (.iconst 1, 1) := by decide +kernel
theorem dX4_bestWith_52 : decode cX4_bestWith 52 = .ok (.isub, 1) := by decide +kernel
theorem dX4_bestWith_53 : decode cX4_bestWith 53 = .ok (.iload_n 1, 1) := by decide +kernel
theorem dX4_bestWith_54 : decode cX4_bestWith 54 = .ok (.iand, 1) := by decide +kernel
theorem dX4_bestWith_55 : decode cX4_bestWith 55 = .ok (.istore 4, 2) := by decide +kernel
theorem dX4_bestWith_57 : decode cX4_bestWith 57 = .ok (.goto (-47), 3) := by decide +kernel
theorem dX4_bestWith_6 : decode cX4_bestWith 6 = .ok (.lstore_n 2, 1) := by decide +kernel
theorem dX4_bestWith_60 : decode cX4_bestWith 60 = .ok (.lload_n 2, 1) := by decide +kernel
theorem dX4_bestWith_61 : decode cX4_bestWith 61 = .ok (.lreturn, 1) := by decide +kernel
theorem dX4_bestWith_7 : decode cX4_bestWith 7 = .ok (.iload_n 1, 1) := by decide +kernel
theorem dX4_bestWith_8 : decode cX4_bestWith 8 = .ok (.istore 4, 2) := by decide +kernel
theorem dX4_given_0 : decode cX4_given 0 = .ok (.aload_n 0, 1) := by decide +kernel
theorem dX4_given_1 : decode cX4_given 1 = .ok (.getfield 11, 3) := by decide +kernel
theorem dX4_given_10 : decode cX4_given 10 = .ok (.iload_n 2, 1) := by decide +kernel
theorem dX4_given_11 : decode cX4_given 11 = .ok (.iaload, 1) := by decide +kernel
theorem dX4_given_12 : decode cX4_given 12 = .ok (.iaload, 1) := by decide +kernel
theorem dX4_given_13 : decode cX4_given 13 = .ok (.istore_n 3, 1) := by decide +kernel
theorem dX4_given_14 : decode cX4_given 14 = .ok (.aload_n 0, 1) := by decide +kernel
theorem dX4_given_15 : decode cX4_given 15 = .ok (.getfield 29, 3) := by decide +kernel
theorem dX4_given_18 : decode cX4_given 18 = .ok (.iload_n 2, 1) := by decide +kernel
theorem dX4_given_19 : decode cX4_given 19 = .ok (.iaload, 1) := by decide +kernel
theorem dX4_given_20 : decode cX4_given 20 = .ok (.ifCond .ne 7, 3) := by decide +kernel
theorem dX4_given_23 : decode cX4_given 23 = .ok (.iconst 0, 1) := by decide +kernel
theorem dX4_given_24 : decode cX4_given 24 = .ok (.goto 16, 3) := by decide +kernel
theorem dX4_given_27 : decode cX4_given 27 = .ok (.aload_n 0, 1) := by decide +kernel
theorem dX4_given_28 : decode cX4_given 28 = .ok (.getfield 11, 3) := by decide +kernel
theorem dX4_given_31 : decode cX4_given 31 = .ok (.iload_n 1, 1) := by decide +kernel
theorem dX4_given_32 : decode cX4_given 32 = .ok (.aaload, 1) := by decide +kernel
theorem dX4_given_33 : decode cX4_given 33 = .ok (.aload_n 0, 1) := by decide +kernel
theorem dX4_given_34 : decode cX4_given 34 = .ok (.getfield 26, 3) := by decide +kernel
theorem dX4_given_37 : decode cX4_given 37 = .ok (.iload_n 2, 1) := by decide +kernel
theorem dX4_given_38 : decode cX4_given 38 = .ok (.iaload, 1) := by decide +kernel
theorem dX4_given_39 : decode cX4_given 39 = .ok (.iaload, 1) := by decide +kernel
theorem dX4_given_4 : decode cX4_given 4 = .ok (.iload_n 1, 1) := by decide +kernel
theorem dX4_given_40 : decode cX4_given 40 = .ok (.istore 4, 2) := by decide +kernel
theorem dX4_given_42 : decode cX4_given 42 = .ok (.iload_n 3, 1) := by decide +kernel
theorem dX4_given_43 : decode cX4_given 43 = .ok (.iconst (-1), 1) := by decide +kernel
theorem dX4_given_44 : decode cX4_given 44 = .ok (.if_icmp .eq 9, 3) := by decide +kernel
theorem dX4_given_47 : decode cX4_given 47 = .ok (.iload 4, 2) := by decide +kernel
theorem dX4_given_49 : decode cX4_given 49 = .ok (.iconst (-1), 1) := by decide +kernel
theorem dX4_given_5 : decode cX4_given 5 = .ok (.aaload, 1) := by decide +kernel
theorem dX4_given_50 : decode cX4_given 50 = .ok (.if_icmp .ne 8, 3) := by decide +kernel
theorem dX4_given_53 : decode cX4_given 53 = .ok (.bipush (-2), 2) := by decide +kernel
theorem dX4_given_55 : decode cX4_given 55 = .ok (.goto 21, 3) := by decide +kernel
theorem dX4_given_58 : decode cX4_given 58 = .ok (.iload_n 3, 1) := by decide +kernel
theorem dX4_given_59 : decode cX4_given 59 = .ok (.aload_n 0, 1) := by decide +kernel
theorem dX4_given_6 : decode cX4_given 6 = .ok (.aload_n 0, 1) := by decide +kernel
theorem dX4_given_60 : decode cX4_given 60 = .ok (.getfield 23, 3) := by decide +kernel
theorem dX4_given_63 : decode cX4_given 63 = .ok (.iload_n 2, 1) := by decide +kernel
theorem dX4_given_64 : decode cX4_given 64 = .ok (.iaload, 1) := by decide +kernel
theorem dX4_given_65 : decode cX4_given 65 = .ok (.imul, 1) := by decide +kernel
theorem dX4_given_66 : decode cX4_given 66 = .ok (.iload 4, 2) := by decide +kernel
theorem dX4_given_68 : decode cX4_given 68 = .ok (.aload_n 0, 1) := by decide +kernel
theorem dX4_given_69 : decode cX4_given 69 = .ok (.getfield 29, 3) := by decide +kernel
theorem dX4_given_7 : decode cX4_given 7 = .ok (.getfield 20, 3) := by decide +kernel
theorem dX4_given_72 : decode cX4_given 72 = .ok (.iload_n 2, 1) := by decide +kernel
theorem dX4_given_73 : decode cX4_given 73 = .ok (.iaload, 1) := by decide +kernel
theorem dX4_given_74 : decode cX4_given 74 = .ok (.imul, 1) := by decide +kernel
theorem dX4_given_75 : decode cX4_given 75 = .ok (.iadd, 1) := by decide +kernel
theorem dX4_given_76 : decode cX4_given 76 = .ok (.ireturn, 1) := by decide +kernel
theorem dX4_hasPack_0 : decode cX4_hasPack 0 = .ok (.iload_n 1, 1) := by decide +kernel
theorem dX4_hasPack_1 : decode cX4_hasPack 1 = .ok (.ifCond .lt 15, 3) := by decide +kernel
theorem dX4_hasPack_12 : decode cX4_hasPack 12 = .ok (.iconst 1, 1) := by decide +kernel
theorem dX4_hasPack_13 : decode cX4_hasPack 13 = .ok (.goto 4, 3) := by decide +kernel
theorem dX4_hasPack_16 : decode cX4_hasPack 16 = .ok (.iconst 0, 1) := by decide +kernel
theorem dX4_hasPack_17 : decode cX4_hasPack 17 = .ok (.ireturn, 1) := by decide +kernel
theorem dX4_hasPack_4 : decode cX4_hasPack 4 = .ok (.iload_n 1, 1) := by decide +kernel
theorem dX4_hasPack_5 : decode cX4_hasPack 5 = .ok (.aload_n 0, 1) := by decide +kernel
theorem dX4_hasPack_6 : decode cX4_hasPack 6 = .ok (.getfield 32, 3) := by decide +kernel
theorem dX4_hasPack_9 : decode cX4_hasPack 9 = .ok (.if_icmp .ge 7, 3) := by decide +kernel
theorem dX4_init_0 : decode cX4_init 0 = .ok (.aload_n 0, 1) := by decide +kernel
theorem dX4_init_1 : decode cX4_init 1 = .ok (.invokespecial 3, 3) := by decide +kernel
theorem dX4_init_12 : decode cX4_init 12 = .ok (.putfield 11, 3) := by decide +kernel
theorem dX4_init_15 : decode cX4_init 15 = .ok (.aload_n 0, 1) := by decide +kernel
theorem dX4_init_16 : decode cX4_init 16 = .ok (.iconst 4, 1) := by decide +kernel
theorem dX4_init_17 : decode cX4_init 17 = .ok (.newarray .int, 2) := by decide +kernel
theorem dX4_init_19 : decode cX4_init 19 = .ok (.putfield 16, 3) := by decide +kernel
theorem dX4_init_22 : decode cX4_init 22 = .ok (.aload_n 0, 1) := by decide +kernel
theorem dX4_init_23 : decode cX4_init 23 = .ok (.bipush 8, 2) := by decide +kernel
theorem dX4_init_25 : decode cX4_init 25 = .ok (.newarray .int, 2) := by decide +kernel
theorem dX4_init_27 : decode cX4_init 27 = .ok (.putfield 20, 3) := by decide +kernel
theorem dX4_init_30 : decode cX4_init 30 = .ok (.aload_n 0, 1) := by decide +kernel
theorem dX4_init_31 : decode cX4_init 31 = .ok (.bipush 8, 2) := by decide +kernel
theorem dX4_init_33 : decode cX4_init 33 = .ok (.newarray .int, 2) := by decide +kernel
theorem dX4_init_35 : decode cX4_init 35 = .ok (.putfield 23, 3) := by decide +kernel
theorem dX4_init_38 : decode cX4_init 38 = .ok (.aload_n 0, 1) := by decide +kernel
theorem dX4_init_39 : decode cX4_init 39 = .ok (.bipush 8, 2) := by decide +kernel
theorem dX4_init_4 : decode cX4_init 4 = .ok (.aload_n 0, 1) := by decide +kernel
theorem dX4_init_41 : decode cX4_init 41 = .ok (.newarray .int, 2) := by decide +kernel
theorem dX4_init_43 : decode cX4_init 43 = .ok (.putfield 26, 3) := by decide +kernel
theorem dX4_init_46 : decode cX4_init 46 = .ok (.aload_n 0, 1) := by decide +kernel
theorem dX4_init_47 : decode cX4_init 47 = .ok (.bipush 8, 2) := by decide +kernel
theorem dX4_init_49 : decode cX4_init 49 = .ok (.newarray .int, 2) := by decide +kernel
theorem dX4_init_5 : decode cX4_init 5 = .ok (.iconst 4, 1) := by decide +kernel
theorem dX4_init_51 : decode cX4_init 51 = .ok (.putfield 29, 3) := by decide +kernel
theorem dX4_init_54 : decode cX4_init 54 = .ok (.aload_n 0, 1) := by decide +kernel
theorem dX4_init_55 : decode cX4_init 55 = .ok (.iconst 0, 1) := by decide +kernel
theorem dX4_init_56 : decode cX4_init 56 = .ok (.putfield 32, 3) := by decide +kernel
theorem dX4_init_59 : decode cX4_init 59 = .ok (.aload_n 0, 1) := by decide +kernel
theorem dX4_init_6 : decode cX4_init 6 = .ok (.bipush 16, 2) := by decide +kernel
theorem dX4_init_60 : decode cX4_init 60 = .ok (.sipush 256, 3) := by decide +kernel
theorem dX4_init_63 : decode cX4_init 63 = .ok (.newarray .long, 2) := by decide +kernel
theorem dX4_init_65 : decode cX4_init 65 = .ok (.putfield 36, 3) := by decide +kernel
theorem dX4_init_68 : decode cX4_init 68 = .ok (.aload_n 0, 1) := by decide +kernel
theorem dX4_init_69 : decode cX4_init 69 = .ok (.sipush 256, 3) := by decide +kernel
theorem dX4_init_72 : decode cX4_init 72 = .ok (.newarray .long, 2) := by decide +kernel
theorem dX4_init_74 : decode cX4_init 74 = .ok (.putfield 40, 3) := by decide +kernel
theorem dX4_init_77 : decode cX4_init 77 = .ok (.return_, 1) := by decide +kernel
theorem dX4_init_8 : decode cX4_init 8 = .ok (.multianewarray 9 2, 4) := by decide +kernel
theorem dX4_landOf_0 : decode cX4_landOf 0 = .ok (.iload_n 2, 1) := by decide +kernel
theorem dX4_landOf_1 : decode cX4_landOf 1 = .ok (.iconst 0, 1) := by decide +kernel
theorem dX4_landOf_10 : decode cX4_landOf 10 = .ok (.iconst (-1), 1) := by decide +kernel
theorem dX4_landOf_11 : decode cX4_landOf 11 = .ok (.ireturn, 1) := by decide +kernel
theorem dX4_landOf_12 : decode cX4_landOf 12 = .ok (.lload_n 0, 1) := by decide +kernel
theorem dX4_landOf_13 : decode cX4_landOf 13 = .ok (.ldc2_w 70, 3) := by decide +kernel
theorem dX4_landOf_16 : decode cX4_landOf 16 = .ok (.lrem, 1) := by decide +kernel
theorem dX4_landOf_17 : decode cX4_landOf 17 = .ok (.getstatic 61, 3) := by decide +kernel
theorem dX4_landOf_2 : decode cX4_landOf 2 = .ok (.bipush 7, 2) := by decide +kernel
theorem dX4_landOf_20 : decode cX4_landOf 20 = .ok (.iload_n 2, 1) := by decide +kernel
theorem dX4_landOf_21 : decode cX4_landOf 21 = .ok (.iaload, 1) := by decide +kernel
theorem dX4_landOf_22 : decode cX4_landOf 22 = .ok (.i2l, 1) := by decide +kernel
theorem dX4_landOf_23 : decode cX4_landOf 23 = .ok (.ldiv, 1) := by decide +kernel
theorem dX4_landOf_24 : decode cX4_landOf 24 = .ok (.ldc2_w 84, 3) := by decide +kernel
theorem dX4_landOf_27 : decode cX4_landOf 27 = .ok (.lrem, 1) := by decide +kernel
theorem dX4_landOf_28 : decode cX4_landOf 28 = .ok (.l2i, 1) := by decide +kernel
theorem dX4_landOf_29 : decode cX4_landOf 29 = .ok (.istore_n 3, 1) := by decide +kernel
theorem dX4_landOf_30 : decode cX4_landOf 30 = .ok (.iload_n 3, 1) := by decide +kernel
theorem dX4_landOf_31 : decode cX4_landOf 31 = .ok (.ifCond .ne 7, 3) := by decide +kernel
theorem dX4_landOf_34 : decode cX4_landOf 34 = .ok (.iconst (-1), 1) := by decide +kernel
theorem dX4_landOf_35 : decode cX4_landOf 35 = .ok (.goto 6, 3) := by decide +kernel
theorem dX4_landOf_38 : decode cX4_landOf 38 = .ok (.iconst 4, 1) := by decide +kernel
theorem dX4_landOf_39 : decode cX4_landOf 39 = .ok (.iload_n 3, 1) := by decide +kernel
theorem dX4_landOf_4 : decode cX4_landOf 4 = .ok (.invokestatic 80, 3) := by decide +kernel
theorem dX4_landOf_40 : decode cX4_landOf 40 = .ok (.isub, 1) := by decide +kernel
theorem dX4_landOf_41 : decode cX4_landOf 41 = .ok (.ireturn, 1) := by decide +kernel
theorem dX4_landOf_7 : decode cX4_landOf 7 = .ok (.ifCond .ne 5, 3) := by decide +kernel
theorem dX4_sumOf_0 : decode cX4_sumOf 0 = .ok (.lload_n 0, 1) := by decide +kernel
theorem dX4_sumOf_1 : decode cX4_sumOf 1 = .ok (.ldc2_w 70, 3) := by decide +kernel
theorem dX4_sumOf_4 : decode cX4_sumOf 4 = .ok (.ldiv, 1) := by decide +kernel
theorem dX4_sumOf_5 : decode cX4_sumOf 5 = .ok (.l2i, 1) := by decide +kernel
theorem dX4_sumOf_6 : decode cX4_sumOf 6 = .ok (.ireturn, 1) := by decide +kernel
theorem dX4_weigh_0 : decode cX4_weigh 0 = .ok (.aload_n 0, 1) := by decide +kernel
theorem dX4_weigh_1 : decode cX4_weigh 1 = .ok (.getfield 36, 3) := by decide +kernel
theorem dX4_weigh_10 : decode cX4_weigh 10 = .ok (.aload_n 0, 1) := by decide +kernel
theorem dX4_weigh_100 : decode cX4_weigh 100 = .ok (.ifCond .eq 23, 3) := by decide +kernel
theorem dX4_weigh_103 : decode cX4_weigh 103 = .ok (.aload_n 0, 1) := by decide +kernel
theorem dX4_weigh_104 : decode cX4_weigh 104 = .ok (.getfield 36, 3) := by decide +kernel
theorem dX4_weigh_107 : decode cX4_weigh 107 = .ok (.iload 7, 2) := by decide +kernel
theorem dX4_weigh_109 : decode cX4_weigh 109 = .ok (.laload, 1) := by decide +kernel
theorem dX4_weigh_11 : decode cX4_weigh 11 = .ok (.getfield 32, 3) := by decide +kernel
theorem dX4_weigh_110 : decode cX4_weigh 110 = .ok (.iload_n 3, 1) := by decide +kernel
theorem dX4_weigh_111 : decode cX4_weigh 111 = .ok (.i2l, 1) := by decide +kernel
theorem dX4_weigh_112 : decode cX4_weigh 112 = .ok (.ldc2_w 70, 3) := by decide +kernel
theorem dX4_weigh_115 : decode cX4_weigh 115 = .ok (.lmul, 1) := by decide +kernel
theorem dX4_weigh_116 : decode cX4_weigh 116 = .ok (.ladd, 1) := by decide +kernel
theorem dX4_weigh_117 : decode cX4_weigh 117 = .ok (.lload 4, 2) := by decide +kernel
theorem dX4_weigh_119 : decode cX4_weigh 119 = .ok (.ladd, 1) := by decide +kernel
theorem dX4_weigh_120 : decode cX4_weigh 120 = .ok (.goto 6, 3) := by decide +kernel
theorem dX4_weigh_123 : decode cX4_weigh 123 = .ok (.ldc2_w 72, 3) := by decide +kernel
theorem dX4_weigh_126 : decode cX4_weigh 126 = .ok (.lastore, 1) := by decide +kernel
theorem dX4_weigh_127 : decode cX4_weigh 127 = .ok (.iinc 7 1, 3) := by decide +kernel
theorem dX4_weigh_130 : decode cX4_weigh 130 = .ok (.goto (-85), 3) := by decide +kernel
theorem dX4_weigh_133 : decode cX4_weigh 133 = .ok (.iinc 2 1, 3) := by decide +kernel
theorem dX4_weigh_136 : decode cX4_weigh 136 = .ok (.goto (-127), 3) := by decide +kernel
theorem dX4_weigh_139 : decode cX4_weigh 139 = .ok (.return_, 1) := by decide +kernel
theorem dX4_weigh_14 : decode cX4_weigh 14 = .ok (.if_icmp .ge 125, 3) := by decide +kernel
theorem dX4_weigh_17 : decode cX4_weigh 17 = .ok (.aload_n 0, 1) := by decide +kernel
theorem dX4_weigh_18 : decode cX4_weigh 18 = .ok (.iload_n 1, 1) := by decide +kernel
theorem dX4_weigh_19 : decode cX4_weigh 19 = .ok (.iload_n 2, 1) := by decide +kernel
theorem dX4_weigh_20 : decode cX4_weigh 20 = .ok (.invokevirtual 57, 3) := by decide +kernel
theorem dX4_weigh_23 : decode cX4_weigh 23 = .ok (.istore_n 3, 1) := by decide +kernel
theorem dX4_weigh_24 : decode cX4_weigh 24 = .ok (.iconst 4, 1) := by decide +kernel
theorem dX4_weigh_25 : decode cX4_weigh 25 = .ok (.iload_n 1, 1) := by decide +kernel
theorem dX4_weigh_26 : decode cX4_weigh 26 = .ok (.isub, 1) := by decide +kernel
theorem dX4_weigh_27 : decode cX4_weigh 27 = .ok (.i2l, 1) := by decide +kernel
theorem dX4_weigh_28 : decode cX4_weigh 28 = .ok (.getstatic 61, 3) := by decide +kernel
theorem dX4_weigh_31 : decode cX4_weigh 31 = .ok (.iload_n 2, 1) := by decide +kernel
theorem dX4_weigh_32 : decode cX4_weigh 32 = .ok (.iaload, 1) := by decide +kernel
theorem dX4_weigh_33 : decode cX4_weigh 33 = .ok (.i2l, 1) := by decide +kernel
theorem dX4_weigh_34 : decode cX4_weigh 34 = .ok (.lmul, 1) := by decide +kernel
theorem dX4_weigh_35 : decode cX4_weigh 35 = .ok (.lstore 4, 2) := by decide +kernel
theorem dX4_weigh_37 : decode cX4_weigh 37 = .ok (.iconst 1, 1) := by decide +kernel
theorem dX4_weigh_38 : decode cX4_weigh 38 = .ok (.iload_n 2, 1) := by decide +kernel
theorem dX4_weigh_39 : decode cX4_weigh 39 = .ok (.ishl, 1) := by decide +kernel
theorem dX4_weigh_4 : decode cX4_weigh 4 = .ok (.iconst 0, 1) := by decide +kernel
theorem dX4_weigh_40 : decode cX4_weigh 40 = .ok (.istore 6, 2) := by decide +kernel
theorem dX4_weigh_42 : decode cX4_weigh 42 = .ok (.iconst 0, 1) := by decide +kernel
theorem dX4_weigh_43 : decode cX4_weigh 43 = .ok (.istore 7, 2) := by decide +kernel
theorem dX4_weigh_45 : decode cX4_weigh 45 = .ok (.iload 7, 2) := by decide +kernel
theorem dX4_weigh_47 : decode cX4_weigh 47 = .ok (.iload 6, 2) := by decide +kernel
theorem dX4_weigh_49 : decode cX4_weigh 49 = .ok (.if_icmp .ge 84, 3) := by decide +kernel
theorem dX4_weigh_5 : decode cX4_weigh 5 = .ok (.lconst 0, 1) := by decide +kernel
theorem dX4_weigh_52 : decode cX4_weigh 52 = .ok (.iload_n 3, 1) := by decide +kernel
theorem dX4_weigh_53 : decode cX4_weigh 53 = .ok (.ifCond .lt 33, 3) := by decide +kernel
theorem dX4_weigh_56 : decode cX4_weigh 56 = .ok (.aload_n 0, 1) := by decide +kernel
theorem dX4_weigh_57 : decode cX4_weigh 57 = .ok (.getfield 36, 3) := by decide +kernel
theorem dX4_weigh_6 : decode cX4_weigh 6 = .ok (.lastore, 1) := by decide +kernel
theorem dX4_weigh_60 : decode cX4_weigh 60 = .ok (.iload 7, 2) := by decide +kernel
theorem dX4_weigh_62 : decode cX4_weigh 62 = .ok (.laload, 1) := by decide +kernel
theorem dX4_weigh_63 : decode cX4_weigh 63 = .ok (.lconst 0, 1) := by decide +kernel
theorem dX4_weigh_64 : decode cX4_weigh 64 = .ok (.lcmp, 1) := by decide +kernel
theorem dX4_weigh_65 : decode cX4_weigh 65 = .ok (.ifCond .lt 21, 3) := by decide +kernel
theorem dX4_weigh_68 : decode cX4_weigh 68 = .ok (.iload 7, 2) := by decide +kernel
theorem dX4_weigh_7 : decode cX4_weigh 7 = .ok (.iconst 0, 1) := by decide +kernel
theorem dX4_weigh_70 : decode cX4_weigh 70 = .ok (.invokestatic 64, 3) := by decide +kernel
theorem dX4_weigh_73 : decode cX4_weigh 73 = .ok (.aload_n 0, 1) := by decide +kernel
theorem dX4_weigh_74 : decode cX4_weigh 74 = .ok (.getfield 16, 3) := by decide +kernel
theorem dX4_weigh_77 : decode cX4_weigh 77 = .ok (.iload_n 1, 1) := by decide +kernel
theorem dX4_weigh_78 : decode cX4_weigh 78 = .ok (.iaload, 1) := by decide +kernel
theorem dX4_weigh_79 : decode cX4_weigh 79 = .ok (.if_icmp .ge 7, 3) := by decide +kernel
theorem dX4_weigh_8 : decode cX4_weigh 8 = .ok (.istore_n 2, 1) := by decide +kernel
theorem dX4_weigh_82 : decode cX4_weigh 82 = .ok (.iconst 1, 1) := by decide +kernel
theorem dX4_weigh_83 : decode cX4_weigh 83 = .ok (.goto 4, 3) := by decide +kernel
theorem dX4_weigh_86 : decode cX4_weigh 86 = .ok (.iconst 0, 1) := by decide +kernel
theorem dX4_weigh_87 : decode cX4_weigh 87 = .ok (.istore 8, 2) := by decide +kernel
theorem dX4_weigh_89 : decode cX4_weigh 89 = .ok (.aload_n 0, 1) := by decide +kernel
theorem dX4_weigh_9 : decode cX4_weigh 9 = .ok (.iload_n 2, 1) := by decide +kernel
theorem dX4_weigh_90 : decode cX4_weigh 90 = .ok (.getfield 36, 3) := by decide +kernel
theorem dX4_weigh_93 : decode cX4_weigh 93 = .ok (.iload 6, 2) := by decide +kernel
theorem dX4_weigh_95 : decode cX4_weigh 95 = .ok (.iload 7, 2) := by decide +kernel
theorem dX4_weigh_97 : decode cX4_weigh 97 = .ok (.iadd, 1) := by decide +kernel
theorem dX4_weigh_98 : decode cX4_weigh 98 = .ok (.iload 8, 2) := by decide +kernel
theorem dX5_add_0 : decode cX5_add 0 = .ok (.aload_n 0, 1) := by decide +kernel
theorem dX5_add_1 : decode cX5_add 1 = .ok (.getfield 27, 3) := by decide +kernel
theorem dX5_add_10 : decode cX5_add 10 = .ok (.ireturn, 1) := by decide +kernel
theorem dX5_add_11 : decode cX5_add 11 = .ok (.aload_n 0, 1) := by decide +kernel
theorem dX5_add_12 : decode cX5_add 12 = .ok (.getfield 9, 3) := by decide +kernel
theorem dX5_add_15 : decode cX5_add 15 = .ok (.aload_n 0, 1) := by decide +kernel
theorem dX5_add_16 : decode cX5_add 16 = .ok (.getfield 27, 3) := by decide +kernel
theorem dX5_add_19 : decode cX5_add 19 = .ok (.iload_n 1, 1) := by decide +kernel
theorem dX5_add_20 : decode cX5_add 20 = .ok (.iastore, 1) := by decide +kernel
theorem dX5_add_21 : decode cX5_add 21 = .ok (.aload_n 0, 1) := by decide +kernel
theorem dX5_add_22 : decode cX5_add 22 = .ok (.getfield 15, 3) := by decide +kernel
theorem dX5_add_25 : decode cX5_add 25 = .ok (.aload_n 0, 1) := by decide +kernel
theorem dX5_add_26 : decode cX5_add 26 = .ok (.getfield 27, 3) := by decide +kernel
theorem dX5_add_29 : decode cX5_add 29 = .ok (.iload_n 2, 1) := by decide +kernel
theorem dX5_add_30 : decode cX5_add 30 = .ok (.iastore, 1) := by decide +kernel
theorem dX5_add_31 : decode cX5_add 31 = .ok (.aload_n 0, 1) := by decide +kernel
theorem dX5_add_32 : decode cX5_add 32 = .ok (.getfield 18, 3) := by decide +kernel
theorem dX5_add_35 : decode cX5_add 35 = .ok (.aload_n 0, 1) := by decide +kernel
theorem dX5_add_36 : decode cX5_add 36 = .ok (.getfield 27, 3) := by decide +kernel
theorem dX5_add_39 : decode cX5_add 39 = .ok (.iload_n 3, 1) := by decide +kernel
theorem dX5_add_4 : decode cX5_add 4 = .ok (.bipush 60, 2) := by decide +kernel
theorem dX5_add_40 : decode cX5_add 40 = .ok (.iastore, 1) := by decide +kernel
theorem dX5_add_41 : decode cX5_add 41 = .ok (.aload_n 0, 1) := by decide +kernel
theorem dX5_add_42 : decode cX5_add 42 = .ok (.getfield 21, 3) := by decide +kernel
theorem dX5_add_45 : decode cX5_add 45 = .ok (.aload_n 0, 1) := by decide +kernel
theorem dX5_add_46 : decode cX5_add 46 = .ok (.getfield 27, 3) := by decide +kernel
theorem dX5_add_49 : decode cX5_add 49 = .ok (.iload 4, 2) := by decide +kernel
theorem dX5_add_51 : decode cX5_add 51 = .ok (.iastore, 1) := by decide +kernel
theorem dX5_add_52 : decode cX5_add 52 = .ok (.aload_n 0, 1) := by decide +kernel
theorem dX5_add_53 : decode cX5_add 53 = .ok (.getfield 24, 3) := by decide +kernel
theorem dX5_add_56 : decode cX5_add 56 = .ok (.aload_n 0, 1) := by decide +kernel
theorem dX5_add_57 : decode cX5_add 57 = .ok (.getfield 27, 3) := by decide +kernel
theorem dX5_add_6 : decode cX5_add 6 = .ok (.if_icmp .lt 5, 3) := by decide +kernel
theorem dX5_add_60 : decode cX5_add 60 = .ok (.iload 5, 2) := by decide +kernel
theorem dX5_add_62 : decode cX5_add 62 = .ok (.iastore, 1) := by decide +kernel
theorem dX5_add_63 : decode cX5_add 63 = .ok (.aload_n 0, 1) := by decide +kernel
theorem dX5_add_64 : decode cX5_add 64 = .ok (.dup, 1) := by decide +kernel
theorem dX5_add_65 : decode cX5_add 65 = .ok (.getfield 27, 3) := by decide +kernel
theorem dX5_add_68 : decode cX5_add 68 = .ok (.iconst 1, 1) := by decide +kernel
theorem dX5_add_69 : decode cX5_add 69 = .ok (.iadd, 1) := by decide +kernel
theorem dX5_add_70 : decode cX5_add 70 = .ok (.putfield 27, 3) := by decide +kernel
theorem dX5_add_73 : decode cX5_add 73 = .ok (.aload_n 0, 1) := by decide +kernel
theorem dX5_add_74 : decode cX5_add 74 = .ok (.getfield 27, 3) := by decide +kernel
theorem dX5_add_77 : decode cX5_add 77 = .ok (.ireturn, 1) := by decide +kernel
theorem dX5_add_9 : decode cX5_add 9 = .ok (.iconst (-1), 1) := by decide +kernel
theorem dX5_held_0 : decode cX5_held 0 = .ok (.iconst (-1), 1) := by decide +kernel
theorem dX5_held_1 : decode cX5_held 1 = .ok (.istore_n 3, 1) := by decide +kernel
theorem dX5_held_10 : decode cX5_held 10 = .ok (.aload_n 0, 1) := by decide +kernel
theorem dX5_held_11 : decode cX5_held 11 = .ok (.getfield 27, 3) := by decide +kernel
theorem dX5_held_14 : decode cX5_held 14 = .ok (.if_icmp .ge 69, 3) := by decide +kernel
theorem dX5_held_17 : decode cX5_held 17 = .ok (.aload_n 0, 1) := by decide +kernel
theorem dX5_held_18 : decode cX5_held 18 = .ok (.getfield 9, 3) := by decide +kernel
theorem dX5_held_2 : decode cX5_held 2 = .ok (.iconst (-1), 1) := by decide +kernel
theorem dX5_held_21 : decode cX5_held 21 = .ok (.iload 5, 2) := by decide +kernel
theorem dX5_held_23 : decode cX5_held 23 = .ok (.iaload, 1) := by decide +kernel
theorem dX5_held_24 : decode cX5_held 24 = .ok (.iload_n 1, 1) := by decide +kernel
theorem dX5_held_25 : decode cX5_held 25 = .ok (.if_icmp .ne 52, 3) := by decide +kernel
theorem dX5_held_28 : decode cX5_held 28 = .ok (.aload_n 0, 1) := by decide +kernel
theorem dX5_held_29 : decode cX5_held 29 = .ok (.getfield 15, 3) := by decide +kernel
theorem dX5_held_3 : decode cX5_held 3 = .ok (.istore 4, 2) := by decide +kernel
theorem dX5_held_32 : decode cX5_held 32 = .ok (.iload 5, 2) := by decide +kernel
theorem dX5_held_34 : decode cX5_held 34 = .ok (.iaload, 1) := by decide +kernel
theorem dX5_held_35 : decode cX5_held 35 = .ok (.iload_n 2, 1) := by decide +kernel
theorem dX5_held_36 : decode cX5_held 36 = .ok (.if_icmp .ne 41, 3) := by decide +kernel
theorem dX5_held_39 : decode cX5_held 39 = .ok (.aload_n 0, 1) := by decide +kernel
theorem dX5_held_40 : decode cX5_held 40 = .ok (.getfield 18, 3) := by decide +kernel
theorem dX5_held_43 : decode cX5_held 43 = .ok (.iload 5, 2) := by decide +kernel
theorem dX5_held_45 : decode cX5_held 45 = .ok (.iaload, 1) := by decide +kernel
theorem dX5_held_46 : decode cX5_held 46 = .ok (.aload_n 0, 1) := by decide +kernel
theorem dX5_held_47 : decode cX5_held 47 = .ok (.getfield 31, 3) := by decide +kernel
theorem dX5_held_5 : decode cX5_held 5 = .ok (.iconst 0, 1) := by decide +kernel
theorem dX5_held_50 : decode cX5_held 50 = .ok (.if_icmp .gt 27, 3) := by decide +kernel
theorem dX5_held_53 : decode cX5_held 53 = .ok (.aload_n 0, 1) := by decide +kernel
theorem dX5_held_54 : decode cX5_held 54 = .ok (.getfield 18, 3) := by decide +kernel
theorem dX5_held_57 : decode cX5_held 57 = .ok (.iload 5, 2) := by decide +kernel
theorem dX5_held_59 : decode cX5_held 59 = .ok (.iaload, 1) := by decide +kernel
theorem dX5_held_6 : decode cX5_held 6 = .ok (.istore 5, 2) := by decide +kernel
theorem dX5_held_60 : decode cX5_held 60 = .ok (.iload 4, 2) := by decide +kernel
theorem dX5_held_62 : decode cX5_held 62 = .ok (.if_icmp .lt 15, 3) := by decide +kernel
theorem dX5_held_65 : decode cX5_held 65 = .ok (.iload 5, 2) := by decide +kernel
theorem dX5_held_67 : decode cX5_held 67 = .ok (.istore_n 3, 1) := by decide +kernel
theorem dX5_held_68 : decode cX5_held 68 = .ok (.aload_n 0, 1) := by decide +kernel
theorem dX5_held_69 : decode cX5_held 69 = .ok (.getfield 18, 3) := by decide +kernel
theorem dX5_held_72 : decode cX5_held 72 = .ok (.iload 5, 2) := by decide +kernel
theorem dX5_held_74 : decode cX5_held 74 = .ok (.iaload, 1) := by decide +kernel
theorem dX5_held_75 : decode cX5_held 75 = .ok (.istore 4, 2) := by decide +kernel
theorem dX5_held_77 : decode cX5_held 77 = .ok (.iinc 5 1, 3) := by decide +kernel
theorem dX5_held_8 : decode cX5_held 8 = .ok (.iload 5, 2) := by decide +kernel
theorem dX5_held_80 : decode cX5_held 80 = .ok (.goto (-72), 3) := by decide +kernel
theorem dX5_held_83 : decode cX5_held 83 = .ok (.iload_n 3, 1) := by decide +kernel
theorem dX5_held_84 : decode cX5_held 84 = .ok (.ireturn, 1) := by decide +kernel
theorem dX5_init_0 : decode cX5_init 0 = .ok (.aload_n 0, 1) := by decide +kernel
theorem dX5_init_1 : decode cX5_init 1 = .ok (.invokespecial 3, 3) := by decide +kernel
theorem dX5_init_12 : decode cX5_init 12 = .ok (.aload_n 0, 1) := by decide +kernel
theorem dX5_init_13 : decode cX5_init 13 = .ok (.bipush 60, 2) := by decide +kernel
theorem dX5_init_15 : decode cX5_init 15 = .ok (.newarray .int, 2) := by decide +kernel
theorem dX5_init_17 : decode cX5_init 17 = .ok (.putfield 15, 3) := by decide +kernel
theorem dX5_init_20 : decode cX5_init 20 = .ok (.aload_n 0, 1) := by decide +kernel
theorem dX5_init_21 : decode cX5_init 21 = .ok (.bipush 60, 2) := by decide +kernel
theorem dX5_init_23 : decode cX5_init 23 = .ok (.newarray .int, 2) := by decide +kernel
theorem dX5_init_25 : decode cX5_init 25 = .ok (.putfield 18, 3) := by decide +kernel
theorem dX5_init_28 : decode cX5_init 28 = .ok (.aload_n 0, 1) := by decide +kernel
theorem dX5_init_29 : decode cX5_init 29 = .ok (.bipush 60, 2) := by decide +kernel
theorem dX5_init_31 : decode cX5_init 31 = .ok (.newarray .int, 2) := by decide +kernel
theorem dX5_init_33 : decode cX5_init 33 = .ok (.putfield 21, 3) := by decide +kernel
theorem dX5_init_36 : decode cX5_init 36 = .ok (.aload_n 0, 1) := by decide +kernel
theorem dX5_init_37 : decode cX5_init 37 = .ok (.bipush 60, 2) := by decide +kernel
theorem dX5_init_39 : decode cX5_init 39 = .ok (.newarray .int, 2) := by decide +kernel
theorem dX5_init_4 : decode cX5_init 4 = .ok (.aload_n 0, 1) := by decide +kernel
theorem dX5_init_41 : decode cX5_init 41 = .ok (.putfield 24, 3) := by decide +kernel
theorem dX5_init_44 : decode cX5_init 44 = .ok (.aload_n 0, 1) := by decide +kernel
theorem dX5_init_45 : decode cX5_init 45 = .ok (.iconst 0, 1) := by decide +kernel
theorem dX5_init_46 : decode cX5_init 46 = .ok (.putfield 27, 3) := by decide +kernel
theorem dX5_init_49 : decode cX5_init 49 = .ok (.aload_n 0, 1) := by decide +kernel
theorem dX5_init_5 : decode cX5_init 5 = .ok (.bipush 60, 2) := by decide +kernel
theorem dX5_init_50 : decode cX5_init 50 = .ok (.bipush 99, 2) := by decide +kernel
theorem dX5_init_52 : decode cX5_init 52 = .ok (.putfield 31, 3) := by decide +kernel
theorem dX5_init_55 : decode cX5_init 55 = .ok (.return_, 1) := by decide +kernel
theorem dX5_init_7 : decode cX5_init 7 = .ok (.newarray .int, 2) := by decide +kernel
theorem dX5_init_9 : decode cX5_init 9 = .ok (.putfield 9, 3) := by decide +kernel
theorem dX6_add_0 : decode cX6_add 0 = .ok (.aload_n 0, 1) := by decide +kernel
theorem dX6_add_1 : decode cX6_add 1 = .ok (.getfield 24, 3) := by decide +kernel
theorem dX6_add_10 : decode cX6_add 10 = .ok (.aload_n 0, 1) := by decide +kernel
theorem dX6_add_11 : decode cX6_add 11 = .ok (.getfield 11, 3) := by decide +kernel
theorem dX6_add_14 : decode cX6_add 14 = .ok (.aload_n 0, 1) := by decide +kernel
theorem dX6_add_15 : decode cX6_add 15 = .ok (.getfield 24, 3) := by decide +kernel
theorem dX6_add_18 : decode cX6_add 18 = .ok (.iload_n 1, 1) := by decide +kernel
theorem dX6_add_19 : decode cX6_add 19 = .ok (.iastore, 1) := by decide +kernel
theorem dX6_add_20 : decode cX6_add 20 = .ok (.aload_n 0, 1) := by decide +kernel
theorem dX6_add_21 : decode cX6_add 21 = .ok (.getfield 15, 3) := by decide +kernel
theorem dX6_add_24 : decode cX6_add 24 = .ok (.aload_n 0, 1) := by decide +kernel
theorem dX6_add_25 : decode cX6_add 25 = .ok (.getfield 24, 3) := by decide +kernel
theorem dX6_add_28 : decode cX6_add 28 = .ok (.iload_n 2, 1) := by decide +kernel
theorem dX6_add_29 : decode cX6_add 29 = .ok (.iastore, 1) := by decide +kernel
theorem dX6_add_30 : decode cX6_add 30 = .ok (.aload_n 0, 1) := by decide +kernel
theorem dX6_add_31 : decode cX6_add 31 = .ok (.getfield 18, 3) := by decide +kernel
theorem dX6_add_34 : decode cX6_add 34 = .ok (.aload_n 0, 1) := by decide +kernel
theorem dX6_add_35 : decode cX6_add 35 = .ok (.getfield 24, 3) := by decide +kernel
theorem dX6_add_38 : decode cX6_add 38 = .ok (.iload_n 3, 1) := by decide +kernel
theorem dX6_add_39 : decode cX6_add 39 = .ok (.iastore, 1) := by decide +kernel
theorem dX6_add_4 : decode cX6_add 4 = .ok (.sipush 384, 3) := by decide +kernel
theorem dX6_add_40 : decode cX6_add 40 = .ok (.aload_n 0, 1) := by decide +kernel
theorem dX6_add_41 : decode cX6_add 41 = .ok (.getfield 21, 3) := by decide +kernel
theorem dX6_add_44 : decode cX6_add 44 = .ok (.iload_n 1, 1) := by decide +kernel
theorem dX6_add_45 : decode cX6_add 45 = .ok (.dup2, 1) := by decide +kernel
theorem dX6_add_46 : decode cX6_add 46 = .ok (.iaload, 1) := by decide +kernel
theorem dX6_add_47 : decode cX6_add 47 = .ok (.iload_n 3, 1) := by decide +kernel
theorem dX6_add_48 : decode cX6_add 48 = .ok (.iadd, 1) := by decide +kernel
theorem dX6_add_49 : decode cX6_add 49 = .ok (.iastore, 1) := by decide +kernel
theorem dX6_add_50 : decode cX6_add 50 = .ok (.aload_n 0, 1) := by decide +kernel
theorem dX6_add_51 : decode cX6_add 51 = .ok (.dup, 1) := by decide +kernel
theorem dX6_add_52 : decode cX6_add 52 = .ok (.getfield 24, 3) := by decide +kernel
theorem dX6_add_55 : decode cX6_add 55 = .ok (.iconst 1, 1) := by decide +kernel
theorem dX6_add_56 : decode cX6_add 56 = .ok (.iadd, 1) := by decide +kernel
theorem dX6_add_57 : decode cX6_add 57 = .ok (.putfield 24, 3) := by decide +kernel
theorem dX6_add_60 : decode cX6_add 60 = .ok (.return_, 1) := by decide +kernel
theorem dX6_add_7 : decode cX6_add 7 = .ok (.if_icmp .ge 53, 3) := by decide +kernel
theorem dX6_burn_0 : decode cX6_burn 0 = .ok (.iconst 0, 1) := by decide +kernel
theorem dX6_burn_1 : decode cX6_burn 1 = .ok (.istore_n 3, 1) := by decide +kernel
theorem dX6_burn_11 : decode cX6_burn 11 = .ok (.if_icmp .ge 42, 3) := by decide +kernel
theorem dX6_burn_14 : decode cX6_burn 14 = .ok (.aload_n 0, 1) := by decide +kernel
theorem dX6_burn_15 : decode cX6_burn 15 = .ok (.getfield 18, 3) := by decide +kernel
theorem dX6_burn_18 : decode cX6_burn 18 = .ok (.iload 4, 2) := by decide +kernel
theorem dX6_burn_2 : decode cX6_burn 2 = .ok (.iconst 0, 1) := by decide +kernel
theorem dX6_burn_20 : decode cX6_burn 20 = .ok (.iaload, 1) := by decide +kernel
theorem dX6_burn_21 : decode cX6_burn 21 = .ok (.iload_n 1, 1) := by decide +kernel
theorem dX6_burn_22 : decode cX6_burn 22 = .ok (.imul, 1) := by decide +kernel
theorem dX6_burn_23 : decode cX6_burn 23 = .ok (.sipush 999, 3) := by decide +kernel
theorem dX6_burn_26 : decode cX6_burn 26 = .ok (.iadd, 1) := by decide +kernel
theorem dX6_burn_27 : decode cX6_burn 27 = .ok (.sipush 1000, 3) := by decide +kernel
theorem dX6_burn_3 : decode cX6_burn 3 = .ok (.istore 4, 2) := by decide +kernel
theorem dX6_burn_30 : decode cX6_burn 30 = .ok (.idiv, 1) := by decide +kernel
theorem dX6_burn_31 : decode cX6_burn 31 = .ok (.istore 5, 2) := by decide +kernel
theorem dX6_burn_33 : decode cX6_burn 33 = .ok (.aload_n 0, 1) := by decide +kernel
theorem dX6_burn_34 : decode cX6_burn 34 = .ok (.iload 4, 2) := by decide +kernel
theorem dX6_burn_36 : decode cX6_burn 36 = .ok (.iload 5, 2) := by decide +kernel
theorem dX6_burn_38 : decode cX6_burn 38 = .ok (.aload_n 2, 1) := by decide +kernel
theorem dX6_burn_39 : decode cX6_burn 39 = .ok (.invokevirtual 34, 3) := by decide +kernel
theorem dX6_burn_42 : decode cX6_burn 42 = .ok (.iload_n 3, 1) := by decide +kernel
theorem dX6_burn_43 : decode cX6_burn 43 = .ok (.iload 5, 2) := by decide +kernel
theorem dX6_burn_45 : decode cX6_burn 45 = .ok (.iadd, 1) := by decide +kernel
theorem dX6_burn_46 : decode cX6_burn 46 = .ok (.istore_n 3, 1) := by decide +kernel
theorem dX6_burn_47 : decode cX6_burn 47 = .ok (.iinc 4 1, 3) := by decide +kernel
theorem dX6_burn_5 : decode cX6_burn 5 = .ok (.iload 4, 2) := by decide +kernel
theorem dX6_burn_50 : decode cX6_burn 50 = .ok (.goto (-45), 3) := by decide +kernel
theorem dX6_burn_53 : decode cX6_burn 53 = .ok (.iload_n 3, 1) := by decide +kernel
theorem dX6_burn_54 : decode cX6_burn 54 = .ok (.ireturn, 1) := by decide +kernel
theorem dX6_burn_7 : decode cX6_burn 7 = .ok (.aload_n 0, 1) := by decide +kernel
theorem dX6_burn_8 : decode cX6_burn 8 = .ok (.getfield 24, 3) := by decide +kernel
theorem dX6_eat_0 : decode cX6_eat 0 = .ok (.iconst 0, 1) := by decide +kernel
theorem dX6_eat_1 : decode cX6_eat 1 = .ok (.istore_n 3, 1) := by decide +kernel
theorem dX6_eat_11 : decode cX6_eat 11 = .ok (.if_icmp .ge 44, 3) := by decide +kernel
theorem dX6_eat_14 : decode cX6_eat 14 = .ok (.aload_n 0, 1) := by decide +kernel
theorem dX6_eat_15 : decode cX6_eat 15 = .ok (.getfield 15, 3) := by decide +kernel
theorem dX6_eat_18 : decode cX6_eat 18 = .ok (.iload 4, 2) := by decide +kernel
theorem dX6_eat_2 : decode cX6_eat 2 = .ok (.iconst 0, 1) := by decide +kernel
theorem dX6_eat_20 : decode cX6_eat 20 = .ok (.iaload, 1) := by decide +kernel
theorem dX6_eat_21 : decode cX6_eat 21 = .ok (.iload_n 1, 1) := by decide +kernel
theorem dX6_eat_22 : decode cX6_eat 22 = .ok (.if_icmp .ne 27, 3) := by decide +kernel
theorem dX6_eat_25 : decode cX6_eat 25 = .ok (.iload_n 3, 1) := by decide +kernel
theorem dX6_eat_26 : decode cX6_eat 26 = .ok (.aload_n 0, 1) := by decide +kernel
theorem dX6_eat_27 : decode cX6_eat 27 = .ok (.getfield 18, 3) := by decide +kernel
theorem dX6_eat_3 : decode cX6_eat 3 = .ok (.istore 4, 2) := by decide +kernel
theorem dX6_eat_30 : decode cX6_eat 30 = .ok (.iload 4, 2) := by decide +kernel
theorem dX6_eat_32 : decode cX6_eat 32 = .ok (.iaload, 1) := by decide +kernel
theorem dX6_eat_33 : decode cX6_eat 33 = .ok (.iadd, 1) := by decide +kernel
theorem dX6_eat_34 : decode cX6_eat 34 = .ok (.istore_n 3, 1) := by decide +kernel
theorem dX6_eat_35 : decode cX6_eat 35 = .ok (.aload_n 0, 1) := by decide +kernel
theorem dX6_eat_36 : decode cX6_eat 36 = .ok (.iload 4, 2) := by decide +kernel
theorem dX6_eat_38 : decode cX6_eat 38 = .ok (.aload_n 0, 1) := by decide +kernel
theorem dX6_eat_39 : decode cX6_eat 39 = .ok (.getfield 18, 3) := by decide +kernel
theorem dX6_eat_42 : decode cX6_eat 42 = .ok (.iload 4, 2) := by decide +kernel
theorem dX6_eat_44 : decode cX6_eat 44 = .ok (.iaload, 1) := by decide +kernel
theorem dX6_eat_45 : decode cX6_eat 45 = .ok (.aload_n 2, 1) := by decide +kernel
theorem dX6_eat_46 : decode cX6_eat 46 = .ok (.invokevirtual 34, 3) := by decide +kernel
theorem dX6_eat_49 : decode cX6_eat 49 = .ok (.iinc 4 1, 3) := by decide +kernel
theorem dX6_eat_5 : decode cX6_eat 5 = .ok (.iload 4, 2) := by decide +kernel
theorem dX6_eat_52 : decode cX6_eat 52 = .ok (.goto (-47), 3) := by decide +kernel
theorem dX6_eat_55 : decode cX6_eat 55 = .ok (.iload_n 3, 1) := by decide +kernel
theorem dX6_eat_56 : decode cX6_eat 56 = .ok (.ireturn, 1) := by decide +kernel
theorem dX6_eat_7 : decode cX6_eat 7 = .ok (.aload_n 0, 1) := by decide +kernel
theorem dX6_eat_8 : decode cX6_eat 8 = .ok (.getfield 24, 3) := by decide +kernel
theorem dX6_init_0 : decode cX6_init 0 = .ok (.aload_n 0, 1) := by decide +kernel
theorem dX6_init_1 : decode cX6_init 1 = .ok (.invokespecial 3, 3) := by decide +kernel
theorem dX6_init_10 : decode cX6_init 10 = .ok (.putfield 11, 3) := by decide +kernel
theorem dX6_init_13 : decode cX6_init 13 = .ok (.aload_n 0, 1) := by decide +kernel
theorem dX6_init_14 : decode cX6_init 14 = .ok (.sipush 384, 3) := by decide +kernel
theorem dX6_init_17 : decode cX6_init 17 = .ok (.newarray .int, 2) := by decide +kernel
theorem dX6_init_19 : decode cX6_init 19 = .ok (.putfield 15, 3) := by decide +kernel
theorem dX6_init_22 : decode cX6_init 22 = .ok (.aload_n 0, 1) := by decide +kernel
theorem dX6_init_23 : decode cX6_init 23 = .ok (.sipush 384, 3) := by decide +kernel
theorem dX6_init_26 : decode cX6_init 26 = .ok (.newarray .int, 2) := by decide +kernel
theorem dX6_init_28 : decode cX6_init 28 = .ok (.putfield 18, 3) := by decide +kernel
theorem dX6_init_31 : decode cX6_init 31 = .ok (.aload_n 0, 1) := by decide +kernel
theorem dX6_init_32 : decode cX6_init 32 = .ok (.bipush 16, 2) := by decide +kernel
theorem dX6_init_34 : decode cX6_init 34 = .ok (.newarray .int, 2) := by decide +kernel
theorem dX6_init_36 : decode cX6_init 36 = .ok (.putfield 21, 3) := by decide +kernel
theorem dX6_init_39 : decode cX6_init 39 = .ok (.aload_n 0, 1) := by decide +kernel
theorem dX6_init_4 : decode cX6_init 4 = .ok (.aload_n 0, 1) := by decide +kernel
theorem dX6_init_40 : decode cX6_init 40 = .ok (.iconst 0, 1) := by decide +kernel
theorem dX6_init_41 : decode cX6_init 41 = .ok (.putfield 24, 3) := by decide +kernel
theorem dX6_init_44 : decode cX6_init 44 = .ok (.return_, 1) := by decide +kernel
theorem dX6_init_5 : decode cX6_init 5 = .ok (.sipush 384, 3) := by decide +kernel
theorem dX6_init_8 : decode cX6_init 8 = .ok (.newarray .int, 2) := by decide +kernel
theorem dX6_lessen_0 : decode cX6_lessen 0 = .ok (.aload_n 0, 1) := by decide +kernel
theorem dX6_lessen_1 : decode cX6_lessen 1 = .ok (.getfield 18, 3) := by decide +kernel
theorem dX6_lessen_10 : decode cX6_lessen 10 = .ok (.aload_n 0, 1) := by decide +kernel
theorem dX6_lessen_11 : decode cX6_lessen 11 = .ok (.getfield 21, 3) := by decide +kernel
theorem dX6_lessen_14 : decode cX6_lessen 14 = .ok (.aload_n 0, 1) := by decide +kernel
theorem dX6_lessen_15 : decode cX6_lessen 15 = .ok (.getfield 11, 3) := by decide +kernel
theorem dX6_lessen_18 : decode cX6_lessen 18 = .ok (.iload_n 1, 1) := by decide +kernel
theorem dX6_lessen_19 : decode cX6_lessen 19 = .ok (.iaload, 1) := by decide +kernel
theorem dX6_lessen_20 : decode cX6_lessen 20 = .ok (.dup2, 1) := by decide +kernel
theorem dX6_lessen_21 : decode cX6_lessen 21 = .ok (.iaload, 1) := by decide +kernel
theorem dX6_lessen_22 : decode cX6_lessen 22 = .ok (.iload_n 2, 1) := by decide +kernel
theorem dX6_lessen_23 : decode cX6_lessen 23 = .ok (.isub, 1) := by decide +kernel
theorem dX6_lessen_24 : decode cX6_lessen 24 = .ok (.iastore, 1) := by decide +kernel
theorem dX6_lessen_25 : decode cX6_lessen 25 = .ok (.aload_n 3, 1) := by decide +kernel
theorem dX6_lessen_26 : decode cX6_lessen 26 = .ok (.aload_n 0, 1) := by decide +kernel
theorem dX6_lessen_27 : decode cX6_lessen 27 = .ok (.getfield 15, 3) := by decide +kernel
theorem dX6_lessen_30 : decode cX6_lessen 30 = .ok (.iload_n 1, 1) := by decide +kernel
theorem dX6_lessen_31 : decode cX6_lessen 31 = .ok (.iaload, 1) := by decide +kernel
theorem dX6_lessen_32 : decode cX6_lessen 32 = .ok (.dup2, 1) := by decide +kernel
theorem dX6_lessen_33 : decode cX6_lessen 33 = .ok (.iaload, 1) := by decide +kernel
theorem dX6_lessen_34 : decode cX6_lessen 34 = .ok (.iload_n 2, 1) := by decide +kernel
theorem dX6_lessen_35 : decode cX6_lessen 35 = .ok (.iadd, 1) := by decide +kernel
theorem dX6_lessen_36 : decode cX6_lessen 36 = .ok (.iastore, 1) := by decide +kernel
theorem dX6_lessen_37 : decode cX6_lessen 37 = .ok (.return_, 1) := by decide +kernel
theorem dX6_lessen_4 : decode cX6_lessen 4 = .ok (.iload_n 1, 1) := by decide +kernel
theorem dX6_lessen_5 : decode cX6_lessen 5 = .ok (.dup2, 1) := by decide +kernel
theorem dX6_lessen_6 : decode cX6_lessen 6 = .ok (.iaload, 1) := by decide +kernel
theorem dX6_lessen_7 : decode cX6_lessen 7 = .ok (.iload_n 2, 1) := by decide +kernel
theorem dX6_lessen_8 : decode cX6_lessen 8 = .ok (.isub, 1) := by decide +kernel
theorem dX6_lessen_9 : decode cX6_lessen 9 = .ok (.iastore, 1) := by decide +kernel
theorem dX6_ofBale_0 : decode cX6_ofBale 0 = .ok (.iconst 0, 1) := by decide +kernel
theorem dX6_ofBale_1 : decode cX6_ofBale 1 = .ok (.istore_n 2, 1) := by decide +kernel
theorem dX6_ofBale_12 : decode cX6_ofBale 12 = .ok (.aload_n 0, 1) := by decide +kernel
theorem dX6_ofBale_13 : decode cX6_ofBale 13 = .ok (.getfield 15, 3) := by decide +kernel
theorem dX6_ofBale_16 : decode cX6_ofBale 16 = .ok (.iload_n 3, 1) := by decide +kernel
theorem dX6_ofBale_17 : decode cX6_ofBale 17 = .ok (.iaload, 1) := by decide +kernel
theorem dX6_ofBale_18 : decode cX6_ofBale 18 = .ok (.iload_n 1, 1) := by decide +kernel
theorem dX6_ofBale_19 : decode cX6_ofBale 19 = .ok (.if_icmp .ne 12, 3) := by decide +kernel
theorem dX6_ofBale_2 : decode cX6_ofBale 2 = .ok (.iconst 0, 1) := by decide +kernel
theorem dX6_ofBale_22 : decode cX6_ofBale 22 = .ok (.iload_n 2, 1) := by decide +kernel
theorem dX6_ofBale_23 : decode cX6_ofBale 23 = .ok (.aload_n 0, 1) := by decide +kernel
theorem dX6_ofBale_24 : decode cX6_ofBale 24 = .ok (.getfield 18, 3) := by decide +kernel
theorem dX6_ofBale_27 : decode cX6_ofBale 27 = .ok (.iload_n 3, 1) := by decide +kernel
theorem dX6_ofBale_28 : decode cX6_ofBale 28 = .ok (.iaload, 1) := by decide +kernel
theorem dX6_ofBale_29 : decode cX6_ofBale 29 = .ok (.iadd, 1) := by decide +kernel
theorem dX6_ofBale_3 : decode cX6_ofBale 3 = .ok (.istore_n 3, 1) := by decide +kernel
theorem dX6_ofBale_30 : decode cX6_ofBale 30 = .ok (.istore_n 2, 1) := by decide +kernel
theorem dX6_ofBale_31 : decode cX6_ofBale 31 = .ok (.iinc 3 1, 3) := by decide +kernel
theorem dX6_ofBale_34 : decode cX6_ofBale 34 = .ok (.goto (-30), 3) := by decide +kernel
theorem dX6_ofBale_37 : decode cX6_ofBale 37 = .ok (.iload_n 2, 1) := by decide +kernel
theorem dX6_ofBale_38 : decode cX6_ofBale 38 = .ok (.ireturn, 1) := by decide +kernel
theorem dX6_ofBale_4 : decode cX6_ofBale 4 = .ok (.iload_n 3, 1) := by decide +kernel
theorem dX6_ofBale_5 : decode cX6_ofBale 5 = .ok (.aload_n 0, 1) := by decide +kernel
theorem dX6_ofBale_6 : decode cX6_ofBale 6 = .ok (.getfield 24, 3) := by decide +kernel
theorem dX6_ofBale_9 : decode cX6_ofBale 9 = .ok (.if_icmp .ge 28, 3) := by decide +kernel
theorem dX6_ofSort_0 : decode cX6_ofSort 0 = .ok (.aload_n 0, 1) := by decide +kernel
theorem dX6_ofSort_1 : decode cX6_ofSort 1 = .ok (.getfield 21, 3) := by decide +kernel
theorem dX6_ofSort_4 : decode cX6_ofSort 4 = .ok (.iload_n 1, 1) := by decide +kernel
theorem dX6_ofSort_5 : decode cX6_ofSort 5 = .ok (.iaload, 1) := by decide +kernel
theorem dX6_ofSort_6 : decode cX6_ofSort 6 = .ok (.ireturn, 1) := by decide +kernel
theorem dX6_takeOut_0 : decode cX6_takeOut 0 = .ok (.iload_n 2, 1) := by decide +kernel
theorem dX6_takeOut_1 : decode cX6_takeOut 1 = .ok (.istore 4, 2) := by decide +kernel
theorem dX6_takeOut_12 : decode cX6_takeOut 12 = .ok (.if_icmp .ge 55, 3) := by decide +kernel
theorem dX6_takeOut_15 : decode cX6_takeOut 15 = .ok (.iload 4, 2) := by decide +kernel
theorem dX6_takeOut_17 : decode cX6_takeOut 17 = .ok (.ifCond .le 50, 3) := by decide +kernel
theorem dX6_takeOut_20 : decode cX6_takeOut 20 = .ok (.aload_n 0, 1) := by decide +kernel
theorem dX6_takeOut_21 : decode cX6_takeOut 21 = .ok (.getfield 11, 3) := by decide +kernel
theorem dX6_takeOut_24 : decode cX6_takeOut 24 = .ok (.iload 5, 2) := by decide +kernel
theorem dX6_takeOut_26 : decode cX6_takeOut 26 = .ok (.iaload, 1) := by decide +kernel
theorem dX6_takeOut_27 : decode cX6_takeOut 27 = .ok (.iload_n 1, 1) := by decide +kernel
theorem dX6_takeOut_28 : decode cX6_takeOut 28 = .ok (.if_icmp .ne 33, 3) := by decide +kernel
theorem dX6_takeOut_3 : decode cX6_takeOut 3 = .ok (.iconst 0, 1) := by decide +kernel
theorem dX6_takeOut_31 : decode cX6_takeOut 31 = .ok (.iload 4, 2) := by decide +kernel
theorem dX6_takeOut_33 : decode cX6_takeOut 33 = .ok (.aload_n 0, 1) := by decide +kernel
theorem dX6_takeOut_34 : decode cX6_takeOut 34 = .ok (.getfield 18, 3) := by decide +kernel
theorem dX6_takeOut_37 : decode cX6_takeOut 37 = .ok (.iload 5, 2) := by decide +kernel
theorem dX6_takeOut_39 : decode cX6_takeOut 39 = .ok (.iaload, 1) := by decide +kernel
theorem dX6_takeOut_4 : decode cX6_takeOut 4 = .ok (.istore 5, 2) := by decide +kernel
theorem dX6_takeOut_40 : decode cX6_takeOut 40 = .ok (.invokestatic 28, 3) := by decide +kernel
theorem dX6_takeOut_43 : decode cX6_takeOut 43 = .ok (.istore 6, 2) := by decide +kernel
theorem dX6_takeOut_45 : decode cX6_takeOut 45 = .ok (.aload_n 0, 1) := by decide +kernel
theorem dX6_takeOut_46 : decode cX6_takeOut 46 = .ok (.iload 5, 2) := by decide +kernel
theorem dX6_takeOut_48 : decode cX6_takeOut 48 = .ok (.iload 6, 2) := by decide +kernel
theorem dX6_takeOut_50 : decode cX6_takeOut 50 = .ok (.aload_n 3, 1) := by decide +kernel
theorem dX6_takeOut_51 : decode cX6_takeOut 51 = .ok (.invokevirtual 34, 3) := by decide +kernel
theorem dX6_takeOut_54 : decode cX6_takeOut 54 = .ok (.iload 4, 2) := by decide +kernel
theorem dX6_takeOut_56 : decode cX6_takeOut 56 = .ok (.iload 6, 2) := by decide +kernel
theorem dX6_takeOut_58 : decode cX6_takeOut 58 = .ok (.isub, 1) := by decide +kernel
theorem dX6_takeOut_59 : decode cX6_takeOut 59 = .ok (.istore 4, 2) := by decide +kernel
theorem dX6_takeOut_6 : decode cX6_takeOut 6 = .ok (.iload 5, 2) := by decide +kernel
theorem dX6_takeOut_61 : decode cX6_takeOut 61 = .ok (.iinc 5 1, 3) := by decide +kernel
theorem dX6_takeOut_64 : decode cX6_takeOut 64 = .ok (.goto (-58), 3) := by decide +kernel
theorem dX6_takeOut_67 : decode cX6_takeOut 67 = .ok (.return_, 1) := by decide +kernel
theorem dX6_takeOut_8 : decode cX6_takeOut 8 = .ok (.aload_n 0, 1) := by decide +kernel
theorem dX6_takeOut_9 : decode cX6_takeOut 9 = .ok (.getfield 24, 3) := by decide +kernel
theorem dX6_withPounds_0 : decode cX6_withPounds 0 = .ok (.iconst 0, 1) := by decide +kernel
theorem dX6_withPounds_1 : decode cX6_withPounds 1 = .ok (.istore_n 1, 1) := by decide +kernel
theorem dX6_withPounds_12 : decode cX6_withPounds 12 = .ok (.aload_n 0, 1) := by decide +kernel
theorem dX6_withPounds_13 : decode cX6_withPounds 13 = .ok (.getfield 18, 3) := by decide +kernel
theorem dX6_withPounds_16 : decode cX6_withPounds 16 = .ok (.iload_n 2, 1) := by decide +kernel
theorem dX6_withPounds_17 : decode cX6_withPounds 17 = .ok (.iaload, 1) := by decide +kernel
theorem dX6_withPounds_18 : decode cX6_withPounds 18 = .ok (.ifCond .le 6, 3) := by decide +kernel
theorem dX6_withPounds_2 : decode cX6_withPounds 2 = .ok (.iconst 0, 1) := by decide +kernel
theorem dX6_withPounds_21 : decode cX6_withPounds 21 = .ok (.iinc 1 1, 3) := by decide +kernel
theorem dX6_withPounds_24 : decode cX6_withPounds 24 = .ok (.iinc 2 1, 3) := by decide +kernel
theorem dX6_withPounds_27 : decode cX6_withPounds 27 = .ok (.goto (-23), 3) := by decide +kernel
theorem dX6_withPounds_3 : decode cX6_withPounds 3 = .ok (.istore_n 2, 1) := by decide +kernel
theorem dX6_withPounds_30 : decode cX6_withPounds 30 = .ok (.iload_n 1, 1) := by decide +kernel
theorem dX6_withPounds_31 : decode cX6_withPounds 31 = .ok (.ireturn, 1) := by decide +kernel
theorem dX6_withPounds_4 : decode cX6_withPounds 4 = .ok (.iload_n 2, 1) := by decide +kernel
theorem dX6_withPounds_5 : decode cX6_withPounds 5 = .ok (.aload_n 0, 1) := by decide +kernel
theorem dX6_withPounds_6 : decode cX6_withPounds 6 = .ok (.getfield 24, 3) := by decide +kernel
theorem dX6_withPounds_9 : decode cX6_withPounds 9 = .ok (.if_icmp .ge 21, 3) := by decide +kernel
theorem dX7_begin_0 : decode cX7_begin 0 = .ok (.aload_n 0, 1) := by decide +kernel
theorem dX7_begin_1 : decode cX7_begin 1 = .ok (.iconst 0, 1) := by decide +kernel
theorem dX7_begin_10 : decode cX7_begin 10 = .ok (.aload_n 0, 1) := by decide +kernel
theorem dX7_begin_11 : decode cX7_begin 11 = .ok (.iconst 0, 1) := by decide +kernel
theorem dX7_begin_12 : decode cX7_begin 12 = .ok (.putfield 37, 3) := by decide +kernel
theorem dX7_begin_15 : decode cX7_begin 15 = .ok (.aload_n 0, 1) := by decide +kernel
theorem dX7_begin_16 : decode cX7_begin 16 = .ok (.iconst 0, 1) := by decide +kernel
theorem dX7_begin_17 : decode cX7_begin 17 = .ok (.putfield 54, 3) := by decide +kernel
theorem dX7_begin_2 : decode cX7_begin 2 = .ok (.putfield 48, 3) := by decide +kernel
theorem dX7_begin_20 : decode cX7_begin 20 = .ok (.aload_n 0, 1) := by decide +kernel
theorem dX7_begin_21 : decode cX7_begin 21 = .ok (.getfield 18, 3) := by decide +kernel
theorem dX7_begin_24 : decode cX7_begin 24 = .ok (.iconst 0, 1) := by decide +kernel
theorem dX7_begin_25 : decode cX7_begin 25 = .ok (.iconst 0, 1) := by decide +kernel
theorem dX7_begin_26 : decode cX7_begin 26 = .ok (.bastore, 1) := by decide +kernel
theorem dX7_begin_27 : decode cX7_begin 27 = .ok (.aload_n 0, 1) := by decide +kernel
theorem dX7_begin_28 : decode cX7_begin 28 = .ok (.iconst 1, 1) := by decide +kernel
theorem dX7_begin_29 : decode cX7_begin 29 = .ok (.putfield 26, 3) := by decide +kernel
theorem dX7_begin_32 : decode cX7_begin 32 = .ok (.aload_n 0, 1) := by decide +kernel
theorem dX7_begin_33 : decode cX7_begin 33 = .ok (.iload_n 1, 1) := by decide +kernel
theorem dX7_begin_34 : decode cX7_begin 34 = .ok (.putfield 57, 3) := by decide +kernel
theorem dX7_begin_37 : decode cX7_begin 37 = .ok (.return_, 1) := by decide +kernel
theorem dX7_begin_5 : decode cX7_begin 5 = .ok (.aload_n 0, 1) := by decide +kernel
theorem dX7_begin_6 : decode cX7_begin 6 = .ok (.iconst 0, 1) := by decide +kernel
theorem dX7_begin_7 : decode cX7_begin 7 = .ok (.putfield 51, 3) := by decide +kernel
theorem dX7_begins_0 : decode cX7_begins 0 = .ok (.iload_n 1, 1) := by decide +kernel
theorem dX7_begins_1 : decode cX7_begins 1 = .ok (.bipush 33, 2) := by decide +kernel
theorem dX7_begins_102 : decode cX7_begins 102 = .ok (.aload_n 0, 1) := by decide +kernel
theorem dX7_begins_103 : decode cX7_begins 103 = .ok (.iload_n 1, 1) := by decide +kernel
theorem dX7_begins_104 : decode cX7_begins 104 = .ok (.ineg, 1) := by decide +kernel
theorem dX7_begins_105 : decode cX7_begins 105 = .ok (.invokevirtual 45, 3) := by decide +kernel
theorem dX7_begins_108 : decode cX7_begins 108 = .ok (.aload_n 0, 1) := by decide +kernel
theorem dX7_begins_109 : decode cX7_begins 109 = .ok (.iconst 0, 1) := by decide +kernel
theorem dX7_begins_110 : decode cX7_begins 110 = .ok (.putfield 54, 3) := by decide +kernel
theorem dX7_begins_113 : decode cX7_begins 113 = .ok (.goto 5, 3) := by decide +kernel
theorem dX7_begins_116 : decode cX7_begins 116 = .ok (.iconst 0, 1) := by decide +kernel
theorem dX7_begins_117 : decode cX7_begins 117 = .ok (.ireturn, 1) := by decide +kernel
theorem dX7_begins_118 : decode cX7_begins 118 = .ok (.aload_n 0, 1) := by decide +kernel
theorem dX7_begins_119 : decode cX7_begins 119 = .ok (.iconst 0, 1) := by decide +kernel
theorem dX7_begins_12 : decode cX7_begins 12 = .ok (.aload_n 0, 1) := by decide +kernel
theorem dX7_begins_120 : decode cX7_begins 120 = .ok (.putfield 26, 3) := by decide +kernel
theorem dX7_begins_123 : decode cX7_begins 123 = .ok (.iconst 1, 1) := by decide +kernel
theorem dX7_begins_124 : decode cX7_begins 124 = .ok (.ireturn, 1) := by decide +kernel
theorem dX7_begins_13 : decode cX7_begins 13 = .ok (.iload_n 1, 1) := by decide +kernel
theorem dX7_begins_14 : decode cX7_begins 14 = .ok (.bipush 45, 2) := by decide +kernel
theorem dX7_begins_16 : decode cX7_begins 16 = .ok (.if_icmp .ne 8, 3) := by decide +kernel
theorem dX7_begins_19 : decode cX7_begins 19 = .ok (.bipush 126, 2) := by decide +kernel
theorem dX7_begins_21 : decode cX7_begins 21 = .ok (.goto 4, 3) := by decide +kernel
theorem dX7_begins_24 : decode cX7_begins 24 = .ok (.iload_n 1, 1) := by decide +kernel
theorem dX7_begins_25 : decode cX7_begins 25 = .ok (.invokevirtual 60, 3) := by decide +kernel
theorem dX7_begins_28 : decode cX7_begins 28 = .ok (.iconst 1, 1) := by decide +kernel
theorem dX7_begins_29 : decode cX7_begins 29 = .ok (.ireturn, 1) := by decide +kernel
theorem dX7_begins_3 : decode cX7_begins 3 = .ok (.if_icmp .eq 9, 3) := by decide +kernel
theorem dX7_begins_30 : decode cX7_begins 30 = .ok (.iload_n 1, 1) := by decide +kernel
theorem dX7_begins_31 : decode cX7_begins 31 = .ok (.bipush 40, 2) := by decide +kernel
theorem dX7_begins_33 : decode cX7_begins 33 = .ok (.if_icmp .ne 39, 3) := by decide +kernel
theorem dX7_begins_36 : decode cX7_begins 36 = .ok (.aload_n 0, 1) := by decide +kernel
theorem dX7_begins_37 : decode cX7_begins 37 = .ok (.iload_n 1, 1) := by decide +kernel
theorem dX7_begins_38 : decode cX7_begins 38 = .ok (.invokevirtual 60, 3) := by decide +kernel
theorem dX7_begins_41 : decode cX7_begins 41 = .ok (.aload_n 0, 1) := by decide +kernel
theorem dX7_begins_42 : decode cX7_begins 42 = .ok (.dup, 1) := by decide +kernel
theorem dX7_begins_43 : decode cX7_begins 43 = .ok (.getfield 37, 3) := by decide +kernel
theorem dX7_begins_46 : decode cX7_begins 46 = .ok (.iconst 1, 1) := by decide +kernel
theorem dX7_begins_47 : decode cX7_begins 47 = .ok (.iadd, 1) := by decide +kernel
theorem dX7_begins_48 : decode cX7_begins 48 = .ok (.putfield 37, 3) := by decide +kernel
theorem dX7_begins_51 : decode cX7_begins 51 = .ok (.aload_n 0, 1) := by decide +kernel
theorem dX7_begins_52 : decode cX7_begins 52 = .ok (.getfield 37, 3) := by decide +kernel
theorem dX7_begins_55 : decode cX7_begins 55 = .ok (.bipush 64, 2) := by decide +kernel
theorem dX7_begins_57 : decode cX7_begins 57 = .ok (.if_icmp .ge 13, 3) := by decide +kernel
theorem dX7_begins_6 : decode cX7_begins 6 = .ok (.iload_n 1, 1) := by decide +kernel
theorem dX7_begins_60 : decode cX7_begins 60 = .ok (.aload_n 0, 1) := by decide +kernel
theorem dX7_begins_61 : decode cX7_begins 61 = .ok (.getfield 18, 3) := by decide +kernel
theorem dX7_begins_64 : decode cX7_begins 64 = .ok (.aload_n 0, 1) := by decide +kernel
theorem dX7_begins_65 : decode cX7_begins 65 = .ok (.getfield 37, 3) := by decide +kernel
theorem dX7_begins_68 : decode cX7_begins 68 = .ok (.iconst 0, 1) := by decide +kernel
theorem dX7_begins_69 : decode cX7_begins 69 = .ok (.bastore, 1) := by decide +kernel
theorem dX7_begins_7 : decode cX7_begins 7 = .ok (.bipush 45, 2) := by decide +kernel
theorem dX7_begins_70 : decode cX7_begins 70 = .ok (.iconst 1, 1) := by decide +kernel
theorem dX7_begins_71 : decode cX7_begins 71 = .ok (.ireturn, 1) := by decide +kernel
theorem dX7_begins_72 : decode cX7_begins 72 = .ok (.iload_n 1, 1) := by decide +kernel
theorem dX7_begins_73 : decode cX7_begins 73 = .ok (.invokestatic 63, 3) := by decide +kernel
theorem dX7_begins_76 : decode cX7_begins 76 = .ok (.ifCond .eq 19, 3) := by decide +kernel
theorem dX7_begins_79 : decode cX7_begins 79 = .ok (.aload_n 0, 1) := by decide +kernel
theorem dX7_begins_80 : decode cX7_begins 80 = .ok (.iload_n 1, 1) := by decide +kernel
theorem dX7_begins_81 : decode cX7_begins 81 = .ok (.bipush 48, 2) := by decide +kernel
theorem dX7_begins_83 : decode cX7_begins 83 = .ok (.isub, 1) := by decide +kernel
theorem dX7_begins_84 : decode cX7_begins 84 = .ok (.invokevirtual 45, 3) := by decide +kernel
theorem dX7_begins_87 : decode cX7_begins 87 = .ok (.aload_n 0, 1) := by decide +kernel
theorem dX7_begins_88 : decode cX7_begins 88 = .ok (.iconst 1, 1) := by decide +kernel
theorem dX7_begins_89 : decode cX7_begins 89 = .ok (.putfield 54, 3) := by decide +kernel
theorem dX7_begins_9 : decode cX7_begins 9 = .ok (.if_icmp .ne 21, 3) := by decide +kernel
theorem dX7_begins_92 : decode cX7_begins 92 = .ok (.goto 26, 3) := by decide +kernel
theorem dX7_begins_95 : decode cX7_begins 95 = .ok (.iload_n 1, 1) := by decide +kernel
theorem dX7_begins_96 : decode cX7_begins 96 = .ok (.invokestatic 66, 3) := by decide +kernel
theorem dX7_begins_99 : decode cX7_begins 99 = .ok (.ifCond .eq 17, 3) := by decide +kernel
theorem dX7_bringOut_0 : decode cX7_bringOut 0 = .ok (.aload_n 0, 1) := by decide +kernel
theorem dX7_bringOut_1 : decode cX7_bringOut 1 = .ok (.getfield 51, 3) := by decide +kernel
theorem dX7_bringOut_11 : decode cX7_bringOut 11 = .ok (.aload_n 0, 1) := by decide +kernel
theorem dX7_bringOut_12 : decode cX7_bringOut 12 = .ok (.getfield 51, 3) := by decide +kernel
theorem dX7_bringOut_15 : decode cX7_bringOut 15 = .ok (.iconst 1, 1) := by decide +kernel
theorem dX7_bringOut_16 : decode cX7_bringOut 16 = .ok (.isub, 1) := by decide +kernel
theorem dX7_bringOut_17 : decode cX7_bringOut 17 = .ok (.iaload, 1) := by decide +kernel
theorem dX7_bringOut_18 : decode cX7_bringOut 18 = .ok (.invokestatic 85, 3) := by decide +kernel
theorem dX7_bringOut_21 : decode cX7_bringOut 21 = .ok (.iload_n 1, 1) := by decide +kernel
theorem dX7_bringOut_22 : decode cX7_bringOut 22 = .ok (.if_icmp .lt 30, 3) := by decide +kernel
theorem dX7_bringOut_25 : decode cX7_bringOut 25 = .ok (.aload_n 0, 1) := by decide +kernel
theorem dX7_bringOut_26 : decode cX7_bringOut 26 = .ok (.dup, 1) := by decide +kernel
theorem dX7_bringOut_27 : decode cX7_bringOut 27 = .ok (.getfield 51, 3) := by decide +kernel
theorem dX7_bringOut_30 : decode cX7_bringOut 30 = .ok (.iconst 1, 1) := by decide +kernel
theorem dX7_bringOut_31 : decode cX7_bringOut 31 = .ok (.isub, 1) := by decide +kernel
theorem dX7_bringOut_32 : decode cX7_bringOut 32 = .ok (.putfield 51, 3) := by decide +kernel
theorem dX7_bringOut_35 : decode cX7_bringOut 35 = .ok (.aload_n 0, 1) := by decide +kernel
theorem dX7_bringOut_36 : decode cX7_bringOut 36 = .ok (.aload_n 0, 1) := by decide +kernel
theorem dX7_bringOut_37 : decode cX7_bringOut 37 = .ok (.getfield 15, 3) := by decide +kernel
theorem dX7_bringOut_4 : decode cX7_bringOut 4 = .ok (.ifCond .le 48, 3) := by decide +kernel
theorem dX7_bringOut_40 : decode cX7_bringOut 40 = .ok (.aload_n 0, 1) := by decide +kernel
theorem dX7_bringOut_41 : decode cX7_bringOut 41 = .ok (.getfield 51, 3) := by decide +kernel
theorem dX7_bringOut_44 : decode cX7_bringOut 44 = .ok (.iaload, 1) := by decide +kernel
theorem dX7_bringOut_45 : decode cX7_bringOut 45 = .ok (.ineg, 1) := by decide +kernel
theorem dX7_bringOut_46 : decode cX7_bringOut 46 = .ok (.invokevirtual 45, 3) := by decide +kernel
theorem dX7_bringOut_49 : decode cX7_bringOut 49 = .ok (.goto (-49), 3) := by decide +kernel
theorem dX7_bringOut_52 : decode cX7_bringOut 52 = .ok (.return_, 1) := by decide +kernel
theorem dX7_bringOut_7 : decode cX7_bringOut 7 = .ok (.aload_n 0, 1) := by decide +kernel
theorem dX7_bringOut_8 : decode cX7_bringOut 8 = .ok (.getfield 15, 3) := by decide +kernel
theorem dX7_close_0 : decode cX7_close 0 = .ok (.aload_n 0, 1) := by decide +kernel
theorem dX7_close_1 : decode cX7_close 1 = .ok (.getfield 37, 3) := by decide +kernel
theorem dX7_close_10 : decode cX7_close 10 = .ok (.iconst 1, 1) := by decide +kernel
theorem dX7_close_11 : decode cX7_close 11 = .ok (.invokevirtual 41, 3) := by decide +kernel
theorem dX7_close_14 : decode cX7_close 14 = .ok (.aload_n 0, 1) := by decide +kernel
theorem dX7_close_15 : decode cX7_close 15 = .ok (.getfield 51, 3) := by decide +kernel
theorem dX7_close_18 : decode cX7_close 18 = .ok (.ifCond .le 13, 3) := by decide +kernel
theorem dX7_close_21 : decode cX7_close 21 = .ok (.aload_n 0, 1) := by decide +kernel
theorem dX7_close_22 : decode cX7_close 22 = .ok (.dup, 1) := by decide +kernel
theorem dX7_close_23 : decode cX7_close 23 = .ok (.getfield 51, 3) := by decide +kernel
theorem dX7_close_26 : decode cX7_close 26 = .ok (.iconst 1, 1) := by decide +kernel
theorem dX7_close_27 : decode cX7_close 27 = .ok (.isub, 1) := by decide +kernel
theorem dX7_close_28 : decode cX7_close 28 = .ok (.putfield 51, 3) := by decide +kernel
theorem dX7_close_31 : decode cX7_close 31 = .ok (.aload_n 0, 1) := by decide +kernel
theorem dX7_close_32 : decode cX7_close 32 = .ok (.dup, 1) := by decide +kernel
theorem dX7_close_33 : decode cX7_close 33 = .ok (.getfield 37, 3) := by decide +kernel
theorem dX7_close_36 : decode cX7_close 36 = .ok (.iconst 1, 1) := by decide +kernel
theorem dX7_close_37 : decode cX7_close 37 = .ok (.isub, 1) := by decide +kernel
theorem dX7_close_38 : decode cX7_close 38 = .ok (.putfield 37, 3) := by decide +kernel
theorem dX7_close_4 : decode cX7_close 4 = .ok (.ifCond .ne 5, 3) := by decide +kernel
theorem dX7_close_41 : decode cX7_close 41 = .ok (.iconst 1, 1) := by decide +kernel
theorem dX7_close_42 : decode cX7_close 42 = .ok (.ireturn, 1) := by decide +kernel
theorem dX7_close_7 : decode cX7_close 7 = .ok (.iconst 0, 1) := by decide +kernel
theorem dX7_close_8 : decode cX7_close 8 = .ok (.ireturn, 1) := by decide +kernel
theorem dX7_close_9 : decode cX7_close 9 = .ok (.aload_n 0, 1) := by decide +kernel
theorem dX7_emit_0 : decode cX7_emit 0 = .ok (.aload_n 0, 1) := by decide +kernel
theorem dX7_emit_1 : decode cX7_emit 1 = .ok (.getfield 48, 3) := by decide +kernel
theorem dX7_emit_10 : decode cX7_emit 10 = .ok (.getfield 11, 3) := by decide +kernel
theorem dX7_emit_13 : decode cX7_emit 13 = .ok (.aload_n 0, 1) := by decide +kernel
theorem dX7_emit_14 : decode cX7_emit 14 = .ok (.getfield 48, 3) := by decide +kernel
theorem dX7_emit_17 : decode cX7_emit 17 = .ok (.iload_n 1, 1) := by decide +kernel
theorem dX7_emit_18 : decode cX7_emit 18 = .ok (.iastore, 1) := by decide +kernel
theorem dX7_emit_19 : decode cX7_emit 19 = .ok (.aload_n 0, 1) := by decide +kernel
theorem dX7_emit_20 : decode cX7_emit 20 = .ok (.dup, 1) := by decide +kernel
theorem dX7_emit_21 : decode cX7_emit 21 = .ok (.getfield 48, 3) := by decide +kernel
theorem dX7_emit_24 : decode cX7_emit 24 = .ok (.iconst 1, 1) := by decide +kernel
theorem dX7_emit_25 : decode cX7_emit 25 = .ok (.iadd, 1) := by decide +kernel
theorem dX7_emit_26 : decode cX7_emit 26 = .ok (.putfield 48, 3) := by decide +kernel
theorem dX7_emit_29 : decode cX7_emit 29 = .ok (.return_, 1) := by decide +kernel
theorem dX7_emit_4 : decode cX7_emit 4 = .ok (.bipush 64, 2) := by decide +kernel
theorem dX7_emit_6 : decode cX7_emit 6 = .ok (.if_icmp .ge 23, 3) := by decide +kernel
theorem dX7_emit_9 : decode cX7_emit 9 = .ok (.aload_n 0, 1) := by decide +kernel
theorem dX7_goesOn_0 : decode cX7_goesOn 0 = .ok (.iload_n 1, 1) := by decide +kernel
theorem dX7_goesOn_1 : decode cX7_goesOn 1 = .ok (.invokestatic 63, 3) := by decide +kernel
theorem dX7_goesOn_11 : decode cX7_goesOn 11 = .ok (.isub, 1) := by decide +kernel
theorem dX7_goesOn_12 : decode cX7_goesOn 12 = .ok (.invokevirtual 69, 3) := by decide +kernel
theorem dX7_goesOn_15 : decode cX7_goesOn 15 = .ok (.ireturn, 1) := by decide +kernel
theorem dX7_goesOn_16 : decode cX7_goesOn 16 = .ok (.aload_n 0, 1) := by decide +kernel
theorem dX7_goesOn_17 : decode cX7_goesOn 17 = .ok (.iconst 0, 1) := by decide +kernel
theorem dX7_goesOn_18 : decode cX7_goesOn 18 = .ok (.putfield 54, 3) := by decide +kernel
theorem dX7_goesOn_21 : decode cX7_goesOn 21 = .ok (.iload_n 1, 1) := by decide +kernel
theorem dX7_goesOn_22 : decode cX7_goesOn 22 = .ok (.bipush 41, 2) := by decide +kernel
theorem dX7_goesOn_24 : decode cX7_goesOn 24 = .ok (.if_icmp .ne 8, 3) := by decide +kernel
theorem dX7_goesOn_27 : decode cX7_goesOn 27 = .ok (.aload_n 0, 1) := by decide +kernel
theorem dX7_goesOn_28 : decode cX7_goesOn 28 = .ok (.invokevirtual 72, 3) := by decide +kernel
theorem dX7_goesOn_31 : decode cX7_goesOn 31 = .ok (.ireturn, 1) := by decide +kernel
theorem dX7_goesOn_32 : decode cX7_goesOn 32 = .ok (.iload_n 1, 1) := by decide +kernel
theorem dX7_goesOn_33 : decode cX7_goesOn 33 = .ok (.bipush 59, 2) := by decide +kernel
theorem dX7_goesOn_35 : decode cX7_goesOn 35 = .ok (.if_icmp .ne 8, 3) := by decide +kernel
theorem dX7_goesOn_38 : decode cX7_goesOn 38 = .ok (.aload_n 0, 1) := by decide +kernel
theorem dX7_goesOn_39 : decode cX7_goesOn 39 = .ok (.invokevirtual 76, 3) := by decide +kernel
theorem dX7_goesOn_4 : decode cX7_goesOn 4 = .ok (.ifCond .eq 12, 3) := by decide +kernel
theorem dX7_goesOn_42 : decode cX7_goesOn 42 = .ok (.ireturn, 1) := by decide +kernel
theorem dX7_goesOn_43 : decode cX7_goesOn 43 = .ok (.iload_n 1, 1) := by decide +kernel
theorem dX7_goesOn_44 : decode cX7_goesOn 44 = .ok (.invokestatic 79, 3) := by decide +kernel
theorem dX7_goesOn_47 : decode cX7_goesOn 47 = .ok (.ifCond .eq 15, 3) := by decide +kernel
theorem dX7_goesOn_50 : decode cX7_goesOn 50 = .ok (.aload_n 0, 1) := by decide +kernel
theorem dX7_goesOn_51 : decode cX7_goesOn 51 = .ok (.iload_n 1, 1) := by decide +kernel
theorem dX7_goesOn_52 : decode cX7_goesOn 52 = .ok (.invokevirtual 82, 3) := by decide +kernel
theorem dX7_goesOn_55 : decode cX7_goesOn 55 = .ok (.ifCond .eq 7, 3) := by decide +kernel
theorem dX7_goesOn_58 : decode cX7_goesOn 58 = .ok (.iconst 1, 1) := by decide +kernel
theorem dX7_goesOn_59 : decode cX7_goesOn 59 = .ok (.goto 4, 3) := by decide +kernel
theorem dX7_goesOn_62 : decode cX7_goesOn 62 = .ok (.iconst 0, 1) := by decide +kernel
theorem dX7_goesOn_63 : decode cX7_goesOn 63 = .ok (.ireturn, 1) := by decide +kernel
theorem dX7_goesOn_7 : decode cX7_goesOn 7 = .ok (.aload_n 0, 1) := by decide +kernel
theorem dX7_goesOn_8 : decode cX7_goesOn 8 = .ok (.iload_n 1, 1) := by decide +kernel
theorem dX7_goesOn_9 : decode cX7_goesOn 9 = .ok (.bipush 48, 2) := by decide +kernel
theorem dX7_hold_0 : decode cX7_hold 0 = .ok (.aload_n 0, 1) := by decide +kernel
theorem dX7_hold_1 : decode cX7_hold 1 = .ok (.getfield 51, 3) := by decide +kernel
theorem dX7_hold_10 : decode cX7_hold 10 = .ok (.getfield 15, 3) := by decide +kernel
theorem dX7_hold_13 : decode cX7_hold 13 = .ok (.aload_n 0, 1) := by decide +kernel
theorem dX7_hold_14 : decode cX7_hold 14 = .ok (.getfield 51, 3) := by decide +kernel
theorem dX7_hold_17 : decode cX7_hold 17 = .ok (.iload_n 1, 1) := by decide +kernel
theorem dX7_hold_18 : decode cX7_hold 18 = .ok (.iastore, 1) := by decide +kernel
theorem dX7_hold_19 : decode cX7_hold 19 = .ok (.aload_n 0, 1) := by decide +kernel
theorem dX7_hold_20 : decode cX7_hold 20 = .ok (.dup, 1) := by decide +kernel
theorem dX7_hold_21 : decode cX7_hold 21 = .ok (.getfield 51, 3) := by decide +kernel
theorem dX7_hold_24 : decode cX7_hold 24 = .ok (.iconst 1, 1) := by decide +kernel
theorem dX7_hold_25 : decode cX7_hold 25 = .ok (.iadd, 1) := by decide +kernel
theorem dX7_hold_26 : decode cX7_hold 26 = .ok (.putfield 51, 3) := by decide +kernel
theorem dX7_hold_29 : decode cX7_hold 29 = .ok (.return_, 1) := by decide +kernel
theorem dX7_hold_4 : decode cX7_hold 4 = .ok (.bipush 64, 2) := by decide +kernel
theorem dX7_hold_6 : decode cX7_hold 6 = .ok (.if_icmp .ge 23, 3) := by decide +kernel
theorem dX7_hold_9 : decode cX7_hold 9 = .ok (.aload_n 0, 1) := by decide +kernel
theorem dX7_init_0 : decode cX7_init 0 = .ok (.aload_n 0, 1) := by decide +kernel
theorem dX7_init_1 : decode cX7_init 1 = .ok (.invokespecial 3, 3) := by decide +kernel
theorem dX7_init_12 : decode cX7_init 12 = .ok (.aload_n 0, 1) := by decide +kernel
theorem dX7_init_13 : decode cX7_init 13 = .ok (.bipush 64, 2) := by decide +kernel
theorem dX7_init_15 : decode cX7_init 15 = .ok (.newarray .int, 2) := by decide +kernel
theorem dX7_init_17 : decode cX7_init 17 = .ok (.putfield 15, 3) := by decide +kernel
theorem dX7_init_20 : decode cX7_init 20 = .ok (.aload_n 0, 1) := by decide +kernel
theorem dX7_init_21 : decode cX7_init 21 = .ok (.bipush 64, 2) := by decide +kernel
theorem dX7_init_23 : decode cX7_init 23 = .ok (.newarray .boolean, 2) := by decide +kernel
theorem dX7_init_25 : decode cX7_init 25 = .ok (.putfield 18, 3) := by decide +kernel
theorem dX7_init_28 : decode cX7_init 28 = .ok (.return_, 1) := by decide +kernel
theorem dX7_init_4 : decode cX7_init 4 = .ok (.aload_n 0, 1) := by decide +kernel
theorem dX7_init_5 : decode cX7_init 5 = .ok (.bipush 64, 2) := by decide +kernel
theorem dX7_init_7 : decode cX7_init 7 = .ok (.newarray .int, 2) := by decide +kernel
theorem dX7_init_9 : decode cX7_init 9 = .ok (.putfield 11, 3) := by decide +kernel
theorem dX7_isDigit_0 : decode cX7_isDigit 0 = .ok (.iload_n 0, 1) := by decide +kernel
theorem dX7_isDigit_1 : decode cX7_isDigit 1 = .ok (.bipush 48, 2) := by decide +kernel
theorem dX7_isDigit_3 : decode cX7_isDigit 3 = .ok (.bipush 57, 2) := by decide +kernel
theorem dX7_isDigit_5 : decode cX7_isDigit 5 = .ok (.invokestatic 89, 3) := by decide +kernel
theorem dX7_isDigit_8 : decode cX7_isDigit 8 = .ok (.ireturn, 1) := by decide +kernel
theorem dX7_isLetter_0 : decode cX7_isLetter 0 = .ok (.iload_n 0, 1) := by decide +kernel
theorem dX7_isLetter_1 : decode cX7_isLetter 1 = .ok (.tableswitch 117 98 122 #[115, 117, 115, 115, 117, 115, 117, 117, 117, 115, 115, 115, 115, 115, 115, 115, 115, 115, 117, 117, 115, 115, 117, 117, 115], 115) := by decide +kernel
theorem dX7_isLetter_116 : decode cX7_isLetter 116 = .ok (.iconst 1, 1) := by decide +kernel
theorem dX7_isLetter_117 : decode cX7_isLetter 117 = .ok (.ireturn, 1) := by decide +kernel
theorem dX7_isLetter_118 : decode cX7_isLetter 118 = .ok (.iconst 0, 1) := by decide +kernel
theorem dX7_isLetter_119 : decode cX7_isLetter 119 = .ok (.ireturn, 1) := by decide +kernel
theorem dX7_join_0 : decode cX7_join 0 = .ok (.iload_n 1, 1) := by decide +kernel
theorem dX7_join_1 : decode cX7_join 1 = .ok (.invokestatic 85, 3) := by decide +kernel
theorem dX7_join_11 : decode cX7_join 11 = .ok (.if_icmp .ge 20, 3) := by decide +kernel
theorem dX7_join_14 : decode cX7_join 14 = .ok (.iload_n 2, 1) := by decide +kernel
theorem dX7_join_15 : decode cX7_join 15 = .ok (.iconst 3, 1) := by decide +kernel
theorem dX7_join_16 : decode cX7_join 16 = .ok (.if_icmp .ne 17, 3) := by decide +kernel
theorem dX7_join_19 : decode cX7_join 19 = .ok (.aload_n 0, 1) := by decide +kernel
theorem dX7_join_20 : decode cX7_join 20 = .ok (.getfield 18, 3) := by decide +kernel
theorem dX7_join_23 : decode cX7_join 23 = .ok (.aload_n 0, 1) := by decide +kernel
theorem dX7_join_24 : decode cX7_join 24 = .ok (.getfield 37, 3) := by decide +kernel
theorem dX7_join_27 : decode cX7_join 27 = .ok (.baload, 1) := by decide +kernel
theorem dX7_join_28 : decode cX7_join 28 = .ok (.ifCond .eq 5, 3) := by decide +kernel
theorem dX7_join_31 : decode cX7_join 31 = .ok (.iconst 0, 1) := by decide +kernel
theorem dX7_join_32 : decode cX7_join 32 = .ok (.ireturn, 1) := by decide +kernel
theorem dX7_join_33 : decode cX7_join 33 = .ok (.iload_n 2, 1) := by decide +kernel
theorem dX7_join_34 : decode cX7_join 34 = .ok (.iconst 3, 1) := by decide +kernel
theorem dX7_join_35 : decode cX7_join 35 = .ok (.if_icmp .gt 22, 3) := by decide +kernel
theorem dX7_join_38 : decode cX7_join 38 = .ok (.aload_n 0, 1) := by decide +kernel
theorem dX7_join_39 : decode cX7_join 39 = .ok (.getfield 18, 3) := by decide +kernel
theorem dX7_join_4 : decode cX7_join 4 = .ok (.istore_n 2, 1) := by decide +kernel
theorem dX7_join_42 : decode cX7_join 42 = .ok (.aload_n 0, 1) := by decide +kernel
theorem dX7_join_43 : decode cX7_join 43 = .ok (.getfield 37, 3) := by decide +kernel
theorem dX7_join_46 : decode cX7_join 46 = .ok (.iload_n 2, 1) := by decide +kernel
theorem dX7_join_47 : decode cX7_join 47 = .ok (.iconst 3, 1) := by decide +kernel
theorem dX7_join_48 : decode cX7_join 48 = .ok (.if_icmp .ne 7, 3) := by decide +kernel
theorem dX7_join_5 : decode cX7_join 5 = .ok (.aload_n 0, 1) := by decide +kernel
theorem dX7_join_51 : decode cX7_join 51 = .ok (.iconst 1, 1) := by decide +kernel
theorem dX7_join_52 : decode cX7_join 52 = .ok (.goto 4, 3) := by decide +kernel
theorem dX7_join_55 : decode cX7_join 55 = .ok (.iconst 0, 1) := by decide +kernel
theorem dX7_join_56 : decode cX7_join 56 = .ok (.bastore, 1) := by decide +kernel
theorem dX7_join_57 : decode cX7_join 57 = .ok (.aload_n 0, 1) := by decide +kernel
theorem dX7_join_58 : decode cX7_join 58 = .ok (.iload_n 2, 1) := by decide +kernel
theorem dX7_join_59 : decode cX7_join 59 = .ok (.invokevirtual 41, 3) := by decide +kernel
theorem dX7_join_6 : decode cX7_join 6 = .ok (.getfield 37, 3) := by decide +kernel
theorem dX7_join_62 : decode cX7_join 62 = .ok (.aload_n 0, 1) := by decide +kernel
theorem dX7_join_63 : decode cX7_join 63 = .ok (.iload_n 1, 1) := by decide +kernel
theorem dX7_join_64 : decode cX7_join 64 = .ok (.invokevirtual 60, 3) := by decide +kernel
theorem dX7_join_67 : decode cX7_join 67 = .ok (.aload_n 0, 1) := by decide +kernel
theorem dX7_join_68 : decode cX7_join 68 = .ok (.iconst 1, 1) := by decide +kernel
theorem dX7_join_69 : decode cX7_join 69 = .ok (.putfield 26, 3) := by decide +kernel
theorem dX7_join_72 : decode cX7_join 72 = .ok (.iconst 1, 1) := by decide +kernel
theorem dX7_join_73 : decode cX7_join 73 = .ok (.ireturn, 1) := by decide +kernel
theorem dX7_join_9 : decode cX7_join 9 = .ok (.bipush 64, 2) := by decide +kernel
theorem dX7_joins_0 : decode cX7_joins 0 = .ok (.iload_n 0, 1) := by decide +kernel
theorem dX7_joins_1 : decode cX7_joins 1 = .ok (.invokestatic 85, 3) := by decide +kernel
theorem dX7_joins_4 : decode cX7_joins 4 = .ok (.iconst 1, 1) := by decide +kernel
theorem dX7_joins_5 : decode cX7_joins 5 = .ok (.iconst 5, 1) := by decide +kernel
theorem dX7_joins_6 : decode cX7_joins 6 = .ok (.invokestatic 89, 3) := by decide +kernel
theorem dX7_joins_9 : decode cX7_joins 9 = .ok (.ireturn, 1) := by decide +kernel
theorem dX7_lengthen_0 : decode cX7_lengthen 0 = .ok (.aload_n 0, 1) := by decide +kernel
theorem dX7_lengthen_1 : decode cX7_lengthen 1 = .ok (.getfield 54, 3) := by decide +kernel
theorem dX7_lengthen_11 : decode cX7_lengthen 11 = .ok (.iconst 4, 1) := by decide +kernel
theorem dX7_lengthen_12 : decode cX7_lengthen 12 = .ok (.if_icmp .ge 10, 3) := by decide +kernel
theorem dX7_lengthen_15 : decode cX7_lengthen 15 = .ok (.aload_n 0, 1) := by decide +kernel
theorem dX7_lengthen_16 : decode cX7_lengthen 16 = .ok (.getfield 48, 3) := by decide +kernel
theorem dX7_lengthen_19 : decode cX7_lengthen 19 = .ok (.ifCond .ne 5, 3) := by decide +kernel
theorem dX7_lengthen_22 : decode cX7_lengthen 22 = .ok (.iconst 0, 1) := by decide +kernel
theorem dX7_lengthen_23 : decode cX7_lengthen 23 = .ok (.ireturn, 1) := by decide +kernel
theorem dX7_lengthen_24 : decode cX7_lengthen 24 = .ok (.aload_n 0, 1) := by decide +kernel
theorem dX7_lengthen_25 : decode cX7_lengthen 25 = .ok (.dup, 1) := by decide +kernel
theorem dX7_lengthen_26 : decode cX7_lengthen 26 = .ok (.getfield 54, 3) := by decide +kernel
theorem dX7_lengthen_29 : decode cX7_lengthen 29 = .ok (.iconst 1, 1) := by decide +kernel
theorem dX7_lengthen_30 : decode cX7_lengthen 30 = .ok (.iadd, 1) := by decide +kernel
theorem dX7_lengthen_31 : decode cX7_lengthen 31 = .ok (.putfield 54, 3) := by decide +kernel
theorem dX7_lengthen_34 : decode cX7_lengthen 34 = .ok (.aload_n 0, 1) := by decide +kernel
theorem dX7_lengthen_35 : decode cX7_lengthen 35 = .ok (.getfield 11, 3) := by decide +kernel
theorem dX7_lengthen_38 : decode cX7_lengthen 38 = .ok (.aload_n 0, 1) := by decide +kernel
theorem dX7_lengthen_39 : decode cX7_lengthen 39 = .ok (.getfield 48, 3) := by decide +kernel
theorem dX7_lengthen_4 : decode cX7_lengthen 4 = .ok (.ifCond .eq 18, 3) := by decide +kernel
theorem dX7_lengthen_42 : decode cX7_lengthen 42 = .ok (.iconst 1, 1) := by decide +kernel
theorem dX7_lengthen_43 : decode cX7_lengthen 43 = .ok (.isub, 1) := by decide +kernel
theorem dX7_lengthen_44 : decode cX7_lengthen 44 = .ok (.aload_n 0, 1) := by decide +kernel
theorem dX7_lengthen_45 : decode cX7_lengthen 45 = .ok (.getfield 11, 3) := by decide +kernel
theorem dX7_lengthen_48 : decode cX7_lengthen 48 = .ok (.aload_n 0, 1) := by decide +kernel
theorem dX7_lengthen_49 : decode cX7_lengthen 49 = .ok (.getfield 48, 3) := by decide +kernel
theorem dX7_lengthen_52 : decode cX7_lengthen 52 = .ok (.iconst 1, 1) := by decide +kernel
theorem dX7_lengthen_53 : decode cX7_lengthen 53 = .ok (.isub, 1) := by decide +kernel
theorem dX7_lengthen_54 : decode cX7_lengthen 54 = .ok (.iaload, 1) := by decide +kernel
theorem dX7_lengthen_55 : decode cX7_lengthen 55 = .ok (.bipush 10, 2) := by decide +kernel
theorem dX7_lengthen_57 : decode cX7_lengthen 57 = .ok (.imul, 1) := by decide +kernel
theorem dX7_lengthen_58 : decode cX7_lengthen 58 = .ok (.iload_n 1, 1) := by decide +kernel
theorem dX7_lengthen_59 : decode cX7_lengthen 59 = .ok (.iadd, 1) := by decide +kernel
theorem dX7_lengthen_60 : decode cX7_lengthen 60 = .ok (.iastore, 1) := by decide +kernel
theorem dX7_lengthen_61 : decode cX7_lengthen 61 = .ok (.iconst 1, 1) := by decide +kernel
theorem dX7_lengthen_62 : decode cX7_lengthen 62 = .ok (.ireturn, 1) := by decide +kernel
theorem dX7_lengthen_7 : decode cX7_lengthen 7 = .ok (.aload_n 0, 1) := by decide +kernel
theorem dX7_lengthen_8 : decode cX7_lengthen 8 = .ok (.getfield 54, 3) := by decide +kernel
theorem dX7_level_0 : decode cX7_level 0 = .ok (.iload_n 0, 1) := by decide +kernel
theorem dX7_level_1 : decode cX7_level 1 = .ok (.lookupswitch 120 #[(33, 117), (37, 115), (38, 109), (42, 115), (43, 113), (45, 113), (47, 115), (60, 111), (61, 111), (62, 111), (124, 107), (126, 117)], 107) := by decide +kernel
theorem dX7_level_108 : decode cX7_level 108 = .ok (.iconst 1, 1) := by decide +kernel
theorem dX7_level_109 : decode cX7_level 109 = .ok (.ireturn, 1) := by decide +kernel
theorem dX7_level_110 : decode cX7_level 110 = .ok (.iconst 2, 1) := by decide +kernel
theorem dX7_level_111 : decode cX7_level 111 = .ok (.ireturn, 1) := by decide +kernel
theorem dX7_level_112 : decode cX7_level 112 = .ok (.iconst 3, 1) := by decide +kernel
theorem dX7_level_113 : decode cX7_level 113 = .ok (.ireturn, 1) := by decide +kernel
theorem dX7_level_114 : decode cX7_level 114 = .ok (.iconst 4, 1) := by decide +kernel
theorem dX7_level_115 : decode cX7_level 115 = .ok (.ireturn, 1) := by decide +kernel
theorem dX7_level_116 : decode cX7_level 116 = .ok (.iconst 5, 1) := by decide +kernel
theorem dX7_level_117 : decode cX7_level 117 = .ok (.ireturn, 1) := by decide +kernel
theorem dX7_level_118 : decode cX7_level 118 = .ok (.bipush 6, 2) := by decide +kernel
theorem dX7_level_120 : decode cX7_level 120 = .ok (.ireturn, 1) := by decide +kernel
theorem dX7_level_121 : decode cX7_level 121 = .ok (.iconst 0, 1) := by decide +kernel
theorem dX7_level_122 : decode cX7_level 122 = .ok (.ireturn, 1) := by decide +kernel
theorem dX7_partHere_0 : decode cX7_partHere 0 = .ok (.aload_n 0, 1) := by decide +kernel
theorem dX7_partHere_1 : decode cX7_partHere 1 = .ok (.getfield 57, 3) := by decide +kernel
theorem dX7_partHere_11 : decode cX7_partHere 11 = .ok (.ifCond .le 5, 3) := by decide +kernel
theorem dX7_partHere_14 : decode cX7_partHere 14 = .ok (.iconst 0, 1) := by decide +kernel
theorem dX7_partHere_15 : decode cX7_partHere 15 = .ok (.ireturn, 1) := by decide +kernel
theorem dX7_partHere_16 : decode cX7_partHere 16 = .ok (.aload_n 0, 1) := by decide +kernel
theorem dX7_partHere_17 : decode cX7_partHere 17 = .ok (.iconst 1, 1) := by decide +kernel
theorem dX7_partHere_18 : decode cX7_partHere 18 = .ok (.invokevirtual 41, 3) := by decide +kernel
theorem dX7_partHere_21 : decode cX7_partHere 21 = .ok (.aload_n 0, 1) := by decide +kernel
theorem dX7_partHere_22 : decode cX7_partHere 22 = .ok (.bipush (-59), 2) := by decide +kernel
theorem dX7_partHere_24 : decode cX7_partHere 24 = .ok (.invokevirtual 45, 3) := by decide +kernel
theorem dX7_partHere_27 : decode cX7_partHere 27 = .ok (.aload_n 0, 1) := by decide +kernel
theorem dX7_partHere_28 : decode cX7_partHere 28 = .ok (.getfield 18, 3) := by decide +kernel
theorem dX7_partHere_31 : decode cX7_partHere 31 = .ok (.iconst 0, 1) := by decide +kernel
theorem dX7_partHere_32 : decode cX7_partHere 32 = .ok (.iconst 0, 1) := by decide +kernel
theorem dX7_partHere_33 : decode cX7_partHere 33 = .ok (.bastore, 1) := by decide +kernel
theorem dX7_partHere_34 : decode cX7_partHere 34 = .ok (.aload_n 0, 1) := by decide +kernel
theorem dX7_partHere_35 : decode cX7_partHere 35 = .ok (.iconst 1, 1) := by decide +kernel
theorem dX7_partHere_36 : decode cX7_partHere 36 = .ok (.putfield 26, 3) := by decide +kernel
theorem dX7_partHere_39 : decode cX7_partHere 39 = .ok (.iconst 1, 1) := by decide +kernel
theorem dX7_partHere_4 : decode cX7_partHere 4 = .ok (.ifCond .eq 10, 3) := by decide +kernel
theorem dX7_partHere_40 : decode cX7_partHere 40 = .ok (.ireturn, 1) := by decide +kernel
theorem dX7_partHere_7 : decode cX7_partHere 7 = .ok (.aload_n 0, 1) := by decide +kernel
theorem dX7_partHere_8 : decode cX7_partHere 8 = .ok (.getfield 37, 3) := by decide +kernel
theorem dX7_read_0 : decode cX7_read 0 = .ok (.aload_n 0, 1) := by decide +kernel
theorem dX7_read_1 : decode cX7_read 1 = .ok (.iload_n 3, 1) := by decide +kernel
theorem dX7_read_10 : decode cX7_read 10 = .ok (.iload_n 2, 1) := by decide +kernel
theorem dX7_read_100 : decode cX7_read 100 = .ok (.ifCond .eq 9, 3) := by decide +kernel
theorem dX7_read_103 : decode cX7_read 103 = .ok (.aload_n 0, 1) := by decide +kernel
theorem dX7_read_104 : decode cX7_read 104 = .ok (.bipush (-59), 2) := by decide +kernel
theorem dX7_read_106 : decode cX7_read 106 = .ok (.invokevirtual 45, 3) := by decide +kernel
theorem dX7_read_109 : decode cX7_read 109 = .ok (.iconst (-1), 1) := by decide +kernel
theorem dX7_read_11 : decode cX7_read 11 = .ok (.if_icmp .ge 58, 3) := by decide +kernel
theorem dX7_read_110 : decode cX7_read 110 = .ok (.ireturn, 1) := by decide +kernel
theorem dX7_read_14 : decode cX7_read 14 = .ok (.iload 4, 2) := by decide +kernel
theorem dX7_read_16 : decode cX7_read 16 = .ok (.bipush 60, 2) := by decide +kernel
theorem dX7_read_18 : decode cX7_read 18 = .ok (.if_icmp .ge 51, 3) := by decide +kernel
theorem dX7_read_2 : decode cX7_read 2 = .ok (.invokevirtual 22, 3) := by decide +kernel
theorem dX7_read_21 : decode cX7_read 21 = .ok (.iload 4, 2) := by decide +kernel
theorem dX7_read_23 : decode cX7_read 23 = .ok (.aload_n 1, 1) := by decide +kernel
theorem dX7_read_24 : decode cX7_read 24 = .ok (.arraylength, 1) := by decide +kernel
theorem dX7_read_25 : decode cX7_read 25 = .ok (.if_icmp .ge 44, 3) := by decide +kernel
theorem dX7_read_28 : decode cX7_read 28 = .ok (.aload_n 0, 1) := by decide +kernel
theorem dX7_read_29 : decode cX7_read 29 = .ok (.getfield 26, 3) := by decide +kernel
theorem dX7_read_32 : decode cX7_read 32 = .ok (.ifCond .eq 17, 3) := by decide +kernel
theorem dX7_read_35 : decode cX7_read 35 = .ok (.aload_n 0, 1) := by decide +kernel
theorem dX7_read_36 : decode cX7_read 36 = .ok (.aload_n 1, 1) := by decide +kernel
theorem dX7_read_37 : decode cX7_read 37 = .ok (.iload 4, 2) := by decide +kernel
theorem dX7_read_39 : decode cX7_read 39 = .ok (.iaload, 1) := by decide +kernel
theorem dX7_read_40 : decode cX7_read 40 = .ok (.invokevirtual 30, 3) := by decide +kernel
theorem dX7_read_43 : decode cX7_read 43 = .ok (.ifCond .eq 17, 3) := by decide +kernel
theorem dX7_read_46 : decode cX7_read 46 = .ok (.goto 17, 3) := by decide +kernel
theorem dX7_read_49 : decode cX7_read 49 = .ok (.aload_n 0, 1) := by decide +kernel
theorem dX7_read_5 : decode cX7_read 5 = .ok (.iconst 0, 1) := by decide +kernel
theorem dX7_read_50 : decode cX7_read 50 = .ok (.aload_n 1, 1) := by decide +kernel
theorem dX7_read_51 : decode cX7_read 51 = .ok (.iload 4, 2) := by decide +kernel
theorem dX7_read_53 : decode cX7_read 53 = .ok (.iaload, 1) := by decide +kernel
theorem dX7_read_54 : decode cX7_read 54 = .ok (.invokevirtual 34, 3) := by decide +kernel
theorem dX7_read_57 : decode cX7_read 57 = .ok (.ifCond .ne 6, 3) := by decide +kernel
theorem dX7_read_6 : decode cX7_read 6 = .ok (.istore 4, 2) := by decide +kernel
theorem dX7_read_60 : decode cX7_read 60 = .ok (.iload 4, 2) := by decide +kernel
theorem dX7_read_62 : decode cX7_read 62 = .ok (.ireturn, 1) := by decide +kernel
theorem dX7_read_63 : decode cX7_read 63 = .ok (.iinc 4 1, 3) := by decide +kernel
theorem dX7_read_66 : decode cX7_read 66 = .ok (.goto (-58), 3) := by decide +kernel
theorem dX7_read_69 : decode cX7_read 69 = .ok (.iload_n 2, 1) := by decide +kernel
theorem dX7_read_70 : decode cX7_read 70 = .ok (.bipush 60, 2) := by decide +kernel
theorem dX7_read_72 : decode cX7_read 72 = .ok (.if_icmp .le 6, 3) := by decide +kernel
theorem dX7_read_75 : decode cX7_read 75 = .ok (.bipush 60, 2) := by decide +kernel
theorem dX7_read_77 : decode cX7_read 77 = .ok (.ireturn, 1) := by decide +kernel
theorem dX7_read_78 : decode cX7_read 78 = .ok (.aload_n 0, 1) := by decide +kernel
theorem dX7_read_79 : decode cX7_read 79 = .ok (.getfield 26, 3) := by decide +kernel
theorem dX7_read_8 : decode cX7_read 8 = .ok (.iload 4, 2) := by decide +kernel
theorem dX7_read_82 : decode cX7_read 82 = .ok (.ifCond .ne 10, 3) := by decide +kernel
theorem dX7_read_85 : decode cX7_read 85 = .ok (.aload_n 0, 1) := by decide +kernel
theorem dX7_read_86 : decode cX7_read 86 = .ok (.getfield 37, 3) := by decide +kernel
theorem dX7_read_89 : decode cX7_read 89 = .ok (.ifCond .le 5, 3) := by decide +kernel
theorem dX7_read_92 : decode cX7_read 92 = .ok (.iload_n 2, 1) := by decide +kernel
theorem dX7_read_93 : decode cX7_read 93 = .ok (.ireturn, 1) := by decide +kernel
theorem dX7_read_94 : decode cX7_read 94 = .ok (.aload_n 0, 1) := by decide +kernel
theorem dX7_read_95 : decode cX7_read 95 = .ok (.iconst 1, 1) := by decide +kernel
theorem dX7_read_96 : decode cX7_read 96 = .ok (.invokevirtual 41, 3) := by decide +kernel
theorem dX7_read_99 : decode cX7_read 99 = .ok (.iload_n 3, 1) := by decide +kernel
theorem dX8_addFeatures_0 : decode cX8_addFeatures 0 = .ok (.iconst 0, 1) := by decide +kernel
theorem dX8_addFeatures_1 : decode cX8_addFeatures 1 = .ok (.istore 4, 2) := by decide +kernel
theorem dX8_addFeatures_10 : decode cX8_addFeatures 10 = .ok (.iload 4, 2) := by decide +kernel
theorem dX8_addFeatures_12 : decode cX8_addFeatures 12 = .ok (.aload_n 3, 1) := by decide +kernel
theorem dX8_addFeatures_13 : decode cX8_addFeatures 13 = .ok (.arraylength, 1) := by decide +kernel
theorem dX8_addFeatures_14 : decode cX8_addFeatures 14 = .ok (.if_icmp .ge 27, 3) := by decide +kernel
theorem dX8_addFeatures_17 : decode cX8_addFeatures 17 = .ok (.aload_n 3, 1) := by decide +kernel
theorem dX8_addFeatures_18 : decode cX8_addFeatures 18 = .ok (.iload 4, 2) := by decide +kernel
theorem dX8_addFeatures_20 : decode cX8_addFeatures 20 = .ok (.dup2, 1) := by decide +kernel
theorem dX8_addFeatures_21 : decode cX8_addFeatures 21 = .ok (.iaload, 1) := by decide +kernel
theorem dX8_addFeatures_22 : decode cX8_addFeatures 22 = .ok (.aload_n 0, 1) := by decide +kernel
theorem dX8_addFeatures_23 : decode cX8_addFeatures 23 = .ok (.getfield 13, 3) := by decide +kernel
theorem dX8_addFeatures_26 : decode cX8_addFeatures 26 = .ok (.iload 4, 2) := by decide +kernel
theorem dX8_addFeatures_28 : decode cX8_addFeatures 28 = .ok (.aaload, 1) := by decide +kernel
theorem dX8_addFeatures_29 : decode cX8_addFeatures 29 = .ok (.iload_n 1, 1) := by decide +kernel
theorem dX8_addFeatures_3 : decode cX8_addFeatures 3 = .ok (.iload 4, 2) := by decide +kernel
theorem dX8_addFeatures_30 : decode cX8_addFeatures 30 = .ok (.iaload, 1) := by decide +kernel
theorem dX8_addFeatures_31 : decode cX8_addFeatures 31 = .ok (.iload_n 2, 1) := by decide +kernel
theorem dX8_addFeatures_32 : decode cX8_addFeatures 32 = .ok (.imul, 1) := by decide +kernel
theorem dX8_addFeatures_33 : decode cX8_addFeatures 33 = .ok (.iadd, 1) := by decide +kernel
theorem dX8_addFeatures_34 : decode cX8_addFeatures 34 = .ok (.iastore, 1) := by decide +kernel
theorem dX8_addFeatures_35 : decode cX8_addFeatures 35 = .ok (.iinc 4 1, 3) := by decide +kernel
theorem dX8_addFeatures_38 : decode cX8_addFeatures 38 = .ok (.goto (-35), 3) := by decide +kernel
theorem dX8_addFeatures_41 : decode cX8_addFeatures 41 = .ok (.return_, 1) := by decide +kernel
theorem dX8_addFeatures_5 : decode cX8_addFeatures 5 = .ok (.bipush 6, 2) := by decide +kernel
theorem dX8_addFeatures_7 : decode cX8_addFeatures 7 = .ok (.if_icmp .ge 34, 3) := by decide +kernel
theorem dX8_addPrice_0 : decode cX8_addPrice 0 = .ok (.aload_n 0, 1) := by decide +kernel
theorem dX8_addPrice_1 : decode cX8_addPrice 1 = .ok (.getfield 33, 3) := by decide +kernel
theorem dX8_addPrice_10 : decode cX8_addPrice 10 = .ok (.ireturn, 1) := by decide +kernel
theorem dX8_addPrice_11 : decode cX8_addPrice 11 = .ok (.aload_n 0, 1) := by decide +kernel
theorem dX8_addPrice_12 : decode cX8_addPrice 12 = .ok (.getfield 24, 3) := by decide +kernel
theorem dX8_addPrice_15 : decode cX8_addPrice 15 = .ok (.aload_n 0, 1) := by decide +kernel
theorem dX8_addPrice_16 : decode cX8_addPrice 16 = .ok (.getfield 33, 3) := by decide +kernel
theorem dX8_addPrice_19 : decode cX8_addPrice 19 = .ok (.iload_n 1, 1) := by decide +kernel
theorem dX8_addPrice_20 : decode cX8_addPrice 20 = .ok (.iastore, 1) := by decide +kernel
theorem dX8_addPrice_21 : decode cX8_addPrice 21 = .ok (.aload_n 0, 1) := by decide +kernel
theorem dX8_addPrice_22 : decode cX8_addPrice 22 = .ok (.getfield 27, 3) := by decide +kernel
theorem dX8_addPrice_25 : decode cX8_addPrice 25 = .ok (.aload_n 0, 1) := by decide +kernel
theorem dX8_addPrice_26 : decode cX8_addPrice 26 = .ok (.getfield 33, 3) := by decide +kernel
theorem dX8_addPrice_29 : decode cX8_addPrice 29 = .ok (.iload_n 2, 1) := by decide +kernel
theorem dX8_addPrice_30 : decode cX8_addPrice 30 = .ok (.iastore, 1) := by decide +kernel
theorem dX8_addPrice_31 : decode cX8_addPrice 31 = .ok (.aload_n 0, 1) := by decide +kernel
theorem dX8_addPrice_32 : decode cX8_addPrice 32 = .ok (.getfield 30, 3) := by decide +kernel
theorem dX8_addPrice_35 : decode cX8_addPrice 35 = .ok (.aload_n 0, 1) := by decide +kernel
theorem dX8_addPrice_36 : decode cX8_addPrice 36 = .ok (.getfield 33, 3) := by decide +kernel
theorem dX8_addPrice_39 : decode cX8_addPrice 39 = .ok (.iload_n 3, 1) := by decide +kernel
theorem dX8_addPrice_4 : decode cX8_addPrice 4 = .ok (.bipush 60, 2) := by decide +kernel
theorem dX8_addPrice_40 : decode cX8_addPrice 40 = .ok (.iastore, 1) := by decide +kernel
theorem dX8_addPrice_41 : decode cX8_addPrice 41 = .ok (.aload_n 0, 1) := by decide +kernel
theorem dX8_addPrice_42 : decode cX8_addPrice 42 = .ok (.dup, 1) := by decide +kernel
theorem dX8_addPrice_43 : decode cX8_addPrice 43 = .ok (.getfield 33, 3) := by decide +kernel
theorem dX8_addPrice_46 : decode cX8_addPrice 46 = .ok (.iconst 1, 1) := by decide +kernel
theorem dX8_addPrice_47 : decode cX8_addPrice 47 = .ok (.iadd, 1) := by decide +kernel
theorem dX8_addPrice_48 : decode cX8_addPrice 48 = .ok (.putfield 33, 3) := by decide +kernel
theorem dX8_addPrice_51 : decode cX8_addPrice 51 = .ok (.aload_n 0, 1) := by decide +kernel
theorem dX8_addPrice_52 : decode cX8_addPrice 52 = .ok (.getfield 33, 3) := by decide +kernel
theorem dX8_addPrice_55 : decode cX8_addPrice 55 = .ok (.ireturn, 1) := by decide +kernel
theorem dX8_addPrice_6 : decode cX8_addPrice 6 = .ok (.if_icmp .lt 5, 3) := by decide +kernel
theorem dX8_addPrice_9 : decode cX8_addPrice 9 = .ok (.iconst (-1), 1) := by decide +kernel
theorem dX8_add_0 : decode cX8_add 0 = .ok (.aload_n 0, 1) := by decide +kernel
theorem dX8_add_1 : decode cX8_add 1 = .ok (.getfield 20, 3) := by decide +kernel
theorem dX8_add_10 : decode cX8_add 10 = .ok (.ireturn, 1) := by decide +kernel
theorem dX8_add_102 : decode cX8_add 102 = .ok (.dup_x1, 1) := by decide +kernel
theorem dX8_add_103 : decode cX8_add 103 = .ok (.iconst 1, 1) := by decide +kernel
theorem dX8_add_104 : decode cX8_add 104 = .ok (.iadd, 1) := by decide +kernel
theorem dX8_add_105 : decode cX8_add 105 = .ok (.putfield 20, 3) := by decide +kernel
theorem dX8_add_108 : decode cX8_add 108 = .ok (.ireturn, 1) := by decide +kernel
theorem dX8_add_11 : decode cX8_add 11 = .ok (.aload_n 0, 1) := by decide +kernel
theorem dX8_add_12 : decode cX8_add 12 = .ok (.getfield 13, 3) := by decide +kernel
theorem dX8_add_15 : decode cX8_add 15 = .ok (.iconst 0, 1) := by decide +kernel
theorem dX8_add_16 : decode cX8_add 16 = .ok (.aaload, 1) := by decide +kernel
theorem dX8_add_17 : decode cX8_add 17 = .ok (.aload_n 0, 1) := by decide +kernel
theorem dX8_add_18 : decode cX8_add 18 = .ok (.getfield 20, 3) := by decide +kernel
theorem dX8_add_21 : decode cX8_add 21 = .ok (.iload_n 1, 1) := by decide +kernel
theorem dX8_add_22 : decode cX8_add 22 = .ok (.iastore, 1) := by decide +kernel
theorem dX8_add_23 : decode cX8_add 23 = .ok (.aload_n 0, 1) := by decide +kernel
theorem dX8_add_24 : decode cX8_add 24 = .ok (.getfield 13, 3) := by decide +kernel
theorem dX8_add_27 : decode cX8_add 27 = .ok (.iconst 1, 1) := by decide +kernel
theorem dX8_add_28 : decode cX8_add 28 = .ok (.aaload, 1) := by decide +kernel
theorem dX8_add_29 : decode cX8_add 29 = .ok (.aload_n 0, 1) := by decide +kernel
theorem dX8_add_30 : decode cX8_add 30 = .ok (.getfield 20, 3) := by decide +kernel
theorem dX8_add_33 : decode cX8_add 33 = .ok (.iload_n 2, 1) := by decide +kernel
theorem dX8_add_34 : decode cX8_add 34 = .ok (.iastore, 1) := by decide +kernel
theorem dX8_add_35 : decode cX8_add 35 = .ok (.aload_n 0, 1) := by decide +kernel
theorem dX8_add_36 : decode cX8_add 36 = .ok (.getfield 13, 3) := by decide +kernel
theorem dX8_add_39 : decode cX8_add 39 = .ok (.iconst 2, 1) := by decide +kernel
theorem dX8_add_4 : decode cX8_add 4 = .ok (.bipush 16, 2) := by decide +kernel
theorem dX8_add_40 : decode cX8_add 40 = .ok (.aaload, 1) := by decide +kernel
theorem dX8_add_41 : decode cX8_add 41 = .ok (.aload_n 0, 1) := by decide +kernel
theorem dX8_add_42 : decode cX8_add 42 = .ok (.getfield 20, 3) := by decide +kernel
theorem dX8_add_45 : decode cX8_add 45 = .ok (.iload_n 3, 1) := by decide +kernel
theorem dX8_add_46 : decode cX8_add 46 = .ok (.iastore, 1) := by decide +kernel
theorem dX8_add_47 : decode cX8_add 47 = .ok (.aload_n 0, 1) := by decide +kernel
theorem dX8_add_48 : decode cX8_add 48 = .ok (.getfield 13, 3) := by decide +kernel
theorem dX8_add_51 : decode cX8_add 51 = .ok (.iconst 3, 1) := by decide +kernel
theorem dX8_add_52 : decode cX8_add 52 = .ok (.aaload, 1) := by decide +kernel
theorem dX8_add_53 : decode cX8_add 53 = .ok (.aload_n 0, 1) := by decide +kernel
theorem dX8_add_54 : decode cX8_add 54 = .ok (.getfield 20, 3) := by decide +kernel
theorem dX8_add_57 : decode cX8_add 57 = .ok (.iload 4, 2) := by decide +kernel
theorem dX8_add_59 : decode cX8_add 59 = .ok (.iastore, 1) := by decide +kernel
theorem dX8_add_6 : decode cX8_add 6 = .ok (.if_icmp .lt 5, 3) := by decide +kernel
theorem dX8_add_60 : decode cX8_add 60 = .ok (.aload_n 0, 1) := by decide +kernel
theorem dX8_add_61 : decode cX8_add 61 = .ok (.getfield 13, 3) := by decide +kernel
theorem dX8_add_64 : decode cX8_add 64 = .ok (.iconst 4, 1) := by decide +kernel
theorem dX8_add_65 : decode cX8_add 65 = .ok (.aaload, 1) := by decide +kernel
theorem dX8_add_66 : decode cX8_add 66 = .ok (.aload_n 0, 1) := by decide +kernel
theorem dX8_add_67 : decode cX8_add 67 = .ok (.getfield 20, 3) := by decide +kernel
theorem dX8_add_70 : decode cX8_add 70 = .ok (.iload 5, 2) := by decide +kernel
theorem dX8_add_72 : decode cX8_add 72 = .ok (.iastore, 1) := by decide +kernel
theorem dX8_add_73 : decode cX8_add 73 = .ok (.aload_n 0, 1) := by decide +kernel
theorem dX8_add_74 : decode cX8_add 74 = .ok (.getfield 13, 3) := by decide +kernel
theorem dX8_add_77 : decode cX8_add 77 = .ok (.iconst 5, 1) := by decide +kernel
theorem dX8_add_78 : decode cX8_add 78 = .ok (.aaload, 1) := by decide +kernel
theorem dX8_add_79 : decode cX8_add 79 = .ok (.aload_n 0, 1) := by decide +kernel
theorem dX8_add_80 : decode cX8_add 80 = .ok (.getfield 20, 3) := by decide +kernel
theorem dX8_add_83 : decode cX8_add 83 = .ok (.iload 6, 2) := by decide +kernel
theorem dX8_add_85 : decode cX8_add 85 = .ok (.iastore, 1) := by decide +kernel
theorem dX8_add_86 : decode cX8_add 86 = .ok (.aload_n 0, 1) := by decide +kernel
theorem dX8_add_87 : decode cX8_add 87 = .ok (.getfield 16, 3) := by decide +kernel
theorem dX8_add_9 : decode cX8_add 9 = .ok (.iconst (-1), 1) := by decide +kernel
theorem dX8_add_90 : decode cX8_add 90 = .ok (.aload_n 0, 1) := by decide +kernel
theorem dX8_add_91 : decode cX8_add 91 = .ok (.getfield 20, 3) := by decide +kernel
theorem dX8_add_94 : decode cX8_add 94 = .ok (.iload 7, 2) := by decide +kernel
theorem dX8_add_96 : decode cX8_add 96 = .ok (.iastore, 1) := by decide +kernel
theorem dX8_add_97 : decode cX8_add 97 = .ok (.aload_n 0, 1) := by decide +kernel
theorem dX8_add_98 : decode cX8_add 98 = .ok (.dup, 1) := by decide +kernel
theorem dX8_add_99 : decode cX8_add 99 = .ok (.getfield 20, 3) := by decide +kernel
theorem dX8_has_0 : decode cX8_has 0 = .ok (.iload_n 1, 1) := by decide +kernel
theorem dX8_has_1 : decode cX8_has 1 = .ok (.ifCond .lt 15, 3) := by decide +kernel
theorem dX8_has_12 : decode cX8_has 12 = .ok (.iconst 1, 1) := by decide +kernel
theorem dX8_has_13 : decode cX8_has 13 = .ok (.goto 4, 3) := by decide +kernel
theorem dX8_has_16 : decode cX8_has 16 = .ok (.iconst 0, 1) := by decide +kernel
theorem dX8_has_17 : decode cX8_has 17 = .ok (.ireturn, 1) := by decide +kernel
theorem dX8_has_4 : decode cX8_has 4 = .ok (.iload_n 1, 1) := by decide +kernel
theorem dX8_has_5 : decode cX8_has 5 = .ok (.aload_n 0, 1) := by decide +kernel
theorem dX8_has_6 : decode cX8_has 6 = .ok (.getfield 20, 3) := by decide +kernel
theorem dX8_has_9 : decode cX8_has 9 = .ok (.if_icmp .ge 7, 3) := by decide +kernel
theorem dX8_init_0 : decode cX8_init 0 = .ok (.aload_n 0, 1) := by decide +kernel
theorem dX8_init_1 : decode cX8_init 1 = .ok (.invokespecial 3, 3) := by decide +kernel
theorem dX8_init_13 : decode cX8_init 13 = .ok (.putfield 13, 3) := by decide +kernel
theorem dX8_init_16 : decode cX8_init 16 = .ok (.aload_n 0, 1) := by decide +kernel
theorem dX8_init_17 : decode cX8_init 17 = .ok (.bipush 16, 2) := by decide +kernel
theorem dX8_init_19 : decode cX8_init 19 = .ok (.newarray .int, 2) := by decide +kernel
theorem dX8_init_21 : decode cX8_init 21 = .ok (.putfield 16, 3) := by decide +kernel
theorem dX8_init_24 : decode cX8_init 24 = .ok (.aload_n 0, 1) := by decide +kernel
theorem dX8_init_25 : decode cX8_init 25 = .ok (.iconst 0, 1) := by decide +kernel
theorem dX8_init_26 : decode cX8_init 26 = .ok (.putfield 20, 3) := by decide +kernel
theorem dX8_init_29 : decode cX8_init 29 = .ok (.aload_n 0, 1) := by decide +kernel
theorem dX8_init_30 : decode cX8_init 30 = .ok (.bipush 60, 2) := by decide +kernel
theorem dX8_init_32 : decode cX8_init 32 = .ok (.newarray .int, 2) := by decide +kernel
theorem dX8_init_34 : decode cX8_init 34 = .ok (.putfield 24, 3) := by decide +kernel
theorem dX8_init_37 : decode cX8_init 37 = .ok (.aload_n 0, 1) := by decide +kernel
theorem dX8_init_38 : decode cX8_init 38 = .ok (.bipush 60, 2) := by decide +kernel
theorem dX8_init_4 : decode cX8_init 4 = .ok (.aload_n 0, 1) := by decide +kernel
theorem dX8_init_40 : decode cX8_init 40 = .ok (.newarray .int, 2) := by decide +kernel
theorem dX8_init_42 : decode cX8_init 42 = .ok (.putfield 27, 3) := by decide +kernel
theorem dX8_init_45 : decode cX8_init 45 = .ok (.aload_n 0, 1) := by decide +kernel
theorem dX8_init_46 : decode cX8_init 46 = .ok (.bipush 60, 2) := by decide +kernel
theorem dX8_init_48 : decode cX8_init 48 = .ok (.newarray .int, 2) := by decide +kernel
theorem dX8_init_5 : decode cX8_init 5 = .ok (.bipush 6, 2) := by decide +kernel
theorem dX8_init_50 : decode cX8_init 50 = .ok (.putfield 30, 3) := by decide +kernel
theorem dX8_init_53 : decode cX8_init 53 = .ok (.aload_n 0, 1) := by decide +kernel
theorem dX8_init_54 : decode cX8_init 54 = .ok (.iconst 0, 1) := by decide +kernel
theorem dX8_init_55 : decode cX8_init 55 = .ok (.putfield 33, 3) := by decide +kernel
theorem dX8_init_58 : decode cX8_init 58 = .ok (.return_, 1) := by decide +kernel
theorem dX8_init_7 : decode cX8_init 7 = .ok (.bipush 16, 2) := by decide +kernel
theorem dX8_init_9 : decode cX8_init 9 = .ok (.multianewarray 11 2, 4) := by decide +kernel
theorem dX8_isPart_0 : decode cX8_isPart 0 = .ok (.iload_n 1, 1) := by decide +kernel
theorem dX8_isPart_1 : decode cX8_isPart 1 = .ok (.istore_n 3, 1) := by decide +kernel
theorem dX8_isPart_12 : decode cX8_isPart 12 = .ok (.aload_n 0, 1) := by decide +kernel
theorem dX8_isPart_13 : decode cX8_isPart 13 = .ok (.iload_n 3, 1) := by decide +kernel
theorem dX8_isPart_14 : decode cX8_isPart 14 = .ok (.invokevirtual 36, 3) := by decide +kernel
theorem dX8_isPart_17 : decode cX8_isPart 17 = .ok (.ifCond .eq 23, 3) := by decide +kernel
theorem dX8_isPart_2 : decode cX8_isPart 2 = .ok (.iconst 0, 1) := by decide +kernel
theorem dX8_isPart_20 : decode cX8_isPart 20 = .ok (.iload_n 3, 1) := by decide +kernel
theorem dX8_isPart_21 : decode cX8_isPart 21 = .ok (.iload_n 2, 1) := by decide +kernel
theorem dX8_isPart_22 : decode cX8_isPart 22 = .ok (.if_icmp .ne 5, 3) := by decide +kernel
theorem dX8_isPart_25 : decode cX8_isPart 25 = .ok (.iconst 1, 1) := by decide +kernel
theorem dX8_isPart_26 : decode cX8_isPart 26 = .ok (.ireturn, 1) := by decide +kernel
theorem dX8_isPart_27 : decode cX8_isPart 27 = .ok (.aload_n 0, 1) := by decide +kernel
theorem dX8_isPart_28 : decode cX8_isPart 28 = .ok (.getfield 16, 3) := by decide +kernel
theorem dX8_isPart_3 : decode cX8_isPart 3 = .ok (.istore 4, 2) := by decide +kernel
theorem dX8_isPart_31 : decode cX8_isPart 31 = .ok (.iload_n 3, 1) := by decide +kernel
theorem dX8_isPart_32 : decode cX8_isPart 32 = .ok (.iaload, 1) := by decide +kernel
theorem dX8_isPart_33 : decode cX8_isPart 33 = .ok (.istore_n 3, 1) := by decide +kernel
theorem dX8_isPart_34 : decode cX8_isPart 34 = .ok (.iinc 4 1, 3) := by decide +kernel
theorem dX8_isPart_37 : decode cX8_isPart 37 = .ok (.goto (-32), 3) := by decide +kernel
theorem dX8_isPart_40 : decode cX8_isPart 40 = .ok (.iconst 0, 1) := by decide +kernel
theorem dX8_isPart_41 : decode cX8_isPart 41 = .ok (.ireturn, 1) := by decide +kernel
theorem dX8_isPart_5 : decode cX8_isPart 5 = .ok (.iload 4, 2) := by decide +kernel
theorem dX8_isPart_7 : decode cX8_isPart 7 = .ok (.bipush 16, 2) := by decide +kernel
theorem dX8_isPart_9 : decode cX8_isPart 9 = .ok (.if_icmp .ge 31, 3) := by decide +kernel
theorem dX8_priceIn_0 : decode cX8_priceIn 0 = .ok (.iconst (-1), 1) := by decide +kernel
theorem dX8_priceIn_1 : decode cX8_priceIn 1 = .ok (.istore_n 3, 1) := by decide +kernel
theorem dX8_priceIn_10 : decode cX8_priceIn 10 = .ok (.aload_n 0, 1) := by decide +kernel
theorem dX8_priceIn_11 : decode cX8_priceIn 11 = .ok (.getfield 33, 3) := by decide +kernel
theorem dX8_priceIn_14 : decode cX8_priceIn 14 = .ok (.if_icmp .ge 59, 3) := by decide +kernel
theorem dX8_priceIn_17 : decode cX8_priceIn 17 = .ok (.aload_n 0, 1) := by decide +kernel
theorem dX8_priceIn_18 : decode cX8_priceIn 18 = .ok (.getfield 24, 3) := by decide +kernel
theorem dX8_priceIn_2 : decode cX8_priceIn 2 = .ok (.iconst 0, 1) := by decide +kernel
theorem dX8_priceIn_21 : decode cX8_priceIn 21 = .ok (.iload 5, 2) := by decide +kernel
theorem dX8_priceIn_23 : decode cX8_priceIn 23 = .ok (.iaload, 1) := by decide +kernel
theorem dX8_priceIn_24 : decode cX8_priceIn 24 = .ok (.iload_n 1, 1) := by decide +kernel
theorem dX8_priceIn_25 : decode cX8_priceIn 25 = .ok (.if_icmp .ne 42, 3) := by decide +kernel
theorem dX8_priceIn_28 : decode cX8_priceIn 28 = .ok (.aload_n 0, 1) := by decide +kernel
theorem dX8_priceIn_29 : decode cX8_priceIn 29 = .ok (.getfield 27, 3) := by decide +kernel
theorem dX8_priceIn_3 : decode cX8_priceIn 3 = .ok (.istore 4, 2) := by decide +kernel
theorem dX8_priceIn_32 : decode cX8_priceIn 32 = .ok (.iload 5, 2) := by decide +kernel
theorem dX8_priceIn_34 : decode cX8_priceIn 34 = .ok (.iaload, 1) := by decide +kernel
theorem dX8_priceIn_35 : decode cX8_priceIn 35 = .ok (.iload_n 2, 1) := by decide +kernel
theorem dX8_priceIn_36 : decode cX8_priceIn 36 = .ok (.if_icmp .gt 31, 3) := by decide +kernel
theorem dX8_priceIn_39 : decode cX8_priceIn 39 = .ok (.aload_n 0, 1) := by decide +kernel
theorem dX8_priceIn_40 : decode cX8_priceIn 40 = .ok (.getfield 27, 3) := by decide +kernel
theorem dX8_priceIn_43 : decode cX8_priceIn 43 = .ok (.iload 5, 2) := by decide +kernel
theorem dX8_priceIn_45 : decode cX8_priceIn 45 = .ok (.iaload, 1) := by decide +kernel
theorem dX8_priceIn_46 : decode cX8_priceIn 46 = .ok (.iload_n 3, 1) := by decide +kernel
theorem dX8_priceIn_47 : decode cX8_priceIn 47 = .ok (.if_icmp .lt 20, 3) := by decide +kernel
theorem dX8_priceIn_5 : decode cX8_priceIn 5 = .ok (.iconst 0, 1) := by decide +kernel
theorem dX8_priceIn_50 : decode cX8_priceIn 50 = .ok (.aload_n 0, 1) := by decide +kernel
theorem dX8_priceIn_51 : decode cX8_priceIn 51 = .ok (.getfield 27, 3) := by decide +kernel
theorem dX8_priceIn_54 : decode cX8_priceIn 54 = .ok (.iload 5, 2) := by decide +kernel
theorem dX8_priceIn_56 : decode cX8_priceIn 56 = .ok (.iaload, 1) := by decide +kernel
theorem dX8_priceIn_57 : decode cX8_priceIn 57 = .ok (.istore_n 3, 1) := by decide +kernel
theorem dX8_priceIn_58 : decode cX8_priceIn 58 = .ok (.aload_n 0, 1) := by decide +kernel
theorem dX8_priceIn_59 : decode cX8_priceIn 59 = .ok (.getfield 30, 3) := by decide +kernel
theorem dX8_priceIn_6 : decode cX8_priceIn 6 = .ok (.istore 5, 2) := by decide +kernel
theorem dX8_priceIn_62 : decode cX8_priceIn 62 = .ok (.iload 5, 2) := by decide +kernel
theorem dX8_priceIn_64 : decode cX8_priceIn 64 = .ok (.iaload, 1) := by decide +kernel
theorem dX8_priceIn_65 : decode cX8_priceIn 65 = .ok (.istore 4, 2) := by decide +kernel
theorem dX8_priceIn_67 : decode cX8_priceIn 67 = .ok (.iinc 5 1, 3) := by decide +kernel
theorem dX8_priceIn_70 : decode cX8_priceIn 70 = .ok (.goto (-62), 3) := by decide +kernel
theorem dX8_priceIn_73 : decode cX8_priceIn 73 = .ok (.iload 4, 2) := by decide +kernel
theorem dX8_priceIn_75 : decode cX8_priceIn 75 = .ok (.ireturn, 1) := by decide +kernel
theorem dX8_priceIn_8 : decode cX8_priceIn 8 = .ok (.iload 5, 2) := by decide +kernel
theorem dX9_add_0 : decode cX9_add 0 = .ok (.bipush 24, 2) := by decide +kernel
theorem dX9_add_11 : decode cX9_add 11 = .ok (.bipush 100, 2) := by decide +kernel
theorem dX9_add_13 : decode cX9_add 13 = .ok (.if_icmp .ge 35, 3) := by decide +kernel
theorem dX9_add_16 : decode cX9_add 16 = .ok (.aload_n 0, 1) := by decide +kernel
theorem dX9_add_17 : decode cX9_add 17 = .ok (.getfield 9, 3) := by decide +kernel
theorem dX9_add_2 : decode cX9_add 2 = .ok (.istore_n 2, 1) := by decide +kernel
theorem dX9_add_20 : decode cX9_add 20 = .ok (.aload_n 0, 1) := by decide +kernel
theorem dX9_add_21 : decode cX9_add 21 = .ok (.getfield 15, 3) := by decide +kernel
theorem dX9_add_24 : decode cX9_add 24 = .ok (.iload_n 1, 1) := by decide +kernel
theorem dX9_add_25 : decode cX9_add 25 = .ok (.iload_n 2, 1) := by decide +kernel
theorem dX9_add_26 : decode cX9_add 26 = .ok (.ishr, 1) := by decide +kernel
theorem dX9_add_27 : decode cX9_add 27 = .ok (.sipush 255, 3) := by decide +kernel
theorem dX9_add_3 : decode cX9_add 3 = .ok (.iload_n 2, 1) := by decide +kernel
theorem dX9_add_30 : decode cX9_add 30 = .ok (.iand, 1) := by decide +kernel
theorem dX9_add_31 : decode cX9_add 31 = .ok (.iastore, 1) := by decide +kernel
theorem dX9_add_32 : decode cX9_add 32 = .ok (.aload_n 0, 1) := by decide +kernel
theorem dX9_add_33 : decode cX9_add 33 = .ok (.dup, 1) := by decide +kernel
theorem dX9_add_34 : decode cX9_add 34 = .ok (.getfield 15, 3) := by decide +kernel
theorem dX9_add_37 : decode cX9_add 37 = .ok (.iconst 1, 1) := by decide +kernel
theorem dX9_add_38 : decode cX9_add 38 = .ok (.iadd, 1) := by decide +kernel
theorem dX9_add_39 : decode cX9_add 39 = .ok (.putfield 15, 3) := by decide +kernel
theorem dX9_add_4 : decode cX9_add 4 = .ok (.ifCond .lt 44, 3) := by decide +kernel
theorem dX9_add_42 : decode cX9_add 42 = .ok (.iinc 2 (-8), 3) := by decide +kernel
theorem dX9_add_45 : decode cX9_add 45 = .ok (.goto (-42), 3) := by decide +kernel
theorem dX9_add_48 : decode cX9_add 48 = .ok (.aload_n 0, 1) := by decide +kernel
theorem dX9_add_49 : decode cX9_add 49 = .ok (.getfield 15, 3) := by decide +kernel
theorem dX9_add_52 : decode cX9_add 52 = .ok (.ireturn, 1) := by decide +kernel
theorem dX9_add_7 : decode cX9_add 7 = .ok (.aload_n 0, 1) := by decide +kernel
theorem dX9_add_8 : decode cX9_add 8 = .ok (.getfield 15, 3) := by decide +kernel
theorem dX9_init_0 : decode cX9_init 0 = .ok (.aload_n 0, 1) := by decide +kernel
theorem dX9_init_1 : decode cX9_init 1 = .ok (.invokespecial 3, 3) := by decide +kernel
theorem dX9_init_12 : decode cX9_init 12 = .ok (.aload_n 0, 1) := by decide +kernel
theorem dX9_init_13 : decode cX9_init 13 = .ok (.iconst 0, 1) := by decide +kernel
theorem dX9_init_14 : decode cX9_init 14 = .ok (.putfield 15, 3) := by decide +kernel
theorem dX9_init_17 : decode cX9_init 17 = .ok (.return_, 1) := by decide +kernel
theorem dX9_init_4 : decode cX9_init 4 = .ok (.aload_n 0, 1) := by decide +kernel
theorem dX9_init_5 : decode cX9_init 5 = .ok (.bipush 100, 2) := by decide +kernel
theorem dX9_init_7 : decode cX9_init 7 = .ok (.newarray .int, 2) := by decide +kernel
theorem dX9_init_9 : decode cX9_init 9 = .ok (.putfield 9, 3) := by decide +kernel
